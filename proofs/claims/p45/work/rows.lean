section
-- ===== PART A: goes FIRST, ahead of the names: the tables' words, and 'selects' of the private methods out of them =====
/-- a private method of a class that the tables say can be made, by its rows of tables_1 -/
def lw_okq (q : MethodName × Nat) : Prop := (q.1.cls ≠ "java/lang/invoke/MethodHandle" ∧ q.1.cls ≠ "java/lang/invoke/VarHandle") ∧ Cond.instantiable q.1.cls q.2 ∈ tables_1 ∧ Cond.privateMethod q.1 ∈ tables_1 ∧ Cond.instanceMethod q.1 ∈ tables_1
theorem lw_p0 : lw_okq (⟨"java/lang/Throwable", "fillInStackTrace", "(I)Ljava/lang/Throwable;"⟩, 6) := ⟨⟨by decide +kernel, by decide +kernel⟩, List.mem_of_getElem? (i := 266) (by decide +kernel), List.mem_of_getElem? (i := 264) (by decide +kernel), List.mem_of_getElem? (i := 265) (by decide +kernel)⟩
theorem lw_p1 : lw_okq (⟨"InodeCouncil", "requireWithin", "(III)V"⟩, 11) := ⟨⟨by decide +kernel, by decide +kernel⟩, List.mem_of_getElem? (i := 29) (by decide +kernel), List.mem_of_getElem? (i := 319) (by decide +kernel), List.mem_of_getElem? (i := 320) (by decide +kernel)⟩
theorem lw_p2 : lw_okq (⟨"InodeCouncil", "requireNoTransaction", "()V"⟩, 11) := ⟨⟨by decide +kernel, by decide +kernel⟩, List.mem_of_getElem? (i := 29) (by decide +kernel), List.mem_of_getElem? (i := 339) (by decide +kernel), List.mem_of_getElem? (i := 340) (by decide +kernel)⟩
theorem lw_p3 : lw_okq (⟨"InodeCouncil", "requireOwner", "(I)V"⟩, 11) := ⟨⟨by decide +kernel, by decide +kernel⟩, List.mem_of_getElem? (i := 29) (by decide +kernel), List.mem_of_getElem? (i := 364) (by decide +kernel), List.mem_of_getElem? (i := 365) (by decide +kernel)⟩
theorem lw_p4 : lw_okq (⟨"InodeCouncil", "note", "(C)V"⟩, 11) := ⟨⟨by decide +kernel, by decide +kernel⟩, List.mem_of_getElem? (i := 29) (by decide +kernel), List.mem_of_getElem? (i := 386) (by decide +kernel), List.mem_of_getElem? (i := 387) (by decide +kernel)⟩
theorem lw_p5 : lw_okq (⟨"InodeCouncil", "requireFile", "(I)V"⟩, 11) := ⟨⟨by decide +kernel, by decide +kernel⟩, List.mem_of_getElem? (i := 29) (by decide +kernel), List.mem_of_getElem? (i := 398) (by decide +kernel), List.mem_of_getElem? (i := 399) (by decide +kernel)⟩
theorem lw_p6 : lw_okq (⟨"InodeCouncil", "requireLinks", "(I)V"⟩, 11) := ⟨⟨by decide +kernel, by decide +kernel⟩, List.mem_of_getElem? (i := 29) (by decide +kernel), List.mem_of_getElem? (i := 424) (by decide +kernel), List.mem_of_getElem? (i := 425) (by decide +kernel)⟩
theorem lw_p7 : lw_okq (⟨"InodeCouncil", "removeIfAbandoned", "(I)I"⟩, 11) := ⟨⟨by decide +kernel, by decide +kernel⟩, List.mem_of_getElem? (i := 29) (by decide +kernel), List.mem_of_getElem? (i := 438) (by decide +kernel), List.mem_of_getElem? (i := 439) (by decide +kernel)⟩
theorem lw_p8 : lw_okq (⟨"InodeCouncil", "requirePlace", "(I)V"⟩, 11) := ⟨⟨by decide +kernel, by decide +kernel⟩, List.mem_of_getElem? (i := 29) (by decide +kernel), List.mem_of_getElem? (i := 480) (by decide +kernel), List.mem_of_getElem? (i := 481) (by decide +kernel)⟩
theorem lw_p9 : lw_okq (⟨"InodeCouncil", "requireBlockFor", "(III)V"⟩, 11) := ⟨⟨by decide +kernel, by decide +kernel⟩, List.mem_of_getElem? (i := 29) (by decide +kernel), List.mem_of_getElem? (i := 498) (by decide +kernel), List.mem_of_getElem? (i := 499) (by decide +kernel)⟩
theorem lw_p10 : lw_okq (⟨"InodeCouncil", "quotaOf", "(I)I"⟩, 11) := ⟨⟨by decide +kernel, by decide +kernel⟩, List.mem_of_getElem? (i := 29) (by decide +kernel), List.mem_of_getElem? (i := 519) (by decide +kernel), List.mem_of_getElem? (i := 520) (by decide +kernel)⟩
theorem lw_p11 : lw_okq (⟨"InodeCouncil", "blockOrThrow", "(II)I"⟩, 11) := ⟨⟨by decide +kernel, by decide +kernel⟩, List.mem_of_getElem? (i := 29) (by decide +kernel), List.mem_of_getElem? (i := 578) (by decide +kernel), List.mem_of_getElem? (i := 579) (by decide +kernel)⟩
theorem lw_p12 : lw_okq (⟨"InodeCouncil", "requireBlock", "(I)V"⟩, 11) := ⟨⟨by decide +kernel, by decide +kernel⟩, List.mem_of_getElem? (i := 29) (by decide +kernel), List.mem_of_getElem? (i := 618) (by decide +kernel), List.mem_of_getElem? (i := 619) (by decide +kernel)⟩
theorem lw_p13 : lw_okq (⟨"InodeCouncil", "walkUsers", "()V"⟩, 11) := ⟨⟨by decide +kernel, by decide +kernel⟩, List.mem_of_getElem? (i := 29) (by decide +kernel), List.mem_of_getElem? (i := 628) (by decide +kernel), List.mem_of_getElem? (i := 629) (by decide +kernel)⟩
theorem lw_p14 : lw_okq (⟨"InodeCouncil$Snapshots", "isInRow", "(II)Z"⟩, 7) := ⟨⟨by decide +kernel, by decide +kernel⟩, List.mem_of_getElem? (i := 76) (by decide +kernel), List.mem_of_getElem? (i := 644) (by decide +kernel), List.mem_of_getElem? (i := 645) (by decide +kernel)⟩
theorem lw_p15 : lw_okq (⟨"InodeCouncil$Snapshots", "unusedRow", "()I"⟩, 7) := ⟨⟨by decide +kernel, by decide +kernel⟩, List.mem_of_getElem? (i := 76) (by decide +kernel), List.mem_of_getElem? (i := 685) (by decide +kernel), List.mem_of_getElem? (i := 686) (by decide +kernel)⟩
def lw_privs_1 : List (MethodName × Nat) := [(⟨"java/lang/Throwable", "fillInStackTrace", "(I)Ljava/lang/Throwable;"⟩, 6), (⟨"InodeCouncil", "requireWithin", "(III)V"⟩, 11), (⟨"InodeCouncil", "requireNoTransaction", "()V"⟩, 11), (⟨"InodeCouncil", "requireOwner", "(I)V"⟩, 11), (⟨"InodeCouncil", "note", "(C)V"⟩, 11), (⟨"InodeCouncil", "requireFile", "(I)V"⟩, 11), (⟨"InodeCouncil", "requireLinks", "(I)V"⟩, 11), (⟨"InodeCouncil", "removeIfAbandoned", "(I)I"⟩, 11), (⟨"InodeCouncil", "requirePlace", "(I)V"⟩, 11), (⟨"InodeCouncil", "requireBlockFor", "(III)V"⟩, 11), (⟨"InodeCouncil", "quotaOf", "(I)I"⟩, 11), (⟨"InodeCouncil", "blockOrThrow", "(II)I"⟩, 11), (⟨"InodeCouncil", "requireBlock", "(I)V"⟩, 11), (⟨"InodeCouncil", "walkUsers", "()V"⟩, 11), (⟨"InodeCouncil$Snapshots", "isInRow", "(II)Z"⟩, 7), (⟨"InodeCouncil$Snapshots", "unusedRow", "()I"⟩, 7)]
theorem lw_r1 : ∀ q ∈ lw_privs_1, lw_okq q := List.forall_mem_cons.mpr ⟨lw_p0, List.forall_mem_cons.mpr ⟨lw_p1, List.forall_mem_cons.mpr ⟨lw_p2, List.forall_mem_cons.mpr ⟨lw_p3, List.forall_mem_cons.mpr ⟨lw_p4, List.forall_mem_cons.mpr ⟨lw_p5, List.forall_mem_cons.mpr ⟨lw_p6, List.forall_mem_cons.mpr ⟨lw_p7, List.forall_mem_cons.mpr ⟨lw_p8, List.forall_mem_cons.mpr ⟨lw_p9, List.forall_mem_cons.mpr ⟨lw_p10, List.forall_mem_cons.mpr ⟨lw_p11, List.forall_mem_cons.mpr ⟨lw_p12, List.forall_mem_cons.mpr ⟨lw_p13, List.forall_mem_cons.mpr ⟨lw_p14, List.forall_mem_cons.mpr ⟨lw_p15, fun _ h => absurd h List.not_mem_nil⟩⟩⟩⟩⟩⟩⟩⟩⟩⟩⟩⟩⟩⟩⟩⟩
theorem lw_p16 : lw_okq (⟨"InodeCouncil$Snapshots", "fillRow", "(ILInodeCouncil$State;)V"⟩, 7) := ⟨⟨by decide +kernel, by decide +kernel⟩, List.mem_of_getElem? (i := 76) (by decide +kernel), List.mem_of_getElem? (i := 689) (by decide +kernel), List.mem_of_getElem? (i := 690) (by decide +kernel)⟩
theorem lw_p17 : lw_okq (⟨"InodeCouncil", "requireSnapshot", "(I)V"⟩, 11) := ⟨⟨by decide +kernel, by decide +kernel⟩, List.mem_of_getElem? (i := 29) (by decide +kernel), List.mem_of_getElem? (i := 700) (by decide +kernel), List.mem_of_getElem? (i := 701) (by decide +kernel)⟩
theorem lw_p18 : lw_okq (⟨"InodeCouncil", "requireInSnapshot", "(II)V"⟩, 11) := ⟨⟨by decide +kernel, by decide +kernel⟩, List.mem_of_getElem? (i := 29) (by decide +kernel), List.mem_of_getElem? (i := 718) (by decide +kernel), List.mem_of_getElem? (i := 719) (by decide +kernel)⟩
theorem lw_p19 : lw_okq (⟨"InodeCouncil", "requireHold", "(I)V"⟩, 11) := ⟨⟨by decide +kernel, by decide +kernel⟩, List.mem_of_getElem? (i := 29) (by decide +kernel), List.mem_of_getElem? (i := 780) (by decide +kernel), List.mem_of_getElem? (i := 781) (by decide +kernel)⟩
theorem lw_p20 : lw_okq (⟨"InodeCouncil", "endHold", "(I)I"⟩, 11) := ⟨⟨by decide +kernel, by decide +kernel⟩, List.mem_of_getElem? (i := 29) (by decide +kernel), List.mem_of_getElem? (i := 788) (by decide +kernel), List.mem_of_getElem? (i := 789) (by decide +kernel)⟩
theorem lw_p21 : lw_okq (⟨"InodeCouncil", "areUsersAsWalked", "()Z"⟩, 11) := ⟨⟨by decide +kernel, by decide +kernel⟩, List.mem_of_getElem? (i := 29) (by decide +kernel), List.mem_of_getElem? (i := 1157) (by decide +kernel), List.mem_of_getElem? (i := 1158) (by decide +kernel)⟩
theorem lw_p22 : lw_okq (⟨"InodeCouncil", "areHeldFilesAlive", "()Z"⟩, 11) := ⟨⟨by decide +kernel, by decide +kernel⟩, List.mem_of_getElem? (i := 29) (by decide +kernel), List.mem_of_getElem? (i := 1161) (by decide +kernel), List.mem_of_getElem? (i := 1162) (by decide +kernel)⟩
def lw_privs_2 : List (MethodName × Nat) := [(⟨"InodeCouncil$Snapshots", "fillRow", "(ILInodeCouncil$State;)V"⟩, 7), (⟨"InodeCouncil", "requireSnapshot", "(I)V"⟩, 11), (⟨"InodeCouncil", "requireInSnapshot", "(II)V"⟩, 11), (⟨"InodeCouncil", "requireHold", "(I)V"⟩, 11), (⟨"InodeCouncil", "endHold", "(I)I"⟩, 11), (⟨"InodeCouncil", "areUsersAsWalked", "()Z"⟩, 11), (⟨"InodeCouncil", "areHeldFilesAlive", "()Z"⟩, 11)]
theorem lw_r2 : ∀ q ∈ lw_privs_2, lw_okq q := List.forall_mem_cons.mpr ⟨lw_p16, List.forall_mem_cons.mpr ⟨lw_p17, List.forall_mem_cons.mpr ⟨lw_p18, List.forall_mem_cons.mpr ⟨lw_p19, List.forall_mem_cons.mpr ⟨lw_p20, List.forall_mem_cons.mpr ⟨lw_p21, List.forall_mem_cons.mpr ⟨lw_p22, fun _ h => absurd h List.not_mem_nil⟩⟩⟩⟩⟩⟩⟩
def lw_privs : List (MethodName × Nat) := lw_privs_1 ++ (lw_privs_2)
def lw_tbl : List Cond := k2_sels lw_privs ++ tables_1
theorem lw_privs_ok : ∀ q ∈ lw_privs, lw_okq q := by
  show ∀ q ∈ lw_privs_1 ++ (lw_privs_2), lw_okq q
  exact List.forall_mem_append.mpr ⟨lw_r1, lw_r2⟩
-- ===== end of PART A; then your names; then what follows =====
/-! ===== BEGIN words of one list among another's, by their places ===== -/
theorem goodIn_r {big : List Cond} (ws : List Cond) (ps : List Nat) (hp : ws = ps.filterMap (fun i => big[i]?)) (h : ws.all goodWord = true) : GoodIn big ws := by
  intro w hw
  have h1 := List.all_eq_true.mp h w hw
  rw [hp] at hw
  obtain ⟨i, -, hi⟩ := List.mem_filterMap.mp hw
  have hm : w ∈ big := by first | exact List.mem_of_getElem? hi | exact List.getElem?_mem hi
  exact ⟨hm, good_of_word h1⟩
theorem goodIn_app {big a b : List Cond} (ha : GoodIn big a) (hb : GoodIn big b) : GoodIn big (a ++ b) := fun w h => (List.mem_append.mp h).elim (ha w) (hb w)
theorem goodIn_ca {big a b : List Cond} {c : Cond} (ha : GoodIn big (c :: a)) (hb : GoodIn big b) : GoodIn big (c :: (a ++ b)) := fun w h => (List.mem_cons.mp h).elim (fun e => ha w (List.mem_cons.mpr (Or.inl e))) (fun h => (List.mem_append.mp h).elim (fun h => ha w (List.mem_cons.mpr (Or.inr h))) (hb w))
theorem goodIn_sub {big ws : List Cond} (hm : ∀ w ∈ ws, w ∈ big) (h : ws.all goodWord = true) : GoodIn big ws := fun w hw => ⟨hm w hw, good_of_word (List.all_eq_true.mp h w hw)⟩
/-! ===== END ===== -/

/-- arrays of arrays: the word of their class (the printed rows name it, the kit lacks it) -/
def va_AOA (ty : FieldType) (U : State) : Prop := (Cond.arrayOver (.array ty)).before #[] U = true
theorem va_AOA.use {ty : FieldType} {A : Array Value} {U : State} (h : va_AOA ty U) : (Cond.arrayOver (.array ty)).before A U = true := h
/-! ===== BEGIN new T[n][m]: the outer array a place, the inner ones among the pooled ===== -/
/-- f, but v at every address of l -/
def vr_up {α : Type} (f : Nat → α) (l : List Nat) (v : α) : Nat → α := fun a => if a ∈ l then v else f a
theorem vr_up_in {α : Type} {f : Nat → α} {l : List Nat} {v : α} {a : Nat} (h : a ∈ l) : vr_up f l v a = v := if_pos h
theorem vr_up_ne {α : Type} {f : Nat → α} {l : List Nat} {v : α} {a : Nat} (h : a ∉ l) : vr_up f l v a = f a := if_neg h
theorem vr_rows {L l : List Nat} {f : Nat → va_E} {e : va_E} (h : ∀ a, a ∈ l → a ∉ L) : va_pl L f ++ l.map (fun a => (a, e)) = va_pl (L ++ l) (vr_up f l e) := by
  unfold va_pl
  rw [List.map_append]
  congr 1
  · apply List.map_congr_left
    intro a ha
    rw [vr_up_ne (fun q => h a q ha)]
  · apply List.map_congr_left
    intro a ha
    rw [vr_up_in ha]
theorem vr_lay {X rows : va_W} {x : Nat × va_E} {pl : va_W} {D : va_G} {cl : List vw_C} {H : Heap} (hP : va_P D cl (((X ++ pl) ++ [x]) ++ rows) H) : va_P D cl ((X ++ [x]) ++ (pl ++ rows)) H := by
  rw [List.append_assoc (X ++ pl)] at hP
  have h := va_P.swap hP
  rw [← List.append_assoc X] at h
  have h2 := va_P.swap h
  rw [List.append_assoc (X ++ [x])] at h2
  exact h2
theorem vr_layD {X rows : va_W} {x : Nat × va_E} {pl : va_W} {A : Nat → Prop} (hD : va_D A (((X ++ pl) ++ [x]) ++ rows)) : va_D A ((X ++ [x]) ++ (pl ++ rows)) := by
  rw [List.append_assoc (X ++ pl)] at hD
  have h := va_D.swap hD
  rw [← List.append_assoc X] at h
  have h2 := va_D.swap h
  rw [List.append_assoc (X ++ [x])] at h2
  exact h2
theorem vr_outer (c : ClassId) (N h0 : Nat) : ∀ i : Nat, Jvm.Free.Multi.outerC c N h0 i = arrV c N (fun j => va_rf (if j < i then some (h0 + 1 + j) else none))
  | 0 => by
    show ({ cls := c, slots := Array.replicate N .null, vm := .none } : Cell) = _
    rw [arrV_new]
    refine congrArg (arrV c N) (funext fun j => ?_)
    simp [va_rf]
  | i + 1 => by
    show (Jvm.Free.Multi.outerC c N h0 i).setSlot i (.ref (h0 + 1 + i)) = _
    rw [vr_outer c N h0 i, arrV_store]
    refine congrArg (arrV c N) (funext fun j => ?_)
    by_cases e : j = i
    · subst e
      simp [updV, va_rf]
    · by_cases h : j < i
      · simp [updV, e, h, Nat.lt_succ_of_lt h]
      · simp [updV, e, h, show ¬ j < i + 1 by omega]
section VGM
variable {p : Program} {l : Launch} {e : Env} {R : Room} {s : State} {m : MethodId} {args : Array Value} {below : List Frame} {meth : Method} {c : Code} {H : Heap} {locs : List Loc} {cells slots : Nat} {Q : State → Prop}
variable {cc : ByteArray} {pc : Nat} {ls : Array Slot} {rest : List Value} {D : va_G} {cl : List vw_C} {A : Nat → Prop} {a : Nat} {tys : List (ClassId × FieldType)} {ws : va_W} {H0 : Heap}
theorem va_mna {X : va_W} {L : List Nat} {f : Nat → va_E} {cc : ByteArray} (hexec : p.tables.exec = Jvm.exec) (hb : c.code = cc) {own : String} {index : Nat} {ty : FieldType} {cy : ClassId} (hown : s.vm.findClass own = some m.cls) (hclink : (Cond.classLink own index ("[" ++ (FieldType.array ty).toString)).before args s = true) (hover : va_AOA ty s) (harr : (Cond.arrayClass ty).before args s = true) (hcy : s.vm.findClass (FieldType.array ty).toString = some cy)
    (hK : va_K D cl tys s) (hP : va_P D cl (X ++ va_pl L f) H) (hD : va_D A (X ++ va_pl L f)) (hS : va_S A H0 H locs) (hA : ∀ q, H0.size ≤ q → A q) {n k : Int32} {N' K' : Nat} {z : vp_A} (hn : ¬ n < 0) (hk : ¬ k < 0) (hN : n.toNatClampNeg = N') (hM : k.toNatClampNeg = K')
    (hb1 : N' * 4 ≤ 536870912) (hb2 : K' * componentBytes ty ≤ 536870912) (hb3 : K' ≤ 536870912) (hdf : fits ty (defaultValue ty) = true) (hdd : (defaultValue ty).isDefault = true) (hcells : cells + (1 + N') ≤ R.cells) (hslots : slots + (N' + N' * K') ≤ R.slots) (hz : ∀ c : ClassId, Jvm.Free.Multi.innerC c K' (defaultValue ty) = vp_cell c z) (hdg : decode cc pc = .ok (.multianewarray index 2, 4))
    (kk : ∀ (q : Nat) (r : Nat → Nat) (cA : ClassId) (H1 : Heap), (∀ i j : Nat, i < N' → j < N' → r i = r j → i = j) → (∀ i : Nat, i < N' → r i ∉ L) → va_K D cl (tys ++ [(cA, .array ty)]) s →
      va_P D cl ((X ++ [(q, .inl (cA, N', .inr (.inr (.inr (.inr (fun i => if i < N' then some (r i) else none))))))]) ++ va_pl (L ++ (List.range N').map r) (vr_up f ((List.range N').map r) (.inl (cy, z)))) H1 → va_D A ((X ++ [(q, .inl (cA, N', .inr (.inr (.inr (.inr (fun i => if i < N' then some (r i) else none))))))]) ++ va_pl (L ++ (List.range N').map r) (vr_up f ((List.range N').map r) (.inl (cy, z)))) → va_S A H0 H1 locs →
      W p l e R s m args below meth c H1 locs (cells + 1 + N') (slots + N' + N' * K') Q (F0 m (pc + 4) ls (.ref q :: rest))) : W p l e R s m args below meth c H locs cells slots Q (F0 m pc ls (.int k :: .int n :: rest)) := by
  subst hN
  subst hM
  intro T hT Xs
  obtain ⟨vm₁, cA, comp, -, fA, fC, hO, -, X', step⟩ := Xs.multianewarray2F hexec hown hclink (va_AOA.use hover) harr (g := F0 m pc ls (.int k :: .int n :: rest)) rfl (by rw [hb]; exact hdg) rfl hn hk hb1 hb2 hb3 hdf hdd hcells hslots
  have ec : some cy = some comp := hcy.symm.trans fC
  cases ec
  generalize hF : Jvm.Free.Multi.fill (T.setVm vm₁) cA cy n.toNatClampNeg k.toNatClampNeg (defaultValue ty) n.toNatClampNeg = F at X' step
  have hTh : (T.setVm vm₁).heap = H := hT
  obtain ⟨f1, f2, -, -⟩ := Jvm.Free.Multi.fill_facts (T.setVm vm₁) cA cy n.toNatClampNeg k.toNatClampNeg (defaultValue ty) n.toNatClampNeg
  rw [hF, hTh] at f1 f2
  have hold : ∀ x : Nat, x < H.size → F.heap[x]? = H[x]? := fun x hx => by
    have := Jvm.Free.Multi.fill_old (T.setVm vm₁) cA cy n.toNatClampNeg k.toNatClampNeg (defaultValue ty) (a := x) (by rw [hTh]; exact hx) n.toNatClampNeg
    rw [hF, hTh] at this
    exact this
  have hrow : ∀ j : Nat, j < n.toNatClampNeg → F.heap[H.size + 1 + j]? = some (vp_cell cy z) := fun j hj => by
    have := Jvm.Free.Multi.fill_inner (T.setVm vm₁) cA cy n.toNatClampNeg k.toNatClampNeg (defaultValue ty) n.toNatClampNeg j hj
    rw [hF, hTh, hz] at this
    exact this
  have hout : Jvm.Free.Multi.outerC cA n.toNatClampNeg H.size n.toNatClampNeg = vp_cell cA (n.toNatClampNeg, .inr (.inr (.inr (.inr (fun i => if i < n.toNatClampNeg then some (H.size + 1 + i) else none))))) := by
    rw [vp_cell_q]
    exact vr_outer cA n.toNatClampNeg H.size n.toNatClampNeg
  rw [hout] at f2
  have hlt : ∀ a, a ∈ L → a < H.size := fun a ha => by
    obtain ⟨k9, hk9⟩ := va_pl_get (X := X) (f := f) ha
    exact (hP k9 _ hk9).lt
  have hnl : ∀ i : Nat, i < n.toNatClampNeg → H.size + 1 + i ∉ L := fun i _ h => by
    have := hlt _ h
    omega
  have hnm : ∀ a, a ∈ (List.range n.toNatClampNeg).map (fun i => H.size + 1 + i) → a ∉ L := fun a ha h => by
    obtain ⟨i, -, rfl⟩ := List.mem_map.mp ha
    have := hlt _ h
    omega
  have hP0 : va_P D cl (X ++ va_pl L f) F.heap := hP.kept (fun k9 x hx => hold x.1 ((hP k9 x hx).lt))
  have hP1 : va_P D cl ((X ++ va_pl L f) ++ [(H.size, .inl (cA, n.toNatClampNeg, .inr (.inr (.inr (.inr (fun i => if i < n.toNatClampNeg then some (H.size + 1 + i) else none))))))]) F.heap := hP0.app (fun k9 x hx => by
    have h0 : k9 < 1 := (List.getElem?_eq_some_iff.mp hx).1
    rw [show k9 = 0 by omega] at hx
    cases hx
    exact f2)
  have hP2 : va_P D cl (((X ++ va_pl L f) ++ [(H.size, .inl (cA, n.toNatClampNeg, .inr (.inr (.inr (.inr (fun i => if i < n.toNatClampNeg then some (H.size + 1 + i) else none))))))]) ++ ((List.range n.toNatClampNeg).map (fun i => H.size + 1 + i)).map (fun a => (a, .inl (cy, z)))) F.heap := hP1.app (fun k9 x hx => by
    obtain ⟨a, ha, rfl⟩ := List.mem_map.mp (List.mem_of_getElem? hx)
    obtain ⟨i, hi, rfl⟩ := List.mem_map.mp ha
    exact hrow i (List.mem_range.mp hi))
  have hD2 : va_D A (((X ++ va_pl L f) ++ [(H.size, .inl (cA, n.toNatClampNeg, .inr (.inr (.inr (.inr (fun i => if i < n.toNatClampNeg then some (H.size + 1 + i) else none))))))]) ++ ((List.range n.toNatClampNeg).map (fun i => H.size + 1 + i)).map (fun a => (a, .inl (cy, z)))) := by
    have hD1 := hD.push (e := .inl (cA, n.toNatClampNeg, .inr (.inr (.inr (.inr (fun i => if i < n.toNatClampNeg then some (H.size + 1 + i) else none)))))) hP rfl (hA _ hS.1)
    generalize hW1 : (X ++ va_pl L f) ++ [(H.size, .inl (cA, n.toNatClampNeg, .inr (.inr (.inr (.inr (fun i => if i < n.toNatClampNeg then some (H.size + 1 + i) else none))))))] = W1 at hD1 hP1 ⊢
    have hle : ∀ (k9 : Nat) (x : Nat × va_E), W1[k9]? = some x → x.1 ≤ H.size := fun k9 x hx => by
      rw [← hW1] at hx
      by_cases hl : k9 < (X ++ va_pl L f).length
      · rw [List.getElem?_append_left hl] at hx
        exact Nat.le_of_lt ((hP k9 x hx).lt)
      · rw [List.getElem?_append_right (by omega)] at hx
        have h0 : k9 - (X ++ va_pl L f).length < 1 := (List.getElem?_eq_some_iff.mp hx).1
        rw [show k9 - (X ++ va_pl L f).length = 0 by omega] at hx
        cases hx
        exact Nat.le_refl _
    have hr : ∀ (k9 : Nat) (x : Nat × va_E), (((List.range n.toNatClampNeg).map (fun i => H.size + 1 + i)).map (fun a => ((a, .inl (cy, z)) : Nat × va_E)))[k9]? = some x → x.1 = H.size + 1 + k9 := fun k9 x hx => by
      rw [List.getElem?_map, List.getElem?_map] at hx
      by_cases h9 : k9 < n.toNatClampNeg
      · rw [List.getElem?_range h9] at hx
        cases hx
        rfl
      · have hn0 : (List.range n.toNatClampNeg)[k9]? = none := List.getElem?_eq_none (by rw [List.length_range]; omega)
        rw [hn0] at hx
        cases hx
    refine ⟨fun i j x y hi hj hxy => ?_, fun k9 x hx => ?_⟩
    · by_cases h1 : i < W1.length <;> by_cases h2 : j < W1.length
      · rw [List.getElem?_append_left h1] at hi
        rw [List.getElem?_append_left h2] at hj
        exact hD1.1 i j x y hi hj hxy
      · rw [List.getElem?_append_left h1] at hi
        rw [List.getElem?_append_right (by omega)] at hj
        have := hle _ _ hi
        have := hr _ _ hj
        omega
      · rw [List.getElem?_append_right (by omega)] at hi
        rw [List.getElem?_append_left h2] at hj
        have := hle _ _ hj
        have := hr _ _ hi
        omega
      · rw [List.getElem?_append_right (by omega)] at hi hj
        have := hr _ _ hi
        have := hr _ _ hj
        omega
    · by_cases h1 : k9 < W1.length
      · rw [List.getElem?_append_left h1] at hx
        exact hD1.2 k9 x hx
      · rw [List.getElem?_append_right (by omega)] at hx
        have := hr _ _ hx
        exact hA _ (by have := hS.1; omega)
  have hAr : ArrOfT s cA (.array ty) := fun N9 z9 => by
    obtain ⟨-, k9, hk9, cm9, hkk9⟩ := (hO 0 0 0).1
    exact ⟨(fun q hq => by cases hq), k9, hk9, cm9, hkk9⟩
  have hK2 : va_K D cl (tys ++ [(cA, .array ty)]) s := ⟨hK.1, fun k9 x hx => by
    by_cases hl : k9 < tys.length
    · rw [List.getElem?_append_left hl] at hx
      exact hK.2 k9 x hx
    · rw [List.getElem?_append_right (by omega)] at hx
      have h0 : k9 - tys.length < 1 := (List.getElem?_eq_some_iff.mp hx).1
      rw [show k9 - tys.length = 0 by omega] at hx
      cases hx
      exact ⟨hAr, fA⟩⟩
  obtain ⟨t, a1, b1⟩ := kk H.size (fun i => H.size + 1 + i) cA F.heap (fun i j _ _ h => by have h9 : H.size + 1 + i = H.size + 1 + j := h; omega) hnl hK2 (by rw [← vr_rows hnm]; exact vr_lay hP2) (by rw [← vr_rows hnm]; exact vr_layD hD2) ⟨by rw [f1]; have := hS.1; omega, fun x h1 h2 => (hold x (Nat.lt_of_lt_of_le h1 hS.1)).trans (hS.2.1 x h1 h2), hS.2.2⟩ F rfl X'
  refine ⟨t, step t ?_, b1⟩
  have e : T.heap.size = H.size := by rw [hT]
  rw [e]
  exact a1
end VGM
/-! ===== END ===== -/

/-! ===== BEGIN exceptions that leave a method, and their catching by the caller (launches without stack traces) ===== -/
section VXA
/-! The laws vx_back, vx_callV, vx_callS, vx_callSW, vx_throw0, vx_throwS follow proofs of the library, with one case more: JvmDerived/Free/Laws.lean (Back.of_free), Shelf42/LK1.lean (callV, callS), Shelf/KitTraced.lean (throwNew0V, throwNewS). -/
/-- where a method has thrown q: the class by its name, the cell, what was written, the world -/
def vx_T (XC : String → State → State → Prop) (st : State) (q : Addr) (t : State) (mc ms : Nat) (free : Addr → Prop) : Prop :=
  ∃ (E : String) (ce : Cell) (L : List Loc), XC E st t ∧ t.heap[q]? = some ce ∧ ce.vm = .none ∧ st.vm.findClass E = some ce.cls ∧ st.WarmedH t.vm ∧ st.sameButNew ({ t with vm := st.vm } : State) L mc ms ∧ ∀ z ∈ L, free z.base
def vx_Q (Qc : Array Value → State → Outcome → State → Prop) (XC : String → State → State → Prop) (mc ms : Nat) (free : Addr → Prop) : Array Value → State → Outcome → State → Prop := fun a st o t =>
  (Qc a st o t ∧ ∃ L, FrameEnd st o t L mc ms ∧ ∀ q ∈ L, free q.base) ∨ ∃ q, o = .threw q ∧ vx_T XC st q t mc ms free
/-- a callee that returns or throws -/
def vx_Met (l : Launch) (y : MethodName) (ws : List Cond) (rm : Room) (Pc : Array Value → State → Prop) (Qc : Array Value → State → Outcome → State → Prop) (XC : String → State → State → Prop) (mc ms : Nat) (free : Addr → Prop) : Prop :=
  MetFree l y (headSpec ws rm) Pc (fun _ _ _ _ _ => True) (vx_Q Qc XC mc ms free)
def vx_Post (XC : String → State → State → Prop) (mc ms : Nat) (free : Addr → Prop) : Pt → Array Value → Addr → Pt → Prop := fun A a q B =>
  ∃ (g : JFrame) (mk : MethodId) (t : State) (L : List Loc) (E : String) (ce : Cell), B.U.heap = t.heap ∧ B.U.vm = t.vm ∧ XC E (A.U.calling g mk a) t ∧ t.heap[q]? = some ce ∧ ce.vm = .none ∧ A.U.vm.findClass E = some ce.cls ∧ B.locs = A.locs ++ L ∧ (∀ z ∈ L, free z.base) ∧ B.cells = A.cells + mc ∧ B.slots = A.slots + ms
def vx_Back (l : Launch) (R : Room) (p : Program) (e : Env) (below : List Frame) (s : State) (sargs : Array Value) (y : MethodName) (len W9 : Nat)
    (Pre : Pt → Array Value → Prop) (Post : Pt → Array Value → Option Value → Pt → Prop) (PostX : Pt → Array Value → Addr → Pt → Prop) : Prop :=
  ∀ (m : MethodId) (meth : Method) (c : Code) (A : Pt) (g : JFrame) (ig : Instr) (mk : MethodId) (a : Array Value),
    Stand p l e R s m sargs below meth c A.U A.locs A.cells A.slots → g.method = m → g.locals.size = c.maxLocals → decode c.code g.pc = .ok (ig, len) →
    2 * g.monitorRoom + (g.stack.map fun v => v.category).sum ≤ W9 → A.U.methodNamed? y = some mk → Pre A a →
    (∃ (v : Option Value) (B : Pt), Stand p l e R s m sargs below meth c B.U B.locs B.cells B.slots ∧ Post A a v B ∧
      Steps p.tables e below (doInvoke e (A.U.setTop g) [] mk a).1 (B.U.setTop { g with pc := g.pc + len, stack := v.toList ++ g.stack })) ∨
    (∃ (q : Addr) (B : Pt), Stand p l e R s m sargs below meth c B.U B.locs B.cells B.slots ∧ PostX A a q B ∧
      Steps p.tables e below (doInvoke e (A.U.setTop g) [] mk a).1 ((B.U.setTop g).pushFrame (.throwing q)))
section Payer
variable {l : Launch} {R : Room} {p : Program} {e : Env} {below : List Frame} {s : State} {sargs : Array Value} {y : MethodName} {len W9 : Nat}
theorem vx_back {ws : List Cond} {rm : Room} {Pc : Array Value → State → Prop} {Qc : Array Value → State → Outcome → State → Prop} {XC : String → State → State → Prop} {mc ms : Nat} {free : Addr → Prop} {bytes : ByteArray} {maxL : Nat} {ret : Option FieldType}
    (hM : vx_Met l y ws rm Pc Qc XC mc ms free) (hblind : FrameBlind Pc) (hrc : rm.cells = mc) (hrs : rm.slots = ms)
    (hframes : rm.frames + 1 ≤ R.frames) (hlocals : W9 + (maxL + 11) + rm.locals ≤ R.locals)
    (hws : ∀ w ∈ ws, ∀ a' U, s.WarmedH U.vm → w.before a' U = true) (hcode : Cond.code y bytes maxL ret ∈ ws) (hinit : ∀ a' U, s.WarmedH U.vm → (Cond.initialized y.cls).before a' U = true) :
    vx_Back l R p e below s sargs y len W9 (PreOf R mc ms Pc) (PostOf Qc mc ms free) (vx_Post XC mc ms free) := by
  intro m meth c A g ig mk a X hg hsize hdg hW hn hp
  have h1 : (headSpec ws rm).pre.before a A.U = true := atoms_intro fun w hw => hws w hw _ _ X.warmed
  have h2 : (Cond.code y bytes maxL ret).before a A.U = true := hws _ hcode _ _ X.warmed
  have h3 : (Cond.initialized y.cls).before a A.U = true := hinit _ _ X.warmed
  have h4 : A.cells + (headSpec ws rm).room.cells ≤ R.cells := by rw [show (headSpec ws rm).room.cells = mc from hrc]; exact hp.1
  have h5 : A.slots + (headSpec ws rm).room.slots ≤ R.slots := by rw [show (headSpec ws rm).room.slots = ms from hrs]; exact hp.2.1
  have hPc : Pc a (A.U.calling g mk a) := hblind _ _ _ _ hp.2.2
  obtain ⟨U, Ls, c0, s0⟩ := A
  dsimp only [Pt.U, Pt.locs, Pt.cells, Pt.slots] at h1 h2 h3 h4 h5 X hn hPc ⊢
  obtain ⟨methY, cY, hmY, hcY, -, hlY, -, -, -, -⟩ := Cond.code_spec hn h2
  obtain ⟨kY, hkY, -⟩ := className_of_methodNamed hn
  have hinitY : kY.init = .initialized := Cond.initialized_spec (findClass_of_methodNamed hn) hkY h3
  have h : At U g.method c below := by rw [hg]; exact X.here
  have hlocals9 : W9 + (maxL + 11) + (headSpec ws rm).room.locals ≤ R.locals := hlocals
  have happ : (headSpec ws rm).appliesLoose y e.platform (U.calling g mk a) = true :=
    Spec.appliesLoose_calling (g := g) h hdg hn hkY hinitY
      (X.room_calling (g := g) (R' := (headSpec ws rm).room) hsize hmY hcY hframes (by rw [hlY]; omega) h4 h5) h1
  obtain ⟨mid, hmid⟩ := h.above
  have hfr : (U.setTop g).frames = (.java g :: mid) ++ below := by rw [State.frames_setTop' g h.top, hmid]; rfl
  obtain ⟨o, s₂, hsteps, -, hend, hq⟩ := Steps.callFree hM p X.admits X.cas X.clock (acts := []) hfr happ hPc trivial
  have hq' : vx_Q Qc XC mc ms free a (U.calling g mk a) o s₂ := hq
  rw [State.frames_setTop' g h.top] at hend
  obtain ⟨g₀, hg0⟩ := Option.isSome_iff_exists.mp h.top
  obtain ⟨r, hr⟩ := State.topJava?_eq_some.mp hg0
  have hr' : (({ U with heap := s₂.heap, slotsUsed := s₂.slotsUsed } : State).setVm s₂.vm).frames = .java g₀ :: r := hr
  rcases hq' with ⟨hqc, L, hfe, hL⟩ | ⟨q, rfl, E, ce, L, hx, hce, hcv, hcl, hW₂, hsm, hL⟩
  · obtain ⟨⟨v, rfl⟩, hW₂, e2, q2, q3, q4, q5, q6⟩ := id hfe
    have e3 : s₂ = ({ (U.calling g mk a).setFrames s₂.frames with heap := s₂.heap, slotsUsed := s₂.slotsUsed } : State).setVm s₂.vm := by
      have : s₂ = ({ s₂ with vm := (U.calling g mk a).vm } : State).setVm s₂.vm := rfl
      rw [e2] at this
      exact this
    obtain ⟨c₂, i₂, len₂, hc₂, hd₂, hf₂⟩ := hend
    have hW' : U.WarmedH s₂.vm := hW₂
    have hcc : c₂ = c := by
      have h1 : s₂.code? g.method = U.code? g.method := by
        rw [State.code?_eq, State.code?_eq, hW'.alike.method?]
      exact Option.some.inj (hc₂.symm.trans (h1.trans h.code))
    subst hcc
    have hlen : len₂ = len := by rw [hdg] at hd₂; cases hd₂; rfl
    subst hlen
    have hs₂ : s₂ = (({ U with heap := s₂.heap, slotsUsed := s₂.slotsUsed } : State).setVm s₂.vm).setTop { g with pc := g.pc + len₂, stack := v.toList ++ g.stack } := by
      refine e3.trans ?_
      rw [hf₂, State.calling_eq h.top, State.setFrames_setFrames, State.setTop_of_frames _ hr', hr]
      rfl
    have hsame : U.sameButNew ({ U with heap := s₂.heap, slotsUsed := s₂.slotsUsed } : State) L mc ms := by
      refine ⟨?_, q2, q3, q4, q5, q6⟩
      obtain ⟨t, ht, -⟩ := State.frames_cons hr
      show ({ U with heap := s₂.heap, slotsUsed := s₂.slotsUsed } : State) = { U.setFrames U.frames with heap := s₂.heap, slotsUsed := s₂.slotsUsed }
      rw [State.setFrames_self ht]
    subst hg
    refine Or.inl ⟨v, ⟨(({ U with heap := s₂.heap, slotsUsed := s₂.slotsUsed } : State).setVm s₂.vm), Ls ++ L, c0 + mc, s0 + ms⟩,
      ⟨X.admits, X.cas, X.clock, X.frames, X.room, X.hears, X.method, X.code, (X.here.setHeapUsed s₂.heap s₂.slotsUsed).setVm hW'.alike, X.tail, State.WarmedH.trans X.warmed hW', X.limits, X.bytes, X.same.trans (hsame.setVm s.vm)⟩,
      ⟨g, mk, s₂, L, rfl, rfl, hqc, rfl, hL, rfl, rfl⟩, ?_⟩
    show Steps p.tables e below _ ((({ U with heap := s₂.heap, slotsUsed := s₂.slotsUsed } : State).setVm s₂.vm).setTop { g with pc := g.pc + len₂, stack := v.toList ++ g.stack })
    rw [← hs₂]
    exact hsteps
  · obtain ⟨e2, q2, q3, q4, q5, q6⟩ := id hsm
    have e3 : s₂ = ({ (U.calling g mk a).setFrames s₂.frames with heap := s₂.heap, slotsUsed := s₂.slotsUsed } : State).setVm s₂.vm := by
      have : s₂ = ({ s₂ with vm := (U.calling g mk a).vm } : State).setVm s₂.vm := rfl
      rw [e2] at this
      exact this
    have hf₂ : s₂.frames = .throwing q :: .java g :: U.frames.tail := hend
    have hW' : U.WarmedH s₂.vm := hW₂
    have hs₂ : s₂ = ((({ U with heap := s₂.heap, slotsUsed := s₂.slotsUsed } : State).setVm s₂.vm).setTop g).pushFrame (.throwing q) := by
      refine e3.trans ?_
      rw [hf₂, State.calling_eq h.top, State.setFrames_setFrames, State.pushFrame, State.frames_setTop _ hr', State.setTop_of_frames _ hr', State.setFrames_setFrames, hr]
      rfl
    have hsame : U.sameButNew ({ U with heap := s₂.heap, slotsUsed := s₂.slotsUsed } : State) L mc ms := by
      refine ⟨?_, q2, q3, q4, q5, q6⟩
      obtain ⟨t, ht, -⟩ := State.frames_cons hr
      show ({ U with heap := s₂.heap, slotsUsed := s₂.slotsUsed } : State) = { U.setFrames U.frames with heap := s₂.heap, slotsUsed := s₂.slotsUsed }
      rw [State.setFrames_self ht]
    subst hg
    refine Or.inr ⟨q, ⟨(({ U with heap := s₂.heap, slotsUsed := s₂.slotsUsed } : State).setVm s₂.vm), Ls ++ L, c0 + mc, s0 + ms⟩,
      ⟨X.admits, X.cas, X.clock, X.frames, X.room, X.hears, X.method, X.code, (X.here.setHeapUsed s₂.heap s₂.slotsUsed).setVm hW'.alike, X.tail, State.WarmedH.trans X.warmed hW', X.limits, X.bytes, X.same.trans (hsame.setVm s.vm)⟩,
      ⟨g, mk, s₂, L, E, ce, rfl, rfl, hx, hce, hcv, hcl, rfl, hL, rfl, rfl⟩, ?_⟩
    show Steps p.tables e below _ (((({ U with heap := s₂.heap, slotsUsed := s₂.slotsUsed } : State).setVm s₂.vm).setTop g).pushFrame (.throwing q))
    rw [← hs₂]
    exact hsteps
end Payer
section Calls
variable {p : Program} {l : Launch} {e : Env} {R : Room} {s : State} {m : MethodId} {args : Array Value} {below : List Frame} {meth : Method} {c : Code} {T : State} {locs : List Loc} {cells slots : Nat}
theorem vx_callV (X : Stand p l e R s m args below meth c T locs cells slots) (hexec : p.tables.exec = Jvm.exec) {own C : String} {index : Nat} {y : MethodName} {bytes : ByteArray} {maxL : Nat} {ret : Option FieldType}
    (hown : s.vm.findClass own = some m.cls) (hlink : (Cond.methodLink own index y).before args s = true) (hinst : (Cond.instanceMethod y).before args s = true) (hsel : (Cond.selects C y y).before args s = true)
    (hcode : (Cond.code y bytes maxL ret).before args s = true) (hy : y.cls ≠ "java/lang/invoke/MethodHandle" ∧ y.cls ≠ "java/lang/invoke/VarHandle")
    {W9 : Nat} {Pre : Pt → Array Value → Prop} {Post : Pt → Array Value → Option Value → Pt → Prop} {PostX : Pt → Array Value → Addr → Pt → Prop} (hK : vx_Back l R p e below s args y 3 W9 Pre Post PostX)
    {b : Addr} {cellB : Cell} (hcell : T.heap[b]? = some cellB) (hobj : cellB.vm.isStatics = false) (hcls : s.vm.findClass C = some cellB.cls)
    {g : JFrame} (hg : g.method = m) (hsize : g.locals.size = c.maxLocals) {argsL rest : List Value} (hlen : ∀ sig, parseMethodDescriptor y.desc = some sig → argsL.length = sig.parameters.length)
    (hstack : g.stack = argsL.reverse ++ .ref b :: rest) (hW : 2 * g.monitorRoom + (rest.map fun v => v.category).sum ≤ W9) (hdg : decode c.code g.pc = .ok (.invokevirtual index, 3))
    (hpre : ∀ vm₁, s.WarmedH vm₁ → Pre ⟨T.setVm vm₁, locs, cells, slots⟩ (Value.ref b :: argsL).toArray) :
    (∃ (v : Option Value) (vm₁ : Vm) (B : Pt), s.WarmedH vm₁ ∧ Stand p l e R s m args below meth c B.U B.locs B.cells B.slots ∧ Post ⟨T.setVm vm₁, locs, cells, slots⟩ (Value.ref b :: argsL).toArray v B ∧
      ∀ target, Steps p.tables e below (B.U.setTop { g with pc := g.pc + 3, stack := v.toList ++ rest }) target → Steps p.tables e below (T.setTop g) target) ∨
    (∃ (q : Addr) (vm₁ : Vm) (B : Pt), s.WarmedH vm₁ ∧ Stand p l e R s m args below meth c B.U B.locs B.cells B.slots ∧ PostX ⟨T.setVm vm₁, locs, cells, slots⟩ (Value.ref b :: argsL).toArray q B ∧
      Steps p.tables e below (T.setTop g) ((B.U.setTop { g with stack := rest }).pushFrame (.throwing q))) := by
  obtain ⟨mk, methM, hnamed, hmethM, hstM, habM⟩ := Cond.instanceMethod_spec hinst
  obtain ⟨methM', cM, hmethM', -, -, -, -, -, -, hsigM⟩ := Cond.code_spec hnamed hcode
  cases hmethM.symm.trans hmethM'
  obtain ⟨c2, r2, m2, q1, q2, q3, q4, kP, hkP, hkPi⟩ := Cond.selects_spec hsel
  cases hcls.symm.trans q1
  cases (State.methodFound?_of_named hnamed hy).symm.trans q2
  cases hnamed.symm.trans q3
  have hselP : selectMethod e.platform s.vm cellB.cls mk = .method mk := by rw [Launch.admits_selectMethod X.admits]; exact q4
  obtain ⟨vm₁, X₁, hstep₁⟩ := X.invokevirtual hexec hown hlink hnamed hmethM hstM hkP hkPi hy (a := b) (cell := cellB) hcell
    (fun z h => by rw [h] at hobj; cases hobj) hselP hmethM habM hkP hkPi (g := g) hg (argsL := argsL) (rest := rest) (hlen _ hsigM) hstack hdg
  rcases hK m meth c ⟨T.setVm vm₁, locs, cells, slots⟩ { g with stack := rest } (.invokevirtual index) mk (Value.ref b :: argsL).toArray X₁ hg hsize hdg hW (X₁.named hnamed) (hpre vm₁ X₁.warmed) with ⟨v, B, X', hpost, hsteps⟩ | ⟨q, B, X', hpost, hsteps⟩
  · exact Or.inl ⟨v, vm₁, B, X₁.warmed, X', hpost, fun target h => hstep₁ _ fun acts => by rw [doInvoke_state]; exact hsteps.trans h⟩
  · exact Or.inr ⟨q, vm₁, B, X₁.warmed, X', hpost, hstep₁ _ fun acts => by rw [doInvoke_state]; exact hsteps⟩
theorem vx_callS (X : Stand p l e R s m args below meth c T locs cells slots) (hexec : p.tables.exec = Jvm.exec) {own : String} {index : Nat} {y : MethodName} {bytes : ByteArray} {maxL : Nat} {ret : Option FieldType}
    (hown : s.vm.findClass own = some m.cls) (hlink : (Cond.methodLink own index y).before args s = true) (hstat : (Cond.static y).before args s = true) (hinit : (Cond.initialized y.cls).before args s = true)
    (hcode : (Cond.code y bytes maxL ret).before args s = true) (hy : y.cls ≠ "java/lang/invoke/MethodHandle" ∧ y.cls ≠ "java/lang/invoke/VarHandle")
    {W9 : Nat} {Pre : Pt → Array Value → Prop} {Post : Pt → Array Value → Option Value → Pt → Prop} {PostX : Pt → Array Value → Addr → Pt → Prop} (hK : vx_Back l R p e below s args y 3 W9 Pre Post PostX)
    {g : JFrame} (hg : g.method = m) (hsize : g.locals.size = c.maxLocals) {argsL rest : List Value} (hlen : ∀ sig, parseMethodDescriptor y.desc = some sig → argsL.length = sig.parameters.length)
    (hstack : g.stack = argsL.reverse ++ rest) (hW : 2 * g.monitorRoom + (rest.map fun v => v.category).sum ≤ W9) (hdg : decode c.code g.pc = .ok (.invokestatic index, 3))
    (hpre : ∀ vm₁, s.WarmedH vm₁ → Pre ⟨T.setVm vm₁, locs, cells, slots⟩ argsL.toArray) :
    (∃ (v : Option Value) (vm₁ : Vm) (B : Pt), s.WarmedH vm₁ ∧ Stand p l e R s m args below meth c B.U B.locs B.cells B.slots ∧ Post ⟨T.setVm vm₁, locs, cells, slots⟩ argsL.toArray v B ∧
      ∀ target, Steps p.tables e below (B.U.setTop { g with pc := g.pc + 3, stack := v.toList ++ rest }) target → Steps p.tables e below (T.setTop g) target) ∨
    (∃ (q : Addr) (vm₁ : Vm) (B : Pt), s.WarmedH vm₁ ∧ Stand p l e R s m args below meth c B.U B.locs B.cells B.slots ∧ PostX ⟨T.setVm vm₁, locs, cells, slots⟩ argsL.toArray q B ∧
      Steps p.tables e below (T.setTop g) ((B.U.setTop { g with stack := rest }).pushFrame (.throwing q))) := by
  obtain ⟨mk, hnamed⟩ := Cond.code_named hcode
  obtain ⟨methM, cM, hmethM, -, -, -, -, -, -, hsigM⟩ := Cond.code_spec hnamed hcode
  have hstatic : methM.isStatic = true := Cond.static_spec hnamed hmethM hstat
  obtain ⟨kP, hkP, -⟩ := className_of_methodNamed hnamed
  have hinitP : kP.init = .initialized := Cond.initialized_spec (findClass_of_methodNamed hnamed) hkP hinit
  obtain ⟨vm₁, X₁, hstep₁⟩ := X.invokestatic hexec hown hlink hnamed hmethM hstatic hkP hinitP hy (g := g) hg (argsL := argsL) (rest := rest) (hlen _ hsigM) hstack hdg
  rcases hK m meth c ⟨T.setVm vm₁, locs, cells, slots⟩ { g with stack := rest } (.invokestatic index) mk argsL.toArray X₁ hg hsize hdg hW (X₁.named hnamed) (hpre vm₁ X₁.warmed) with ⟨v, B, X', hpost, hsteps⟩ | ⟨q, B, X', hpost, hsteps⟩
  · exact Or.inl ⟨v, vm₁, B, X₁.warmed, X', hpost, fun target h => hstep₁ _ fun acts => by rw [doInvoke_state]; exact hsteps.trans h⟩
  · exact Or.inr ⟨q, vm₁, B, X₁.warmed, X', hpost, hstep₁ _ fun acts => by rw [doInvoke_state]; exact hsteps⟩
end Calls
theorem vx_cls {s : State} {T : State} {vm₁ : Vm} {E : String} {k : ClassId} (hW : s.WarmedH vm₁) (h : (T.setVm vm₁).vm.findClass E = some k) : s.vm.findClass E = some k := by
  have h1 : vm₁.findClass E = some k := h
  rw [hW.alike.findClass] at h1
  exact h1
/-- the method's frame g, with q thrown over it -/
def vx_W (p : Program) (l : Launch) (e : Env) (R : Room) (s : State) (m : MethodId) (args : Array Value) (below : List Frame) (meth : Method) (c : Code) (H : Heap) (locs : List Loc) (cells slots : Nat) (Q : State → Prop) (g : JFrame) (q : Addr) : Prop :=
  ∀ T : State, T.heap = H → Stand p l e R s m args below meth c T locs cells slots → ∃ t, Steps p.tables e below ((T.setTop g).pushFrame (.throwing q)) t ∧ Q t
def vx_Run (p : Program) (l : Launch) (e : Env) (R : Room) (s : State) (m : MethodId) (args : Array Value) (below : List Frame) (meth : Method) (c : Code) (H : Heap) (locs : List Loc) (cells slots mc ms : Nat) (g : JFrame) (rest : List Value) (Qa : State → Outcome → State → Prop) (XC : String → State → State → Prop) (free : Addr → Prop) : Prop :=
  ∀ T : State, T.heap = H → Stand p l e R s m args below meth c T locs cells slots →
    (∃ (v : Option Value) (st₀ t T' : State) (L : List Loc), st₀.heap = H ∧ Stand p l e R s m args below meth c T' (locs ++ L) (cells + mc) (slots + ms) ∧ (∀ q ∈ L, free q.base) ∧ T'.heap = t.heap ∧ T'.vm = t.vm ∧ Qa st₀ (.returned v) t ∧
      Goes p e below T g T' { g with pc := g.pc + 3, stack := v.toList ++ rest }) ∨
    (∃ (q : Addr) (st₀ t T' : State) (L : List Loc) (E : String) (ce : Cell), st₀.heap = H ∧ Stand p l e R s m args below meth c T' (locs ++ L) (cells + mc) (slots + ms) ∧ (∀ z ∈ L, free z.base) ∧ T'.heap = t.heap ∧ T'.vm = t.vm ∧ XC E st₀ t ∧ t.heap[q]? = some ce ∧ ce.vm = .none ∧ s.vm.findClass E = some ce.cls ∧
      Steps p.tables e below (T.setTop g) ((T'.setTop { g with stack := rest }).pushFrame (.throwing q)))
def vx_X {S : Type} (px : S → Prop) (B : String → S → State → Prop) (A : Nat → Prop) : String → State → State → Prop := fun E st t => ∃ u : S, px u ∧ B E u t ∧ va_F A st t
section Runs
variable {p : Program} {l : Launch} {e : Env} {R : Room} {s : State} {m : MethodId} {args : Array Value} {below : List Frame} {meth : Method} {c : Code} {H : Heap} {locs : List Loc} {cells slots : Nat}
variable {y : MethodName} {bytes cc : ByteArray} {maxL nL mc ms n index : Nat} {ret : Option FieldType} {ws : List Cond} {rm : Room} {Pc : Array Value → State → Prop} {Qc : Array Value → State → Outcome → State → Prop} {XC : String → State → State → Prop} {free : Addr → Prop} {Ts : List Cond} {own C : String} {b : Addr} {As rest : List Value} {g : JFrame}
theorem vx_callBack (cb : CallB R s args own index y bytes maxL ret ws rm mc ms n) (hM : vx_Met l y ws rm Pc Qc XC mc ms free) (hbl : FrameBlind Pc) : vx_Back l R p e below s args y 3 8 (PreOf R mc ms Pc) (PostOf Qc mc ms free) (vx_Post XC mc ms free) := by
  obtain ⟨hrc, hrs, hfr, hlo, hws, hcw, -, hini, -⟩ := cb
  exact vx_back (bytes := bytes) (maxL := maxL) (ret := ret) hM hbl hrc hrs hfr hlo hws hcw (fun a' U hW => word_at hW (Or.inl (by first | rfl | simp [Cond.onTables, Cond.keeps, Cond.steady])) hini)
theorem vx_runV (S : CallFix p m c cc nL s args Ts own) (hM : vx_Met l y ws rm Pc Qc XC mc ms free) (cw : CallW R s args own C index y bytes maxL ret ws rm mc ms n) (hp : PreV s H C b Pc As)
    (hg : g.method = m) (hn : As.length = n) (hsize : g.locals.size = nL) (hstack : g.stack = As.reverse ++ .ref b :: rest) (hW : 2 * g.monitorRoom + (rest.map fun v => v.category).sum ≤ 8) (hdg : decode cc g.pc = .ok (.invokevirtual index, 3)) (hf : cells + mc ≤ R.cells ∧ slots + ms ≤ R.slots) :
    vx_Run p l e R s m args below meth c H locs cells slots mc ms g rest (Qc (Value.ref b :: As).toArray) XC free := by
  have hK : vx_Back l R p e below s args y 3 8 (PreOf R mc ms Pc) (PostOf Qc mc ms free) (vx_Post XC mc ms free) := vx_callBack cw.1 hM hp.1
  obtain ⟨⟨-, -, -, -, -, -, hcode, -, hy, hlen, hl⟩, hin, hse⟩ := cw
  obtain ⟨hx, hb, hml, ho, -⟩ := S
  obtain ⟨-, ⟨cellB, hcB, hoB, hclB⟩, hPc⟩ := hp
  intro T hT X
  rcases vx_callV X hx (C := C) (bytes := bytes) (maxL := maxL) (ret := ret) ho hl hin hse hcode hy hK (by rw [hT]; exact hcB) hoB hclB hg (hsize.trans hml.symm) (argsL := As) (rest := rest) (fun sig h => hn.trans (hlen sig h)) hstack hW (by rw [hb]; exact hdg)
    (fun vm₁ hW₁ => ⟨hf.1, hf.2, hPc (T.setVm vm₁) hT hW₁⟩) with ⟨v, vm₁, ⟨U', l2, c2, s2⟩, hW₁, X', ⟨g', mk, t, L, e1, e2, hq, h1, hL, h2, h3⟩, st⟩ | ⟨q, vm₁, ⟨U', l2, c2, s2⟩, hW₁, X', ⟨g', mk, t, L, E, ce, e1, e2, hq, hce, hcv, hcl, h1, hL, h2, h3⟩, st⟩
  · dsimp only [Pt.U, Pt.locs, Pt.cells, Pt.slots] at X' e1 e2 h1 h2 h3 st
    subst h1; subst h2; subst h3
    exact Or.inl ⟨v, (T.setVm vm₁).calling g' mk (Value.ref b :: As).toArray, t, U', L, hT, X', hL, e1, e2, hq, st⟩
  · dsimp only [Pt.U, Pt.locs, Pt.cells, Pt.slots] at X' e1 e2 h1 h2 h3 st hcl
    subst h1; subst h2; subst h3
    exact Or.inr ⟨q, (T.setVm vm₁).calling g' mk (Value.ref b :: As).toArray, t, U', L, E, ce, hT, X', hL, e1, e2, hq, hce, hcv, vx_cls hW₁ hcl, st⟩
theorem vx_runS (S : CallFix p m c cc nL s args Ts own) (hM : vx_Met l y ws rm Pc Qc XC mc ms free) (cw : CallB R s args own index y bytes maxL ret ws rm mc ms n ∧ (Cond.static y).before args s = true) (hp : PreS s H Pc As)
    (hg : g.method = m) (hn : As.length = n) (hsize : g.locals.size = nL) (hstack : g.stack = As.reverse ++ rest) (hW : 2 * g.monitorRoom + (rest.map fun v => v.category).sum ≤ 8) (hdg : decode cc g.pc = .ok (.invokestatic index, 3)) (hf : cells + mc ≤ R.cells ∧ slots + ms ≤ R.slots) :
    vx_Run p l e R s m args below meth c H locs cells slots mc ms g rest (Qc As.toArray) XC free := by
  have hK : vx_Back l R p e below s args y 3 8 (PreOf R mc ms Pc) (PostOf Qc mc ms free) (vx_Post XC mc ms free) := vx_callBack cw.1 hM hp.1
  obtain ⟨⟨-, -, -, -, -, -, hcode, hini, hy, hlen, hl⟩, hstt⟩ := cw
  obtain ⟨hx, hb, hml, ho, -⟩ := S
  intro T hT X
  rcases vx_callS X hx (bytes := bytes) (maxL := maxL) (ret := ret) ho hl hstt hini hcode hy hK hg (hsize.trans hml.symm) (argsL := As) (rest := rest) (fun sig h => hn.trans (hlen sig h)) hstack hW (by rw [hb]; exact hdg)
    (fun vm₁ hW₁ => ⟨hf.1, hf.2, hp.2 (T.setVm vm₁) hT hW₁⟩) with ⟨v, vm₁, ⟨U', l2, c2, s2⟩, hW₁, X', ⟨g', mk, t, L, e1, e2, hq, h1, hL, h2, h3⟩, st⟩ | ⟨q, vm₁, ⟨U', l2, c2, s2⟩, hW₁, X', ⟨g', mk, t, L, E, ce, e1, e2, hq, hce, hcv, hcl, h1, hL, h2, h3⟩, st⟩
  · dsimp only [Pt.U, Pt.locs, Pt.cells, Pt.slots] at X' e1 e2 h1 h2 h3 st
    subst h1; subst h2; subst h3
    exact Or.inl ⟨v, (T.setVm vm₁).calling g' mk As.toArray, t, U', L, hT, X', hL, e1, e2, hq, st⟩
  · dsimp only [Pt.U, Pt.locs, Pt.cells, Pt.slots] at X' e1 e2 h1 h2 h3 st hcl
    subst h1; subst h2; subst h3
    exact Or.inr ⟨q, (T.setVm vm₁).calling g' mk As.toArray, t, U', L, E, ce, hT, X', hL, e1, e2, hq, hce, hcv, vx_cls hW₁ hcl, st⟩
end Runs
section Rows
variable {p : Program} {l : Launch} {e : Env} {R : Room} {s : State} {m : MethodId} {args : Array Value} {below : List Frame} {meth : Method} {c : Code} {H : Heap} {locs : List Loc} {cells slots : Nat} {Q : State → Prop}
variable {mc ms : Nat} {free : Addr → Prop} {A0 A1 : Nat → Prop} {H0 : Heap} {a : Array Value} {pc : Nat} {ls : Array Slot} {st0 rest : List Value}
theorem vx_keep {st₀ t T' : State} {L : List Loc} (h0 : st₀.heap = H) (e1 : T'.heap = t.heap) (hS : va_S A0 H0 H locs) (hA : ∀ q, q < H.size → A1 q → A0 q) (hf : ∀ q, free q → A0 q) (hL : ∀ q ∈ L, free q.base) (hF : va_F A1 st₀ t) :
    H.size ≤ T'.heap.size ∧ (∀ q : Nat, q < H.size → ¬ A1 q → T'.heap[q]? = H[q]?) ∧ va_S A0 H0 T'.heap (locs ++ L) := by
  obtain ⟨hz, hk⟩ := hF
  rw [h0] at hz hk
  exact ⟨by rw [e1]; exact hz, fun q h1 h2 => by rw [e1]; exact hk q h1 h2,
    ⟨Nat.le_trans hS.1 (by rw [e1]; exact hz), fun q h1 h2 => by rw [e1, hk q (Nat.lt_of_lt_of_le h1 hS.1) (fun z => h2 (hA q (Nat.lt_of_lt_of_le h1 hS.1) z))]; exact hS.2.1 q h1 h2, fun q hq => by
      rcases List.mem_append.mp hq with h | h
      · exact hS.2.2 q h
      · exact hf _ (hL q h)⟩⟩
theorem vx_calli {S SX : Type} {post : Int32 → S → Prop} {px : SX → Prop} {B : S → State → Prop} {BX : String → SX → State → Prop} {AX : Nat → Prop} (hr : vx_Run p l e R s m args below meth c H locs cells slots mc ms (F0 m pc ls st0) rest (va_Qi post B A1 a) (vx_X px BX AX) free) (hS : va_S A0 H0 H locs) (hA : ∀ q, q < H.size → A1 q → A0 q) (hf : ∀ q, free q → A0 q) (hAX : ∀ q, q < H.size → AX q → A0 q)
    (kx : ∀ (E : String) (ce : Cell) (q9 : Addr) (u : SX) (t : State) (H1 : Heap) (locs1 : List Loc), t.heap = H1 → s.vm.Alike t.vm → px u → BX E u t → H.size ≤ H1.size → (∀ q : Nat, q < H.size → ¬ AX q → H1[q]? = H[q]?) → va_S A0 H0 H1 locs1 → H1[q9]? = some ce → ce.vm = .none → s.vm.findClass E = some ce.cls → vx_W p l e R s m args below meth c H1 locs1 (cells + mc) (slots + ms) Q (F0 m pc ls rest) q9)
    (kk : ∀ (r : Int32) (u : S) (t : State) (H1 : Heap) (locs1 : List Loc), t.heap = H1 → s.vm.Alike t.vm → post r u → B u t → H.size ≤ H1.size → (∀ q : Nat, q < H.size → ¬ A1 q → H1[q]? = H[q]?) → va_S A0 H0 H1 locs1 → W p l e R s m args below meth c H1 locs1 (cells + mc) (slots + ms) Q (F0 m (pc + 3) ls (.int r :: rest))) : W p l e R s m args below meth c H locs cells slots Q (F0 m pc ls st0) := by
  intro T hT X
  rcases hr T hT X with ⟨v, st₀, t, T', L, h0, X', hL, e1, e2, ⟨⟨r, u, hv, hp, hb⟩, hF⟩, st⟩ | ⟨q, st₀, t, T', L, E, ce, h0, X', hL, e1, e2, ⟨u, hp, hb, hF⟩, hce, hcv, hcl, st⟩
  · cases hv
    obtain ⟨k1, k2, k3⟩ := vx_keep h0 e1 hS hA hf hL hF
    obtain ⟨t2, a1, b1⟩ := kk r u t T'.heap (locs ++ L) e1.symm (by rw [← e2]; exact X'.warmed.alike) hp hb k1 k2 k3 T' rfl X'
    exact ⟨t2, st t2 a1, b1⟩
  · obtain ⟨k1, k2, k3⟩ := vx_keep h0 e1 hS hAX hf hL hF
    obtain ⟨t2, a1, b1⟩ := kx E ce q u t T'.heap (locs ++ L) e1.symm (by rw [← e2]; exact X'.warmed.alike) hp hb k1 k2 k3 (by rw [e1]; exact hce) hcv hcl T' rfl X'
    exact ⟨t2, st.trans a1, b1⟩
theorem vx_calll {S SX : Type} {post : Int64 → S → Prop} {px : SX → Prop} {B : S → State → Prop} {BX : String → SX → State → Prop} {AX : Nat → Prop} (hr : vx_Run p l e R s m args below meth c H locs cells slots mc ms (F0 m pc ls st0) rest (va_Ql post B A1 a) (vx_X px BX AX) free) (hS : va_S A0 H0 H locs) (hA : ∀ q, q < H.size → A1 q → A0 q) (hf : ∀ q, free q → A0 q) (hAX : ∀ q, q < H.size → AX q → A0 q)
    (kx : ∀ (E : String) (ce : Cell) (q9 : Addr) (u : SX) (t : State) (H1 : Heap) (locs1 : List Loc), t.heap = H1 → s.vm.Alike t.vm → px u → BX E u t → H.size ≤ H1.size → (∀ q : Nat, q < H.size → ¬ AX q → H1[q]? = H[q]?) → va_S A0 H0 H1 locs1 → H1[q9]? = some ce → ce.vm = .none → s.vm.findClass E = some ce.cls → vx_W p l e R s m args below meth c H1 locs1 (cells + mc) (slots + ms) Q (F0 m pc ls rest) q9)
    (kk : ∀ (r : Int64) (u : S) (t : State) (H1 : Heap) (locs1 : List Loc), t.heap = H1 → s.vm.Alike t.vm → post r u → B u t → H.size ≤ H1.size → (∀ q : Nat, q < H.size → ¬ A1 q → H1[q]? = H[q]?) → va_S A0 H0 H1 locs1 → W p l e R s m args below meth c H1 locs1 (cells + mc) (slots + ms) Q (F0 m (pc + 3) ls (.long r :: rest))) : W p l e R s m args below meth c H locs cells slots Q (F0 m pc ls st0) := by
  intro T hT X
  rcases hr T hT X with ⟨v, st₀, t, T', L, h0, X', hL, e1, e2, ⟨⟨r, u, hv, hp, hb⟩, hF⟩, st⟩ | ⟨q, st₀, t, T', L, E, ce, h0, X', hL, e1, e2, ⟨u, hp, hb, hF⟩, hce, hcv, hcl, st⟩
  · cases hv
    obtain ⟨k1, k2, k3⟩ := vx_keep h0 e1 hS hA hf hL hF
    obtain ⟨t2, a1, b1⟩ := kk r u t T'.heap (locs ++ L) e1.symm (by rw [← e2]; exact X'.warmed.alike) hp hb k1 k2 k3 T' rfl X'
    exact ⟨t2, st t2 a1, b1⟩
  · obtain ⟨k1, k2, k3⟩ := vx_keep h0 e1 hS hAX hf hL hF
    obtain ⟨t2, a1, b1⟩ := kx E ce q u t T'.heap (locs ++ L) e1.symm (by rw [← e2]; exact X'.warmed.alike) hp hb k1 k2 k3 (by rw [e1]; exact hce) hcv hcl T' rfl X'
    exact ⟨t2, st.trans a1, b1⟩
theorem vx_callf {S SX : Type} {post : UInt32 → S → Prop} {px : SX → Prop} {B : S → State → Prop} {BX : String → SX → State → Prop} {AX : Nat → Prop} (hr : vx_Run p l e R s m args below meth c H locs cells slots mc ms (F0 m pc ls st0) rest (va_Qf post B A1 a) (vx_X px BX AX) free) (hS : va_S A0 H0 H locs) (hA : ∀ q, q < H.size → A1 q → A0 q) (hf : ∀ q, free q → A0 q) (hAX : ∀ q, q < H.size → AX q → A0 q)
    (kx : ∀ (E : String) (ce : Cell) (q9 : Addr) (u : SX) (t : State) (H1 : Heap) (locs1 : List Loc), t.heap = H1 → s.vm.Alike t.vm → px u → BX E u t → H.size ≤ H1.size → (∀ q : Nat, q < H.size → ¬ AX q → H1[q]? = H[q]?) → va_S A0 H0 H1 locs1 → H1[q9]? = some ce → ce.vm = .none → s.vm.findClass E = some ce.cls → vx_W p l e R s m args below meth c H1 locs1 (cells + mc) (slots + ms) Q (F0 m pc ls rest) q9)
    (kk : ∀ (r : UInt32) (u : S) (t : State) (H1 : Heap) (locs1 : List Loc), t.heap = H1 → s.vm.Alike t.vm → post r u → B u t → H.size ≤ H1.size → (∀ q : Nat, q < H.size → ¬ A1 q → H1[q]? = H[q]?) → va_S A0 H0 H1 locs1 → W p l e R s m args below meth c H1 locs1 (cells + mc) (slots + ms) Q (F0 m (pc + 3) ls (.float r :: rest))) : W p l e R s m args below meth c H locs cells slots Q (F0 m pc ls st0) := by
  intro T hT X
  rcases hr T hT X with ⟨v, st₀, t, T', L, h0, X', hL, e1, e2, ⟨⟨r, u, hv, hp, hb⟩, hF⟩, st⟩ | ⟨q, st₀, t, T', L, E, ce, h0, X', hL, e1, e2, ⟨u, hp, hb, hF⟩, hce, hcv, hcl, st⟩
  · cases hv
    obtain ⟨k1, k2, k3⟩ := vx_keep h0 e1 hS hA hf hL hF
    obtain ⟨t2, a1, b1⟩ := kk r u t T'.heap (locs ++ L) e1.symm (by rw [← e2]; exact X'.warmed.alike) hp hb k1 k2 k3 T' rfl X'
    exact ⟨t2, st t2 a1, b1⟩
  · obtain ⟨k1, k2, k3⟩ := vx_keep h0 e1 hS hAX hf hL hF
    obtain ⟨t2, a1, b1⟩ := kx E ce q u t T'.heap (locs ++ L) e1.symm (by rw [← e2]; exact X'.warmed.alike) hp hb k1 k2 k3 (by rw [e1]; exact hce) hcv hcl T' rfl X'
    exact ⟨t2, st.trans a1, b1⟩
theorem vx_calld {S SX : Type} {post : UInt64 → S → Prop} {px : SX → Prop} {B : S → State → Prop} {BX : String → SX → State → Prop} {AX : Nat → Prop} (hr : vx_Run p l e R s m args below meth c H locs cells slots mc ms (F0 m pc ls st0) rest (va_Qd post B A1 a) (vx_X px BX AX) free) (hS : va_S A0 H0 H locs) (hA : ∀ q, q < H.size → A1 q → A0 q) (hf : ∀ q, free q → A0 q) (hAX : ∀ q, q < H.size → AX q → A0 q)
    (kx : ∀ (E : String) (ce : Cell) (q9 : Addr) (u : SX) (t : State) (H1 : Heap) (locs1 : List Loc), t.heap = H1 → s.vm.Alike t.vm → px u → BX E u t → H.size ≤ H1.size → (∀ q : Nat, q < H.size → ¬ AX q → H1[q]? = H[q]?) → va_S A0 H0 H1 locs1 → H1[q9]? = some ce → ce.vm = .none → s.vm.findClass E = some ce.cls → vx_W p l e R s m args below meth c H1 locs1 (cells + mc) (slots + ms) Q (F0 m pc ls rest) q9)
    (kk : ∀ (r : UInt64) (u : S) (t : State) (H1 : Heap) (locs1 : List Loc), t.heap = H1 → s.vm.Alike t.vm → post r u → B u t → H.size ≤ H1.size → (∀ q : Nat, q < H.size → ¬ A1 q → H1[q]? = H[q]?) → va_S A0 H0 H1 locs1 → W p l e R s m args below meth c H1 locs1 (cells + mc) (slots + ms) Q (F0 m (pc + 3) ls (.double r :: rest))) : W p l e R s m args below meth c H locs cells slots Q (F0 m pc ls st0) := by
  intro T hT X
  rcases hr T hT X with ⟨v, st₀, t, T', L, h0, X', hL, e1, e2, ⟨⟨r, u, hv, hp, hb⟩, hF⟩, st⟩ | ⟨q, st₀, t, T', L, E, ce, h0, X', hL, e1, e2, ⟨u, hp, hb, hF⟩, hce, hcv, hcl, st⟩
  · cases hv
    obtain ⟨k1, k2, k3⟩ := vx_keep h0 e1 hS hA hf hL hF
    obtain ⟨t2, a1, b1⟩ := kk r u t T'.heap (locs ++ L) e1.symm (by rw [← e2]; exact X'.warmed.alike) hp hb k1 k2 k3 T' rfl X'
    exact ⟨t2, st t2 a1, b1⟩
  · obtain ⟨k1, k2, k3⟩ := vx_keep h0 e1 hS hAX hf hL hF
    obtain ⟨t2, a1, b1⟩ := kx E ce q u t T'.heap (locs ++ L) e1.symm (by rw [← e2]; exact X'.warmed.alike) hp hb k1 k2 k3 (by rw [e1]; exact hce) hcv hcl T' rfl X'
    exact ⟨t2, st.trans a1, b1⟩
theorem vx_callv {S SX : Type} {post : S → Prop} {px : SX → Prop} {B : S → State → Prop} {BX : String → SX → State → Prop} {AX : Nat → Prop} (hr : vx_Run p l e R s m args below meth c H locs cells slots mc ms (F0 m pc ls st0) rest (va_Qv post B A1 a) (vx_X px BX AX) free) (hS : va_S A0 H0 H locs) (hA : ∀ q, q < H.size → A1 q → A0 q) (hf : ∀ q, free q → A0 q) (hAX : ∀ q, q < H.size → AX q → A0 q)
    (kx : ∀ (E : String) (ce : Cell) (q9 : Addr) (u : SX) (t : State) (H1 : Heap) (locs1 : List Loc), t.heap = H1 → s.vm.Alike t.vm → px u → BX E u t → H.size ≤ H1.size → (∀ q : Nat, q < H.size → ¬ AX q → H1[q]? = H[q]?) → va_S A0 H0 H1 locs1 → H1[q9]? = some ce → ce.vm = .none → s.vm.findClass E = some ce.cls → vx_W p l e R s m args below meth c H1 locs1 (cells + mc) (slots + ms) Q (F0 m pc ls rest) q9)
    (kk : ∀ (u : S) (t : State) (H1 : Heap) (locs1 : List Loc), t.heap = H1 → s.vm.Alike t.vm → post u → B u t → H.size ≤ H1.size → (∀ q : Nat, q < H.size → ¬ A1 q → H1[q]? = H[q]?) → va_S A0 H0 H1 locs1 → W p l e R s m args below meth c H1 locs1 (cells + mc) (slots + ms) Q (F0 m (pc + 3) ls (rest))) : W p l e R s m args below meth c H locs cells slots Q (F0 m pc ls st0) := by
  intro T hT X
  rcases hr T hT X with ⟨v, st₀, t, T', L, h0, X', hL, e1, e2, ⟨⟨u, hv, hp, hb⟩, hF⟩, st⟩ | ⟨q, st₀, t, T', L, E, ce, h0, X', hL, e1, e2, ⟨u, hp, hb, hF⟩, hce, hcv, hcl, st⟩
  · cases hv
    obtain ⟨k1, k2, k3⟩ := vx_keep h0 e1 hS hA hf hL hF
    obtain ⟨t2, a1, b1⟩ := kk u t T'.heap (locs ++ L) e1.symm (by rw [← e2]; exact X'.warmed.alike) hp hb k1 k2 k3 T' rfl X'
    exact ⟨t2, st t2 a1, b1⟩
  · obtain ⟨k1, k2, k3⟩ := vx_keep h0 e1 hS hAX hf hL hF
    obtain ⟨t2, a1, b1⟩ := kx E ce q u t T'.heap (locs ++ L) e1.symm (by rw [← e2]; exact X'.warmed.alike) hp hb k1 k2 k3 (by rw [e1]; exact hce) hcv hcl T' rfl X'
    exact ⟨t2, st.trans a1, b1⟩
/-- caught by the row x of this method's table; the rows ahead don't take it -/
theorem vx_catch {own name : String} {E : String} {ce : Cell} {q : Addr} (hown : s.vm.findClass own = some m.cls) (pre : List ExceptionTableEntry) (x : ExceptionTableEntry) (suf : List ExceptionTableEntry) (hsplit : c.exceptionTable.toList = pre ++ x :: suf)
    (hpass : ∀ z ∈ pre, covers z pc = false ∨ (z.catchType ≠ 0 ∧ ∃ nm : String, (Cond.classLink own z.catchType nm).before args s = true ∧ va_Nc E nm s)) (hx : covers x pc = true) (h0 : x.catchType ≠ 0)
    (hlink : (Cond.classLink own x.catchType name).before args s = true) (hcast : (Cond.castable E name).before args s = true) (hcell : H[q]? = some ce) (hv : ce.vm = .none) (hcl : s.vm.findClass E = some ce.cls)
    (kk : W p l e R s m args below meth c H locs cells slots Q (F0 m x.handlerPc ls [.ref q])) : vx_W p l e R s m args below meth c H locs cells slots Q (F0 m pc ls rest) q := by
  intro T hT X
  have hpl : e.platform.magicAccessors = ({} : Platform).magicAccessors := by rw [X.admits.platform]
  obtain ⟨c3, c4, hc3, hc4, hasg⟩ := Cond.castable_spec hcast
  cases Option.some.inj (hc3.symm.trans hcl)
  obtain ⟨c5, hc5, hcl5⟩ := Cond.classLink_spec hown hlink e.platform hpl
  cases Option.some.inj (hc4.symm.trans hc5)
  obtain ⟨vm', X', st⟩ := X.thenCaughtThrough q (g := F0 m pc ls rest) rfl (Steps.refl _) (by rw [hT]; exact hcell) (by rw [hv]; rfl) (by obtain ⟨k9, h9, -⟩ := Vm.findClass_spec hcl; exact ⟨k9, h9⟩) pre x suf hsplit
    (fun z hz => by
      rcases hpass z hz with h | ⟨hz0, nm, hl1, hn1⟩
      · exact Or.inl h
      · obtain ⟨c6, hc6, hcl6⟩ := Cond.classLink_spec hown hl1 e.platform hpl
        obtain ⟨a8, b8, h1, h2, h3⟩ := hn1
        cases Option.some.inj (h1.symm.trans hcl)
        cases Option.some.inj (h2.symm.trans hc6)
        exact Or.inr ⟨hz0, _, hcl6, h3⟩) hx (Or.inr ⟨h0, c4, hcl5, hasg⟩)
  obtain ⟨t, a1, b1⟩ := kk (T.setVm vm') hT X'
  exact ⟨t, st.trans a1, b1⟩
end Rows
section Ends
variable {p : Program} {l : Launch} {e : Env} {R : Room} {s : State} {m : MethodId} {args : Array Value} {below : List Frame} {meth : Method} {c : Code} {H : Heap} {locs : List Loc} {cells slots : Nat} {Q : State → Prop}
variable {mc ms : Nat} {free : Addr → Prop} {A0 A1 : Nat → Prop} {H0 : Heap} {a : Array Value} {ls : Array Slot} {st0 rest : List Value}
variable {Qc : Array Value → State → Outcome → State → Prop} {XC : String → State → State → Prop}
/-- what a body that may throw owes at its end -/
def vx_MQ (below : List Frame) (Qc : Array Value → State → Outcome → State → Prop) (XC : String → State → State → Prop) (a : Array Value) (s : State) (mc ms : Nat) (free : Addr → Prop) : State → Prop := fun t =>
  ∃ o, t.status = .running ∧ Ended t below o ∧ vx_Q Qc XC mc ms free a s o t
theorem vx_ret {g : JFrame} {mc ms : Nat} (k : W p l e R s m args below meth c H locs cells slots (MQ below Qc args s mc ms free) g) : W p l e R s m args below meth c H locs cells slots (vx_MQ below Qc XC args s mc ms free) g := by
  intro T hT X
  obtain ⟨t, a1, o, b1, b2, b3, b4⟩ := k T hT X
  exact ⟨t, a1, o, b1, b2, Or.inl ⟨b3, b4⟩⟩
/-- not caught here: it goes on to the caller -/
theorem vx_widen {g : JFrame} {q : Addr} {k n : Nat} (h1 : cells ≤ k) (h2 : slots ≤ n) (kk : vx_W p l e R s m args below meth c H locs k n Q g q) : vx_W p l e R s m args below meth c H locs cells slots Q g q := fun T hT X => kk T hT (stand_widen X h1 h2)
theorem vx_out {pc : Nat} {E : String} {ce : Cell} {q : Addr} {mc ms : Nat} (hout : ∀ x ∈ c.exceptionTable.toList, covers x pc = false) (hlocks : meth.locks = false) (hcell : H[q]? = some ce) (hv : ce.vm = .none) (hcl : s.vm.findClass E = some ce.cls)
    (hx : ∀ t : State, t.heap = H → s.vm.Alike t.vm → XC E s t) (hf : ∀ z ∈ locs, free z.base) (hc : cells ≤ mc) (hs : slots ≤ ms) :
    vx_W p l e R s m args below meth c H locs cells slots (vx_MQ below Qc XC args s mc ms free) (F0 m pc ls rest) q := by
  intro T hT X
  obtain ⟨st1, hrun, hend, hW, hsm⟩ := X.leaveThrown q (g := F0 m pc ls rest) rfl rfl rfl hout hlocks
  have hcell9 : (T.setFrames (.throwing q :: below)).heap[q]? = some ce := by
    show T.heap[q]? = some ce
    rw [hT]; exact hcell
  exact ⟨_, st1, .threw q, hrun, hend, Or.inr ⟨q, rfl, E, ce, locs, hx _ hT hW.alike, hcell9, hv, hcl, hW, hsm.mono hc hs, hf⟩⟩
theorem vx_frame {U : State} {k n : Nat} (h : s.sameButNew ({ U with vm := s.vm } : State) locs k n) : s.heap.size ≤ U.heap.size ∧ ∀ q : Nat, q < s.heap.size → (∀ z ∈ locs, z.base ≠ q) → U.heap[q]? = s.heap[q]? := by
  obtain ⟨-, h2, -, -, -, h6⟩ := h
  refine ⟨h2, fun q hq hz => ?_⟩
  obtain ⟨c9, e1, e2, e3, e4⟩ := h6 q _ (Array.getElem?_eq_getElem hq)
  have hs : c9.slots = (s.heap[q]).slots := Array.ext_getElem? fun i => e4 i fun hm => hz _ hm rfl
  have h9 : c9 = s.heap[q] := by
    rw [hs] at e2
    exact e2
  have e5 : U.heap[q]? = some c9 := e1
  rw [e5, h9, Array.getElem?_eq_getElem hq]
/-- the words of a throw but the four that speak of the heap -/
def vx_no (w : Cond) : Bool := decide (w ≠ .isRef (.static Bundle.tN "UNASSIGNED_STACK" Bundle.steD)) && decide (w ≠ .isRef (.static Bundle.tN "SUPPRESSED_SENTINEL" Bundle.listD)) && decide (w ≠ .laysStatic Bundle.tN "UNASSIGNED_STACK" Bundle.steD) && decide (w ≠ .laysStatic Bundle.tN "SUPPRESSED_SENTINEL" Bundle.listD)
def vx_at0 (own : String) (ic : Nat) (X : String) (names : List String) : List Cond := (Bundle.ownAtoms0 own ic X names).filter vx_no
def vx_atS (own : String) (ic : Nat) (X : String) (names : List String) : List Cond := (Bundle.ownAtoms own ic X names).filter vx_no
/-- a word that the tables alone decide, or a good one -/
def vx_ot (w : Cond) : Bool := w.onTables || goodWord w
theorem vx_ot_at {args a' : Array Value} {s U : State} {w : Cond} (hW : s.WarmedH U.vm) (hvm : s.vm = U.vm) (hg : vx_ot w = true) (h : w.before args s = true) : w.before a' U = true := by
  simp only [vx_ot, Bool.or_eq_true] at hg
  rcases hg with hg | hg
  · exact va_tabs hg hvm h
  · exact word_at hW (good_of_word hg) h
/-- a list's words: the good ones out of the method's own list, the others by premises of their own -/
theorem vx_hat {args : Array Value} {s : State} {L B : List Cond} (h1 : ∀ w ∈ L.filter goodWord, w.before args s = true) (h2 : ∀ w ∈ L.filter (fun w => !goodWord w), w ∈ B) (h3 : ∀ w ∈ B, w.before args s = true) : ∀ w ∈ L, w.before args s = true := by
  intro w hw
  by_cases g : goodWord w = true
  · exact h1 w (List.mem_filter.mpr ⟨hw, g⟩)
  · refine h3 w (h2 w (List.mem_filter.mpr ⟨hw, ?_⟩))
    show (!goodWord w) = true
    cases hgw : goodWord w
    · rfl
    · exact absurd hgw g
theorem vx_c {args : Array Value} {s : State} {w : Cond} {B : List Cond} (h : w.before args s = true) (t : ∀ w ∈ B, w.before args s = true) : ∀ w' ∈ w :: B, w'.before args s = true := fun w' h' => (List.mem_cons.mp h').elim (fun e => by rw [e]; exact h) (t w')
theorem vx_n {args : Array Value} {s : State} : ∀ w ∈ ([] : List Cond), w.before args s = true := fun _ h => nomatch h
theorem vx_own {args : Array Value} {s : State} {L : List Cond} (h1 : ∀ w ∈ L.filter vx_no, w.before args s = true)
    (hU : (Cond.isRef (.static Bundle.tN "UNASSIGNED_STACK" Bundle.steD)).before args s = true) (hN : (Cond.isRef (.static Bundle.tN "SUPPRESSED_SENTINEL" Bundle.listD)).before args s = true)
    (lU : (Cond.laysStatic Bundle.tN "UNASSIGNED_STACK" Bundle.steD).before args s = true) (lN : (Cond.laysStatic Bundle.tN "SUPPRESSED_SENTINEL" Bundle.listD).before args s = true) : ∀ w ∈ L, w.before args s = true := by
  intro w hw
  by_cases e1 : w = .isRef (.static Bundle.tN "UNASSIGNED_STACK" Bundle.steD)
  · rw [e1]; exact hU
  · by_cases e2 : w = .isRef (.static Bundle.tN "SUPPRESSED_SENTINEL" Bundle.listD)
    · rw [e2]; exact hN
    · by_cases e3 : w = .laysStatic Bundle.tN "UNASSIGNED_STACK" Bundle.steD
      · rw [e3]; exact lU
      · by_cases e4 : w = .laysStatic Bundle.tN "SUPPRESSED_SENTINEL" Bundle.listD
        · rw [e4]; exact lN
        · exact h1 w (List.mem_filter.mpr ⟨hw, by unfold vx_no; rw [decide_eq_true e1, decide_eq_true e2, decide_eq_true e3, decide_eq_true e4]; rfl⟩)
/-- where a static field lies, its class's statics cell in H -/
def vx_L (C n d : String) (A : Nat → Prop) (U : State) (H : Heap) : Prop := ∃ (c : ClassId) (k : Class) (i : Nat) (f : Field) (a : Nat) (cell : Cell), U.vm.findClass C = some c ∧ U.fieldFound? C n d = some (c, k, i, f) ∧ f.isStatic = true ∧ k.statics = some a ∧ H[a]? = some cell ∧ cell.vm.isStatics = true ∧ cell.cls = c ∧ f.slot < cell.slots.size ∧ k.staticTypes[f.slot]? = some f.type ∧ ¬ A a
theorem vx_L.moved {C n d : String} {A : Nat → Prop} {u U : State} {H : Heap} (hvm : u.vm.Alike U.vm) (h : vx_L C n d A u H) : vx_L C n d A U H := by
  obtain ⟨c, k, i, f, a, cell, h1, h2, h3, h4, h5, h6, h7, h8, h9, h10⟩ := h
  obtain ⟨k', hi', he⟩ := State.fieldFound?_setVm hvm h2
  exact ⟨c, k', i, f, a, cell, by rw [hvm.findClass]; exact h1, hi', h3, by rw [he]; exact h4, h5, h6, h7, h8, by rw [he]; exact h9, h10⟩
theorem vx_L.kept {C n d : String} {A : Nat → Prop} {U : State} {H H1 : Heap} (h : vx_L C n d A U H) (hq : ∀ a : Nat, a < H.size → ¬ A a → H1[a]? = H[a]?) : vx_L C n d A U H1 := by
  obtain ⟨c, k, i, f, a, cell, h1, h2, h3, h4, h5, h6, h7, h8, h9, h10⟩ := h
  exact ⟨c, k, i, f, a, cell, h1, h2, h3, h4, by rw [hq a (Array.getElem?_eq_some_iff.mp h5).1 h10]; exact h5, h6, h7, h8, h9, h10⟩
theorem vx_L.narrow {C n d : String} {A B : Nat → Prop} {U : State} {H : Heap} (h : vx_L C n d A U H) (hAB : ∀ q, B q → A q) : vx_L C n d B U H := by
  obtain ⟨c, k, i, f, a, cell, h1, h2, h3, h4, h5, h6, h7, h8, h9, h10⟩ := h
  exact ⟨c, k, i, f, a, cell, h1, h2, h3, h4, h5, h6, h7, h8, h9, fun z => h10 (hAB _ z)⟩
theorem vx_L.word {C n d : String} {A : Nat → Prop} {s : State} {args : Array Value} (h : vx_L C n d A s s.heap) : (Cond.laysStatic C n d).before args s = true := by
  obtain ⟨c, k, i, f, a, cell, h1, h2, h3, h4, h5, h6, h7, h8, h9, -⟩ := h
  show (Cond.laysStatic C n d).holds args s none s [] = true
  exact Cond.laysStatic_of h1 h2 h3 h4 h5 h6 h7 h8 h9
/-- .. and what it holds: null or some reference -/
def vx_Zq (C n d : String) (A : Nat → Prop) (U : State) (H : Heap) : Prop := va_Zq C n d A U H ∧ vx_L C n d A U H
theorem vx_Zq.moved {C n d : String} {A : Nat → Prop} {u U : State} {H : Heap} (hvm : u.vm.Alike U.vm) (h : vx_Zq C n d A u H) : vx_Zq C n d A U H := ⟨va_Zq.moved hvm h.1, vx_L.moved hvm h.2⟩
theorem vx_Zq.kept {C n d : String} {A : Nat → Prop} {U : State} {H H1 : Heap} (h : vx_Zq C n d A U H) (hq : ∀ a : Nat, a < H.size → ¬ A a → H1[a]? = H[a]?) : vx_Zq C n d A U H1 := ⟨va_Zq.kept h.1 hq, vx_L.kept h.2 hq⟩
theorem vx_Zq.narrow {C n d : String} {A B : Nat → Prop} {U : State} {H : Heap} (h : vx_Zq C n d A U H) (hAB : ∀ q, B q → A q) : vx_Zq C n d B U H := ⟨va_Zq.narrow h.1 hAB, vx_L.narrow h.2 hAB⟩
theorem vx_Zqof {args : Array Value} {s : State} {C n d : String} {A : Nat → Prop} (hl : (Cond.laysStatic C n d).before args s = true) (hini : (Cond.initialized C).before args s = true) (h : (Cond.isRef (.static C n d)).before args s = true) (hA : ∀ a : Nat, a < s.heap.size → ¬ A a) : vx_Zq C n d A s s.heap := by
  refine ⟨va_Zqof hl hini h hA, ?_⟩
  obtain ⟨c, k, i, f, a, cell, h1, h2, h3, h4, h5, h6, h7, h8, h9⟩ := Cond.laysStatic_spec hl
  exact ⟨c, k, i, f, a, cell, h1, h2, h3, h4, h5, h6, h7, h8, h9, hA a (Array.getElem?_eq_some_iff.mp h5).1⟩
theorem vx_isRef {C n d : String} {v : Value} {A : Nat → Prop} {s : State} {args : Array Value} (h : va_Z C n d v A s s.heap) (hv : v.isRef = true) : (Cond.isRef (.static C n d)).before args s = true := by
  obtain ⟨cf, kf, fi, f, a, cell, h1, h2, h3, h4, h5, h6, h7, -⟩ := h
  have he : (Term.static C n d).eval args s none [] s = some v := by
    simp [Term.eval, State.fieldNamed?, h1, h2, h4, h5, h6, h7]
  simp only [Cond.before, Cond.holds, Cond.value, he]
  cases v <;> simp_all [Value.isRef]
theorem vx_isRefq {C n d : String} {A : Nat → Prop} {s : State} {args : Array Value} (h : va_Zq C n d A s s.heap) : (Cond.isRef (.static C n d)).before args s = true := by
  rcases h with h | ⟨t, h⟩
  · exact vx_isRef h rfl
  · exact vx_isRef h rfl
/-- the same frame, seen from here: as if the method were called anew in this heap -/
theorem vx_rebase {T : State} (X : Stand p l e R s m args below meth c T locs cells slots) {R' : Room} (hf : R'.frames ≤ R.frames) (hl : R'.locals ≤ R.locals) (hc : cells + R'.cells ≤ R.cells) (hs : slots + R'.slots ≤ R.slots) :
    Stand p l e R' ((T.setVm s.vm).setFrames (.invoking m args :: below)) m args below meth c T [] 0 0 := by
  have htop : (T.setVm s.vm).topJava?.isSome := X.here.top
  have hF : ((T.setVm s.vm).setFrames (.invoking m args :: below)).frames = .invoking m args :: below := State.frames_setFrames _ (State.cur_lt_of_top htop)
  obtain ⟨g₀, hg0⟩ := Option.isSome_iff_exists.mp htop
  obtain ⟨r, hr⟩ := State.topJava?_eq_some.mp hg0
  have hl9 : e.platform.stackLimits (T.setVm s.vm).me = e.platform.stackLimits s.me := X.limits
  have hb9 : (T.setVm s.vm).me.stackBytes = s.me.stackBytes := X.bytes
  refine ⟨X.admits, X.cas, X.clock, hF, ?_, X.hears, X.method, X.code, X.here, X.tail, X.warmed, ?_, ?_, ?_⟩
  · have h := X.room
    have hU : ((T.setVm s.vm).setFrames (.invoking m args :: below)).localsInUse = s.localsInUse := by
      rw [State.localsInUse_invoking hF (meth := meth) (c := c) X.method X.code, State.localsInUse_invoking X.frames X.method X.code]
    simp only [State.hasRoom, Bool.and_eq_true, decide_eq_true_eq] at h ⊢
    obtain ⟨⟨⟨⟨h1, h2, h3, h4, h5, h6⟩, h7⟩, h8⟩, h9⟩ := h
    rw [X.frames, List.length_cons] at h2 h3
    have q1 := X.heapSize
    have q2 := X.used
    simp only [hF, hU, List.length_cons, State.stackLimits_setFrames, State.stackBytes_setFrames, hl9, hb9]
    refine ⟨⟨⟨⟨by omega, by omega, by omega, by omega, by omega, h6⟩, ?_⟩, ?_⟩, X.book⟩
    · show T.heap.size + R'.cells ≤ e.platform.maxCells
      omega
    · show T.slotsUsed + R'.slots ≤ e.platform.maxSlots
      omega
  · rw [State.stackLimits_setFrames]; rfl
  · rw [State.stackBytes_setFrames]; rfl
  · refine ⟨?_, Nat.le_refl _, Nat.le_refl _, ?_, ?_, fun a c9 h9 => ⟨c9, h9, rfl, rfl, fun _ _ => rfl⟩⟩
    · obtain ⟨t, ht, -⟩ := State.frames_cons hr
      show T.setVm s.vm = { ((T.setVm s.vm).setFrames (.invoking m args :: below)).setFrames (T.setVm s.vm).frames with heap := T.heap, slotsUsed := T.slotsUsed }
      rw [State.setFrames_setFrames, State.setFrames_self ht]
      rfl
    · show T.slotsUsed = T.slotsUsed + ((T.heap.toList.drop T.heap.size).map (·.slots.size)).sum
      rw [List.drop_eq_nil_of_le (Nat.le_of_eq Array.length_toList)]
      rfl
    · show ((T.heap.toList.drop T.heap.size).map (·.slots.size)).sum ≤ 0
      rw [List.drop_eq_nil_of_le (Nat.le_of_eq Array.length_toList)]
      exact Nat.le_refl _
/-- 'throw new E()': new; dup; invokespecial; athrow -/
theorem vx_throw0 {cc : ByteArray} {pc : Nat} (hexec : p.tables.exec = Jvm.exec) (hb : c.code = cc) (hl : l.stackTraces = false) {own cls : String} {names : List String} {ik ic mc ms : Nat} {A : Nat → Prop}
    (hown : s.vm.findClass own = some m.cls) (hcls : Bundle.fit cls = true) (hnames : ∀ n ∈ names, Bundle.fit n = true)
    (hk : (Cond.classLink own ik cls).before args s = true) (hini : (Cond.initialized cls).before args s = true) (hat : ∀ w ∈ vx_at0 own ic cls names, w.before args s = true)
    (hgood : ∀ w ∈ Cond.classLink own ik cls :: Cond.initialized cls :: vx_at0 own ic cls names, vx_ot w = true)
    (hU : vx_Zq Bundle.tN "UNASSIGNED_STACK" Bundle.steD A s s.heap) (hN : vx_Zq Bundle.tN "SUPPRESSED_SENTINEL" Bundle.listD A s s.heap) (hS : va_S A s.heap H locs) (hsize : ls.size = c.maxLocals)
    (d0 : decode cc pc = .ok (.new ik, 3)) (d3 : decode cc (pc + 3) = .ok (.dup, 1)) (d4 : decode cc (pc + 4) = .ok (.invokespecial ic, 3)) (d7 : decode cc (pc + 7) = .ok (.athrow, 1))
    (hout : ∀ x ∈ c.exceptionTable.toList, covers x (pc + 7) = false)
    (hRframes : names.length + 3 < R.frames) (hRlocals : (rest.map fun v => v.category).sum + (13 * (names.length + 1) + 42) ≤ R.locals) (hRcells : cells + 1 ≤ R.cells) (hRslots : slots + 6 ≤ R.slots) (hlocks : meth.locks = false)
    (hx : ∀ t : State, s.vm.Alike t.vm → H.size ≤ t.heap.size → (∀ q : Nat, q < H.size → t.heap[q]? = H[q]?) → XC cls s t)
    (hf : ∀ z ∈ locs, free z.base) (hc : cells + 1 ≤ mc) (hs : slots + 6 ≤ ms) :
    W p l e R s m args below meth c H locs cells slots (vx_MQ below Qc XC args s mc ms free) (F0 m pc ls rest) := by
  intro T hT X
  have htr : e.platform.stackTraces = false := (show e.platform.stackTraces = l.stackTraces by rw [X.admits.platform]).trans hl
  have Y := vx_rebase X (R' := { frames := R.frames, locals := R.locals, cells := 1, slots := 6 }) (Nat.le_refl _) (Nat.le_refl _) hRcells hRslots
  obtain ⟨s', hA⟩ : ∃ z, z = (T.setVm s.vm).setFrames (.invoking m args :: below) := ⟨_, rfl⟩
  rw [← hA] at Y
  have hvm : s'.vm = s.vm := by rw [hA]; rfl
  have hhp : s'.heap = H := by rw [hA]; exact hT
  have hW0 : s.WarmedH s'.vm := by rw [hvm]; exact State.WarmedH.refl s
  have hat' : ∀ w ∈ vx_at0 own ic cls names, w.before args s' = true := fun w hw => vx_ot_at hW0 hvm.symm (hgood w (List.mem_cons_of_mem _ (List.mem_cons_of_mem _ hw))) (hat w hw)
  have hk' : (Cond.classLink own ik cls).before args s' = true := vx_ot_at hW0 hvm.symm (hgood _ List.mem_cons_self) hk
  have hini' : (Cond.initialized cls).before args s' = true := vx_ot_at hW0 hvm.symm (hgood _ (List.mem_cons_of_mem _ List.mem_cons_self)) hini
  have hU' : vx_Zq Bundle.tN "UNASSIGNED_STACK" Bundle.steD A s' s'.heap := by rw [hhp]; exact vx_Zq.moved hW0.alike (hU.kept hS.2.1)
  have hN' : vx_Zq Bundle.tN "SUPPRESSED_SENTINEL" Bundle.listD A s' s'.heap := by rw [hhp]; exact vx_Zq.moved hW0.alike (hN.kept hS.2.1)
  have h : ∀ w ∈ Bundle.ownAtoms0 own ic cls names, w.before args s' = true := vx_own hat' (vx_isRefq hU'.1) (vx_isRefq hN'.1) hU'.2.word hN'.2.word
  have hown' : s'.vm.findClass own = some m.cls := by rw [hvm]; exact hown
  have hins : (Cond.instantiable cls 6).before args s' = true := h _ (by simp [Bundle.ownAtoms0])
  obtain ⟨vm₁, cX, kX, hfX, hkX, -, -, X₁, st1⟩ := Y.newCold hexec (own := own) (C := cls) (index := ik) (n := 6) hown' hk' hins hini'
    (g := F0 m pc ls rest) rfl (by rw [hb]; exact d0) (Nat.le_refl _) (Nat.le_refl _)
  generalize hT1 : (T.setVm vm₁).pushCell { cls := cX, slots := kX.instanceTypes.map defaultValue, vm := .none } = T1 at X₁ st1
  have hcat : (Value.ref T.heap.size).category = 1 := rfl
  have hcellA : T1.heap[T.heap.size]? = some (freshCell cX kX) := by rw [← hT1]; exact State.heap_pushCell_size _ _
  have d3' : decode c.code (pc + 3) = .ok (.dup, 1) := by rw [hb]; exact d3
  obtain ⟨U, hsteps, hrun, hend, hW, hsame, ce, hce, hO⟩ := X₁.ctorThrow0 hexec htr (own := own) (cls := cls) (names := names) (ic := ic) hown' hcls hnames h (fun x hx => nomatch hx) hfX hkX hcellA (by rw [hhp, hT]; exact Nat.le_refl _)
    (g := { method := m, pc := pc + 4, locals := ls, stack := .ref T.heap.size :: .ref T.heap.size :: rest, locked := none }) rfl hsize rfl rfl (rest := rest) rfl
    (by rw [hb]; exact d4) (by rw [hb]; exact d7) hout hRframes (by simp only [List.map_cons, List.sum_cons, hcat]; omega) hlocks
  obtain ⟨f1, f2⟩ := vx_frame hsame
  rw [hhp] at f1 f2
  have hWs : s.WarmedH U.vm := State.WarmedH.trans hW0 hW
  have hcl : s.vm.findClass cls = some ce.cls := by
    have h9 := hO.cls
    rw [hvm] at h9
    exact h9
  have hall : s.sameButNew ({ U with vm := s.vm } : State) locs mc ms := by
    subst hA
    obtain ⟨e1, e2⟩ := hsame
    rw [State.setFrames_setFrames] at e1
    have h2 : (T.setVm s.vm).sameButNew ({ U with vm := s.vm } : State) [] (0 + 1) (0 + 6) := ⟨e1, e2⟩
    have h3 := X.same.trans h2
    rw [List.append_nil] at h3
    exact h3.mono hc hs
  refine ⟨U, ?_, .threw T.heap.size, hrun, hend, Or.inr ⟨T.heap.size, rfl, cls, ce, locs, hx U hWs.alike f1 (fun q hq => f2 q hq (fun z hz => nomatch hz)), hce, hO.vm, hcl, hWs, hall, hf⟩⟩
  refine st1 _ ?_
  show Steps p.tables e below (T1.setTop { method := m, pc := pc + 3, locals := ls, stack := .ref T.heap.size :: rest, locked := none }) _
  jvm_step X₁.here [X₁.here.top, hexec, d3', Value.category]
  exact hsteps
/-- 'throw new E("text")': new; dup; ldc; invokespecial; athrow -/
theorem vx_throwS {cc : ByteArray} {pc : Nat} (hexec : p.tables.exec = Jvm.exec) (hb : c.code = cc) (hl : l.stackTraces = false) {own cls text : String} {names : List String} {ik is ic mc ms sa : Nat} {A : Nat → Prop}
    (hown : s.vm.findClass own = some m.cls) (hcls : Bundle.fit cls = true) (hnames : ∀ n ∈ names, Bundle.fit n = true)
    (hk : (Cond.classLink own ik cls).before args s = true) (hini : (Cond.initialized cls).before args s = true) (hstr : vk_R own is text sa s) (hat : ∀ w ∈ vx_atS own ic cls names, w.before args s = true)
    (hgood : ∀ w ∈ Cond.classLink own ik cls :: Cond.initialized cls :: vx_atS own ic cls names, vx_ot w = true)
    (hU : vx_Zq Bundle.tN "UNASSIGNED_STACK" Bundle.steD A s s.heap) (hN : vx_Zq Bundle.tN "SUPPRESSED_SENTINEL" Bundle.listD A s s.heap) (hS : va_S A s.heap H locs) (hsize : ls.size = c.maxLocals)
    (d0 : decode cc pc = .ok (.new ik, 3)) (d3 : decode cc (pc + 3) = .ok (.dup, 1)) (d4 : decode cc (pc + 4) = .ok (.ldc is, 2)) (d6 : decode cc (pc + 6) = .ok (.invokespecial ic, 3)) (d9 : decode cc (pc + 9) = .ok (.athrow, 1))
    (hout : ∀ x ∈ c.exceptionTable.toList, covers x (pc + 9) = false)
    (hRframes : names.length + 3 < R.frames) (hRlocals : (rest.map fun v => v.category).sum + (13 * (names.length + 1) + 43) ≤ R.locals) (hRcells : cells + 1 ≤ R.cells) (hRslots : slots + 6 ≤ R.slots) (hlocks : meth.locks = false)
    (hx : ∀ t : State, s.vm.Alike t.vm → H.size ≤ t.heap.size → (∀ q : Nat, q < H.size → t.heap[q]? = H[q]?) → XC cls s t)
    (hf : ∀ z ∈ locs, free z.base) (hc : cells + 1 ≤ mc) (hs : slots + 6 ≤ ms) :
    W p l e R s m args below meth c H locs cells slots (vx_MQ below Qc XC args s mc ms free) (F0 m pc ls rest) := by
  intro T hT X
  have htr : e.platform.stackTraces = false := (show e.platform.stackTraces = l.stackTraces by rw [X.admits.platform]).trans hl
  have Y := vx_rebase X (R' := { frames := R.frames, locals := R.locals, cells := 1, slots := 6 }) (Nat.le_refl _) (Nat.le_refl _) hRcells hRslots
  obtain ⟨s', hA⟩ : ∃ z, z = (T.setVm s.vm).setFrames (.invoking m args :: below) := ⟨_, rfl⟩
  rw [← hA] at Y
  have hvm : s'.vm = s.vm := by rw [hA]; rfl
  have hhp : s'.heap = H := by rw [hA]; exact hT
  have hW0 : s.WarmedH s'.vm := by rw [hvm]; exact State.WarmedH.refl s
  have hat' : ∀ w ∈ vx_atS own ic cls names, w.before args s' = true := fun w hw => vx_ot_at hW0 hvm.symm (hgood w (List.mem_cons_of_mem _ (List.mem_cons_of_mem _ hw))) (hat w hw)
  have hk' : (Cond.classLink own ik cls).before args s' = true := vx_ot_at hW0 hvm.symm (hgood _ List.mem_cons_self) hk
  have hini' : (Cond.initialized cls).before args s' = true := vx_ot_at hW0 hvm.symm (hgood _ (List.mem_cons_of_mem _ List.mem_cons_self)) hini
  have hU' : vx_Zq Bundle.tN "UNASSIGNED_STACK" Bundle.steD A s' s'.heap := by rw [hhp]; exact vx_Zq.moved hW0.alike (hU.kept hS.2.1)
  have hN' : vx_Zq Bundle.tN "SUPPRESSED_SENTINEL" Bundle.listD A s' s'.heap := by rw [hhp]; exact vx_Zq.moved hW0.alike (hN.kept hS.2.1)
  have h : ∀ w ∈ Bundle.ownAtoms own ic cls names, w.before args s' = true := vx_own hat' (vx_isRefq hU'.1) (vx_isRefq hN'.1) hU'.2.word hN'.2.word
  have hown' : s'.vm.findClass own = some m.cls := by rw [hvm]; exact hown
  have hins : (Cond.instantiable cls 6).before args s' = true := h _ (by simp [Bundle.ownAtoms])
  obtain ⟨vm₁, cX, kX, hfX, hkX, -, -, X₁, st1⟩ := Y.newCold hexec (own := own) (C := cls) (index := ik) (n := 6) hown' hk' hins hini'
    (g := F0 m pc ls rest) rfl (by rw [hb]; exact d0) (Nat.le_refl _) (Nat.le_refl _)
  generalize hT1 : (T.setVm vm₁).pushCell { cls := cX, slots := kX.instanceTypes.map defaultValue, vm := .none } = T1 at X₁ st1
  have hcat : (Value.ref T.heap.size).category = 1 := rfl
  have hcellA : T1.heap[T.heap.size]? = some (freshCell cX kX) := by rw [← hT1]; exact State.heap_pushCell_size _ _
  have d3' : decode c.code (pc + 3) = .ok (.dup, 1) := by rw [hb]; exact d3
  have d4' : decode c.code (pc + 4) = .ok (.ldc is, 2) := by rw [hb]; exact d4
  have hstr' : vk_R own is text sa s' := vk_R.warm hW0 hstr
  obtain ⟨U, hsteps, hrun, hend, hW, hsame, ce, hce, hO⟩ := X₁.ctorThrowS hexec htr (own := own) (cls := cls) (names := names) (ic := ic) hown' hcls hnames h (fun x hx => nomatch hx) hfX hkX hcellA (by rw [hhp, hT]; exact Nat.le_refl _) (msg := .ref sa) rfl
    (g := { method := m, pc := pc + 6, locals := ls, stack := .ref sa :: .ref T.heap.size :: .ref T.heap.size :: rest, locked := none }) rfl hsize rfl rfl (rest := rest) rfl
    (by rw [hb]; exact d6) (by rw [hb]; exact d9) hout hRframes (by simp only [List.map_cons, List.sum_cons, hcat]; omega) hlocks
  obtain ⟨f1, f2⟩ := vx_frame hsame
  rw [hhp] at f1 f2
  have hWs : s.WarmedH U.vm := State.WarmedH.trans hW0 hW
  have hcl : s.vm.findClass cls = some ce.cls := by
    have h9 := hO.cls
    rw [hvm] at h9
    exact h9
  have hall : s.sameButNew ({ U with vm := s.vm } : State) locs mc ms := by
    subst hA
    obtain ⟨e1, e2⟩ := hsame
    rw [State.setFrames_setFrames] at e1
    have h2 : (T.setVm s.vm).sameButNew ({ U with vm := s.vm } : State) [] (0 + 1) (0 + 6) := ⟨e1, e2⟩
    have h3 := X.same.trans h2
    rw [List.append_nil] at h3
    exact h3.mono hc hs
  refine ⟨U, ?_, .threw T.heap.size, hrun, hend, Or.inr ⟨T.heap.size, rfl, cls, ce, locs, hx U hWs.alike f1 (fun q hq => f2 q hq (fun z hz => nomatch hz)), hce, hO.vm, hcl, hWs, hall, hf⟩⟩
  refine st1 _ ?_
  show Steps p.tables e below (T1.setTop { method := m, pc := pc + 3, locals := ls, stack := .ref T.heap.size :: rest, locked := none }) _
  jvm_step X₁.here [X₁.here.top, hexec, d3', Value.category]
  exact X₁.ldcString hexec (own := own) (text := text) (index := is) (a := sa) hown' hstr'.1 hstr'.2
    (g := { method := m, pc := pc + 4, locals := ls, stack := .ref T.heap.size :: .ref T.heap.size :: rest, locked := none }) rfl d4' _ hsteps
/-- 'throw new E("text")', the text by a wide index -/
theorem vx_throwSW {cc : ByteArray} {pc : Nat} (hexec : p.tables.exec = Jvm.exec) (hb : c.code = cc) (hl : l.stackTraces = false) {own cls text : String} {names : List String} {ik is ic mc ms sa : Nat} {A : Nat → Prop}
    (hown : s.vm.findClass own = some m.cls) (hcls : Bundle.fit cls = true) (hnames : ∀ n ∈ names, Bundle.fit n = true)
    (hk : (Cond.classLink own ik cls).before args s = true) (hini : (Cond.initialized cls).before args s = true) (hstr : vk_R own is text sa s) (hat : ∀ w ∈ vx_atS own ic cls names, w.before args s = true)
    (hgood : ∀ w ∈ Cond.classLink own ik cls :: Cond.initialized cls :: vx_atS own ic cls names, vx_ot w = true)
    (hU : vx_Zq Bundle.tN "UNASSIGNED_STACK" Bundle.steD A s s.heap) (hN : vx_Zq Bundle.tN "SUPPRESSED_SENTINEL" Bundle.listD A s s.heap) (hS : va_S A s.heap H locs) (hsize : ls.size = c.maxLocals)
    (d0 : decode cc pc = .ok (.new ik, 3)) (d3 : decode cc (pc + 3) = .ok (.dup, 1)) (d4 : decode cc (pc + 4) = .ok (.ldc_w is, 3)) (d7 : decode cc (pc + 7) = .ok (.invokespecial ic, 3)) (d10 : decode cc (pc + 10) = .ok (.athrow, 1))
    (hout : ∀ x ∈ c.exceptionTable.toList, covers x (pc + 10) = false)
    (hRframes : names.length + 3 < R.frames) (hRlocals : (rest.map fun v => v.category).sum + (13 * (names.length + 1) + 43) ≤ R.locals) (hRcells : cells + 1 ≤ R.cells) (hRslots : slots + 6 ≤ R.slots) (hlocks : meth.locks = false)
    (hx : ∀ t : State, s.vm.Alike t.vm → H.size ≤ t.heap.size → (∀ q : Nat, q < H.size → t.heap[q]? = H[q]?) → XC cls s t)
    (hf : ∀ z ∈ locs, free z.base) (hc : cells + 1 ≤ mc) (hs : slots + 6 ≤ ms) :
    W p l e R s m args below meth c H locs cells slots (vx_MQ below Qc XC args s mc ms free) (F0 m pc ls rest) := by
  intro T hT X
  have htr : e.platform.stackTraces = false := (show e.platform.stackTraces = l.stackTraces by rw [X.admits.platform]).trans hl
  have Y := vx_rebase X (R' := { frames := R.frames, locals := R.locals, cells := 1, slots := 6 }) (Nat.le_refl _) (Nat.le_refl _) hRcells hRslots
  obtain ⟨s', hA⟩ : ∃ z, z = (T.setVm s.vm).setFrames (.invoking m args :: below) := ⟨_, rfl⟩
  rw [← hA] at Y
  have hvm : s'.vm = s.vm := by rw [hA]; rfl
  have hhp : s'.heap = H := by rw [hA]; exact hT
  have hW0 : s.WarmedH s'.vm := by rw [hvm]; exact State.WarmedH.refl s
  have hat' : ∀ w ∈ vx_atS own ic cls names, w.before args s' = true := fun w hw => vx_ot_at hW0 hvm.symm (hgood w (List.mem_cons_of_mem _ (List.mem_cons_of_mem _ hw))) (hat w hw)
  have hk' : (Cond.classLink own ik cls).before args s' = true := vx_ot_at hW0 hvm.symm (hgood _ List.mem_cons_self) hk
  have hini' : (Cond.initialized cls).before args s' = true := vx_ot_at hW0 hvm.symm (hgood _ (List.mem_cons_of_mem _ List.mem_cons_self)) hini
  have hU' : vx_Zq Bundle.tN "UNASSIGNED_STACK" Bundle.steD A s' s'.heap := by rw [hhp]; exact vx_Zq.moved hW0.alike (hU.kept hS.2.1)
  have hN' : vx_Zq Bundle.tN "SUPPRESSED_SENTINEL" Bundle.listD A s' s'.heap := by rw [hhp]; exact vx_Zq.moved hW0.alike (hN.kept hS.2.1)
  have h : ∀ w ∈ Bundle.ownAtoms own ic cls names, w.before args s' = true := vx_own hat' (vx_isRefq hU'.1) (vx_isRefq hN'.1) hU'.2.word hN'.2.word
  have hown' : s'.vm.findClass own = some m.cls := by rw [hvm]; exact hown
  have hins : (Cond.instantiable cls 6).before args s' = true := h _ (by simp [Bundle.ownAtoms])
  obtain ⟨vm₁, cX, kX, hfX, hkX, -, -, X₁, st1⟩ := Y.newCold hexec (own := own) (C := cls) (index := ik) (n := 6) hown' hk' hins hini'
    (g := F0 m pc ls rest) rfl (by rw [hb]; exact d0) (Nat.le_refl _) (Nat.le_refl _)
  generalize hT1 : (T.setVm vm₁).pushCell { cls := cX, slots := kX.instanceTypes.map defaultValue, vm := .none } = T1 at X₁ st1
  have hcat : (Value.ref T.heap.size).category = 1 := rfl
  have hcellA : T1.heap[T.heap.size]? = some (freshCell cX kX) := by rw [← hT1]; exact State.heap_pushCell_size _ _
  have d3' : decode c.code (pc + 3) = .ok (.dup, 1) := by rw [hb]; exact d3
  have d4' : decode c.code (pc + 4) = .ok (.ldc_w is, 3) := by rw [hb]; exact d4
  have hstr' : vk_R own is text sa s' := vk_R.warm hW0 hstr
  obtain ⟨U, hsteps, hrun, hend, hW, hsame, ce, hce, hO⟩ := X₁.ctorThrowS hexec htr (own := own) (cls := cls) (names := names) (ic := ic) hown' hcls hnames h (fun x hx => nomatch hx) hfX hkX hcellA (by rw [hhp, hT]; exact Nat.le_refl _) (msg := .ref sa) rfl
    (g := { method := m, pc := pc + 7, locals := ls, stack := .ref sa :: .ref T.heap.size :: .ref T.heap.size :: rest, locked := none }) rfl hsize rfl rfl (rest := rest) rfl
    (by rw [hb]; exact d7) (by rw [hb]; exact d10) hout hRframes (by simp only [List.map_cons, List.sum_cons, hcat]; omega) hlocks
  obtain ⟨f1, f2⟩ := vx_frame hsame
  rw [hhp] at f1 f2
  have hWs : s.WarmedH U.vm := State.WarmedH.trans hW0 hW
  have hcl : s.vm.findClass cls = some ce.cls := by
    have h9 := hO.cls
    rw [hvm] at h9
    exact h9
  have hall : s.sameButNew ({ U with vm := s.vm } : State) locs mc ms := by
    subst hA
    obtain ⟨e1, e2⟩ := hsame
    rw [State.setFrames_setFrames] at e1
    have h2 : (T.setVm s.vm).sameButNew ({ U with vm := s.vm } : State) [] (0 + 1) (0 + 6) := ⟨e1, e2⟩
    have h3 := X.same.trans h2
    rw [List.append_nil] at h3
    exact h3.mono hc hs
  refine ⟨U, ?_, .threw T.heap.size, hrun, hend, Or.inr ⟨T.heap.size, rfl, cls, ce, locs, hx U hWs.alike f1 (fun q hq => f2 q hq (fun z hz => nomatch hz)), hce, hO.vm, hcl, hWs, hall, hf⟩⟩
  refine st1 _ ?_
  show Steps p.tables e below (T1.setTop { method := m, pc := pc + 3, locals := ls, stack := .ref T.heap.size :: rest, locked := none }) _
  jvm_step X₁.here [X₁.here.top, hexec, d3', Value.category]
  exact X₁.ldcStringW hexec (own := own) (text := text) (index := is) (a := sa) hown' hstr'.1 hstr'.2
    (g := { method := m, pc := pc + 4, locals := ls, stack := .ref T.heap.size :: .ref T.heap.size :: rest, locked := none }) rfl d4' _ hsteps
end Ends
section Bodies
variable {l : Launch}
theorem vx_ofW {y : MethodName} {ws ws' : List Cond} {rm : Room} {Pc : Array Value → State → Prop} {Qc : Array Value → State → Outcome → State → Prop} {XC : String → State → State → Prop} {mc ms : Nat} {free : Addr → Prop} {cc : ByteArray} {maxL : Nat} {ret : Option FieldType}
    (hy : plainName y.cls = true) (hw : ws = Cond.code y cc maxL ret :: ws')
    (body : ∀ p e s m args below meth c s₁, BodyLoose p l y (headSpec ws rm) cc maxL ret e s m args below meth c s₁ → c.maxLocals = maxL → (∀ x ∈ c.exceptionTable.toList, False) → Pc args s →
      W p l e (headSpec ws rm).room s m args below meth c s.heap [] 0 0 (vx_MQ below Qc XC args s mc ms free) (entryFrame m args maxL)) : vx_Met l y ws rm Pc Qc XC mc ms free := by
  refine MetFree.of_bodyS (code := cc) (maxLocals := maxL) (ret := ret) hy ?_ ?_
  · intro args s m h hn
    obtain ⟨meth, c, h1, h2, h3, h4, h5, h6, -, -⟩ := Cond.code_spec hn (atoms_spec (ws := ws) h _ (by rw [hw]; exact List.mem_cons_self))
    exact ⟨meth, c, h1, h2, h3, h4, h5, h6⟩
  · intro p e s m args below meth c s₁ B hml hP _
    have hh0 : s₁.heap = s.heap := by rw [B.state]; rfl
    have ht : ∀ x ∈ c.exceptionTable.toList, False := by
      obtain ⟨meth9, c9, h1, h2, -, -, -, -, h7, -⟩ := Cond.code_spec B.named (atoms_spec (ws := ws) B.pre _ (by rw [hw]; exact List.mem_cons_self))
      cases Option.some.inj (h1.symm.trans B.method)
      cases Option.some.inj (h2.symm.trans (Stand.of_body B).code)
      intro x hx
      rw [Array.isEmpty_iff.mp h7] at hx
      cases hx
    obtain ⟨t, a1, o, b1, b2, b3⟩ := body p e s m args below meth c s₁ B hml ht hP s₁ hh0 (Stand.of_body B)
    exact ⟨t, o, a1, b1, b2, b3⟩
/-- the table of a body with handlers -/
theorem vx_table {p : Program} {x y : MethodName} {S : Spec} {cc bytes : ByteArray} {maxL maxL' : Nat} {ret ret' : Option FieldType} {e : Env} {s s₁ : State} {m : MethodId} {args : Array Value} {below : List Frame} {meth : Method} {c : Code} {hh : List (Nat × Nat × Nat × Nat)}
    (B : BodyLoose p l y S cc maxL ret e s m args below meth c s₁) (h : (Cond.codeWith y bytes maxL' ret' hh).before args s = true) : c.exceptionTable.toList = tableOf hh := by
  obtain ⟨m9, meth9, c9, hn9, h1, h2, -, -, h6, -⟩ := Cond.codeWith_spec h
  cases Option.some.inj (hn9.symm.trans B.named)
  cases Option.some.inj (h1.symm.trans B.method)
  cases Option.some.inj (h2.symm.trans (Stand.of_body B).code)
  rw [← h6, table_eq]
end Bodies
end VXA
/-! ===== END ===== -/
/-! ===== BEGIN a static call of a method with an exception table ===== -/
section VXS
variable {p : Program} {l : Launch} {e : Env} {R : Room} {s : State} {m : MethodId} {args : Array Value} {below : List Frame} {meth : Method} {c : Code} {T : State} {H : Heap} {locs : List Loc} {cells slots : Nat}
abbrev vx_CSW (R : Room) (s : State) (args : Array Value) (own : String) (index : Nat) (y : MethodName) (bytes : ByteArray) (maxL : Nat) (ret : Option FieldType) (hh : List (Nat × Nat × Nat × Nat)) (ws : List Cond) (rm : Room) (mc ms n : Nat) : Prop :=
  (rm.cells = mc ∧ rm.slots = ms ∧ rm.frames + 1 ≤ R.frames ∧ 8 + (maxL + 11) + rm.locals ≤ R.locals ∧ (∀ w ∈ ws, ∀ (a' : Array Value) (U : State), s.WarmedH U.vm → w.before a' U = true) ∧ Cond.codeWith y bytes maxL ret hh ∈ ws) ∧
  (Cond.codeWith y bytes maxL ret hh).before args s = true ∧ (Cond.initialized y.cls).before args s = true ∧ (y.cls ≠ "java/lang/invoke/MethodHandle" ∧ y.cls ≠ "java/lang/invoke/VarHandle") ∧
  (∀ sig, parseMethodDescriptor y.desc = some sig → n = sig.parameters.length) ∧ (Cond.methodLink own index y).before args s = true ∧ (Cond.static y).before args s = true
theorem vx_cwSW {own : String} {index maxL mc ms : Nat} {y : MethodName} {bytes : ByteArray} {ret : Option FieldType} {hh : List (Nat × Nat × Nat × Nat)} {Ts ws ws' : List Cond} {rm : Room} (n : Nat) (ht : ∀ w ∈ Ts, w.before args s = true) (hT : GoodIn Ts (va_wsS own index y ws)) (hw : ws = Cond.codeWith y bytes maxL ret hh :: ws') (hrc : rm.cells = mc) (hrs : rm.slots = ms)
    (hd : y.cls ≠ "java/lang/invoke/MethodHandle" ∧ y.cls ≠ "java/lang/invoke/VarHandle" ∧ (parseMethodDescriptor y.desc).map (fun d => d.parameters.length) = some n) (hR : rm.frames + 1 ≤ R.frames ∧ 8 + (maxL + 11) + rm.locals ≤ R.locals) :
    vx_CSW R s args own index y bytes maxL ret hh ws rm mc ms n := by
  have ok : ∀ w ∈ va_wsS own index y ws, w.before args s = true := fun w h => ht w (hT w h).1
  have hG : GoodIn Ts ws := fun w h => hT w (by unfold va_wsS; exact List.mem_append_right _ h)
  have hc : Cond.codeWith y bytes maxL ret hh ∈ ws := by rw [hw]; exact List.mem_cons_self
  refine ⟨⟨hrc, hrs, hR.1, hR.2, pay_in ht hG, hc⟩, ht _ (hG _ hc).1, ok _ (by simp [va_wsS]), ⟨hd.1, hd.2.1⟩, fun sig h => ?_, ok _ (by simp [va_wsS]), ok _ (by simp [va_wsS])⟩
  have h2 := hd.2.2
  rw [h] at h2
  exact (Option.some.inj h2).symm
theorem vx_callSW (X : Stand p l e R s m args below meth c T locs cells slots) (hexec : p.tables.exec = Jvm.exec) {own : String} {index : Nat} {y : MethodName} {bytes : ByteArray} {maxL : Nat} {ret : Option FieldType} {hh : List (Nat × Nat × Nat × Nat)}
    (hown : s.vm.findClass own = some m.cls) (hlink : (Cond.methodLink own index y).before args s = true) (hstat : (Cond.static y).before args s = true) (hinit : (Cond.initialized y.cls).before args s = true)
    (hcode : (Cond.codeWith y bytes maxL ret hh).before args s = true) (hy : y.cls ≠ "java/lang/invoke/MethodHandle" ∧ y.cls ≠ "java/lang/invoke/VarHandle")
    {W9 : Nat} {Pre : Pt → Array Value → Prop} {Post : Pt → Array Value → Option Value → Pt → Prop} (hK : Back l R p e below s args y 3 W9 Pre Post)
    {g : JFrame} (hg : g.method = m) (hsize : g.locals.size = c.maxLocals) {argsL rest : List Value} (hlen : ∀ sig, parseMethodDescriptor y.desc = some sig → argsL.length = sig.parameters.length)
    (hstack : g.stack = argsL.reverse ++ rest) (hW : 2 * g.monitorRoom + (rest.map fun v => v.category).sum ≤ W9) (hdg : decode c.code g.pc = .ok (.invokestatic index, 3))
    (hpre : ∀ vm₁, s.WarmedH vm₁ → Pre ⟨T.setVm vm₁, locs, cells, slots⟩ argsL.toArray) :
    ∃ (v : Option Value) (vm₁ : Vm) (B : Pt), s.WarmedH vm₁ ∧ Stand p l e R s m args below meth c B.U B.locs B.cells B.slots ∧ Post ⟨T.setVm vm₁, locs, cells, slots⟩ argsL.toArray v B ∧
      ∀ target, Steps p.tables e below (B.U.setTop { g with pc := g.pc + 3, stack := v.toList ++ rest }) target → Steps p.tables e below (T.setTop g) target := by
  obtain ⟨mk, methM, cM, hnamed, hmethM, -, -, -, -, -, -, hsigM⟩ := Cond.codeWith_spec hcode
  have hstatic : methM.isStatic = true := Cond.static_spec hnamed hmethM hstat
  obtain ⟨kP, hkP, -⟩ := className_of_methodNamed hnamed
  have hinitP : kP.init = .initialized := Cond.initialized_spec (findClass_of_methodNamed hnamed) hkP hinit
  obtain ⟨vm₁, X₁, hstep₁⟩ := X.invokestatic hexec hown hlink hnamed hmethM hstatic hkP hinitP hy (g := g) hg (argsL := argsL) (rest := rest) (hlen _ hsigM) hstack hdg
  obtain ⟨v, B, X', hpost, hsteps⟩ := hK m meth c ⟨T.setVm vm₁, locs, cells, slots⟩ { g with stack := rest } (.invokestatic index) mk argsL.toArray X₁ hg hsize hdg hW (X₁.named hnamed) (hpre vm₁ X₁.warmed)
  exact ⟨v, vm₁, B, X₁.warmed, X', hpost, fun target h => hstep₁ _ fun acts => by rw [doInvoke_state]; exact hsteps.trans h⟩
theorem vx_runSW {y : MethodName} {bytes cc : ByteArray} {maxL nL mc ms n index : Nat} {ret : Option FieldType} {hh : List (Nat × Nat × Nat × Nat)} {ws : List Cond} {rm : Room} {Pc : Array Value → State → Prop} {Qc : Array Value → State → Outcome → State → Prop} {free : Addr → Prop} {Ts : List Cond} {own : String} {As rest : List Value} {g : JFrame}
    (S : CallFix p m c cc nL s args Ts own) (hM : Met l y ws rm Pc Qc mc ms free) (cw : vx_CSW R s args own index y bytes maxL ret hh ws rm mc ms n) (hp : PreS s H Pc As)
    (hg : g.method = m) (hn : As.length = n) (hsize : g.locals.size = nL) (hstack : g.stack = As.reverse ++ rest) (hW : 2 * g.monitorRoom + (rest.map fun v => v.category).sum ≤ 8) (hdg : decode cc g.pc = .ok (.invokestatic index, 3)) (hf : cells + mc ≤ R.cells ∧ slots + ms ≤ R.slots) :
    va_Run p l e R s m args below meth c H locs cells slots mc ms g rest (Qc As.toArray) (free) := by
  obtain ⟨⟨hrc, hrs, hfr, hlo, hws, hcw⟩, hcode, hini, hy, hlen, hl, hstt⟩ := cw
  have hK : Back l R p e below s args y 3 8 (PreOf R mc ms Pc) (PostOf Qc mc ms free) := va_backW (hh := hh) (bytes := bytes) (maxL := maxL) (ret := ret) hM hp.1 hrc hrs hfr hlo hws hcw (fun a' U hW => word_at hW (Or.inl (by first | rfl | simp [Cond.onTables, Cond.keeps, Cond.steady])) hini)
  obtain ⟨hx, hb, hml, ho, -⟩ := S
  intro T hT X
  obtain ⟨v, vm₁, ⟨U', l2, c2, s2⟩, hW₁, X', ⟨g', mk, t, L, e1, e2, hq, h1, hL, h2, h3⟩, st⟩ := vx_callSW X hx (hh := hh) (bytes := bytes) (maxL := maxL) (ret := ret) ho hl hstt hini hcode hy hK hg (hsize.trans hml.symm) (argsL := As) (rest := rest) (fun sig h => hn.trans (hlen sig h)) hstack hW (by rw [hb]; exact hdg)
    (fun vm₁ hW₁ => ⟨hf.1, hf.2, hp.2 (T.setVm vm₁) hT hW₁⟩)
  dsimp only [Pt.U, Pt.locs, Pt.cells, Pt.slots] at X' e1 e2 h1 h2 h3 st
  subst h1; subst h2; subst h3
  exact ⟨v, (T.setVm vm₁).calling g' mk As.toArray, t, U', L, hT, X', hL, e1, e2, hq, st⟩
/-- not caught here, past rows that name other classes: it goes on to the caller -/
theorem vx_outP {p : Program} {l : Launch} {e : Env} {R : Room} {s : State} {m : MethodId} {args : Array Value} {below : List Frame} {meth : Method} {c : Code} {H : Heap} {locs : List Loc} {cells slots : Nat} {free : Addr → Prop} {ls : Array Slot} {rest : List Value} {Qc : Array Value → State → Outcome → State → Prop} {XC : String → State → State → Prop}
    {pc : Nat} {own E : String} {ce : Cell} {q : Addr} {mc ms : Nat} (hown : s.vm.findClass own = some m.cls) (hlocks : meth.locks = false)
    (hpass : ∀ z ∈ c.exceptionTable.toList, covers z pc = false ∨ (z.catchType ≠ 0 ∧ ∃ nm : String, (Cond.classLink own z.catchType nm).before args s = true ∧ va_Nc E nm s)) (hcell : H[q]? = some ce) (hv : ce.vm = .none) (hcl : s.vm.findClass E = some ce.cls)
    (hx : ∀ t : State, t.heap = H → s.vm.Alike t.vm → XC E s t) (hf : ∀ z ∈ locs, free z.base) (hc : cells ≤ mc) (hs : slots ≤ ms) :
    vx_W p l e R s m args below meth c H locs cells slots (vx_MQ below Qc XC args s mc ms free) (F0 m pc ls rest) q := by
  intro T hT X
  have hpl : e.platform.magicAccessors = ({} : Platform).magicAccessors := by rw [X.admits.platform]
  obtain ⟨vm', hW', X', st⟩ := X.outThrough hlocks q (g := F0 m pc ls rest) rfl rfl rfl (cell := ce) (by rw [hT]; exact hcell) (by rw [hv]; rfl)
    (by obtain ⟨k9, h9, -⟩ := Vm.findClass_spec hcl; exact ⟨k9, h9⟩) (fun z hz => by
      rcases hpass z hz with h | ⟨hz0, nm, hl1, hn1⟩
      · exact Or.inl h
      · obtain ⟨c6, hc6, hcl6⟩ := Cond.classLink_spec hown hl1 e.platform hpl
        obtain ⟨a8, b8, h1, h2, h3⟩ := hn1
        cases Option.some.inj (h1.symm.trans hcl)
        cases Option.some.inj (h2.symm.trans hc6)
        exact Or.inr ⟨hz0, _, hcl6, h3⟩)
  obtain ⟨g₀, hfr⟩ := X'.frames_eq
  have hcell9 : ((T.setVm vm').setFrames (.throwing q :: below)).heap[q]? = some ce := by
    show T.heap[q]? = some ce
    rw [hT]; exact hcell
  have hend : Ended ((T.setVm vm').setFrames (.throwing q :: below)) below (.threw q) := State.frames_setFrames _ (State.cur_lt_of_frames hfr)
  refine ⟨(T.setVm vm').setFrames (.throwing q :: below), ?_, .threw q, X'.here.running, hend, Or.inr ⟨q, rfl, E, ce, locs, hx _ hT (X'.ends _).1.alike, hcell9, hv, hcl, (X'.ends _).1, (X'.ends _).2.mono hc hs, hf⟩⟩
  rw [X.pushThrowing_eq]
  exact st
/-- a thing of a world lies in the heap -/
theorem vx_lt {D : va_G} {cl : List vw_C} {ws : va_W} {H1 : Heap} (h : va_P D cl ws H1) {k : Nat} {q : Nat × va_E} (hk : ws[k]? = some q) : q.1 < H1.size := (h k q hk).lt
end VXS
/-! ===== END ===== -/
/-! ===== BEGIN methods with a table of their own: called by a name, returning or throwing ===== -/
section VXH
/-! vx_backW, vx_callVX, vx_callSX, vx_callVW, vx_runVW, vx_runVX, vx_runSX, vx_ofWH follow the same proofs as their sisters above (Free/Laws.lean, Shelf42/LK1.lean); vx_outP calls Shelf42/NT130.lean (outThrough). -/
section
variable {l : Launch} {R : Room} {p : Program} {e : Env} {below : List Frame} {s : State} {sargs : Array Value} {y : MethodName} {len W9 : Nat}
theorem vx_backW {ws : List Cond} {rm : Room} {Pc : Array Value → State → Prop} {Qc : Array Value → State → Outcome → State → Prop} {XC : String → State → State → Prop} {mc ms : Nat} {free : Addr → Prop} {bytes : ByteArray} {maxL : Nat} {ret : Option FieldType} {hh : List (Nat × Nat × Nat × Nat)}
    (hM : vx_Met l y ws rm Pc Qc XC mc ms free) (hblind : FrameBlind Pc) (hrc : rm.cells = mc) (hrs : rm.slots = ms)
    (hframes : rm.frames + 1 ≤ R.frames) (hlocals : W9 + (maxL + 11) + rm.locals ≤ R.locals)
    (hws : ∀ w ∈ ws, ∀ a' U, s.WarmedH U.vm → w.before a' U = true) (hcode : Cond.codeWith y bytes maxL ret hh ∈ ws) (hinit : ∀ a' U, s.WarmedH U.vm → (Cond.initialized y.cls).before a' U = true) :
    vx_Back l R p e below s sargs y len W9 (PreOf R mc ms Pc) (PostOf Qc mc ms free) (vx_Post XC mc ms free) := by
  intro m meth c A g ig mk a X hg hsize hdg hW hn hp
  have h1 : (headSpec ws rm).pre.before a A.U = true := atoms_intro fun w hw => hws w hw _ _ X.warmed
  have h2 : (Cond.codeWith y bytes maxL ret hh).before a A.U = true := hws _ hcode _ _ X.warmed
  have h3 : (Cond.initialized y.cls).before a A.U = true := hinit _ _ X.warmed
  have h4 : A.cells + (headSpec ws rm).room.cells ≤ R.cells := by rw [show (headSpec ws rm).room.cells = mc from hrc]; exact hp.1
  have h5 : A.slots + (headSpec ws rm).room.slots ≤ R.slots := by rw [show (headSpec ws rm).room.slots = ms from hrs]; exact hp.2.1
  have hPc : Pc a (A.U.calling g mk a) := hblind _ _ _ _ hp.2.2
  obtain ⟨U, Ls, c0, s0⟩ := A
  dsimp only [Pt.U, Pt.locs, Pt.cells, Pt.slots] at h1 h2 h3 h4 h5 X hn hPc ⊢
  obtain ⟨m9, methY, cY, hn9, hmY, hcY, -, hlY, -⟩ := Cond.codeWith_spec h2
  cases Option.some.inj (hn9.symm.trans hn)
  obtain ⟨kY, hkY, -⟩ := className_of_methodNamed hn
  have hinitY : kY.init = .initialized := Cond.initialized_spec (findClass_of_methodNamed hn) hkY h3
  have h : At U g.method c below := by rw [hg]; exact X.here
  have hlocals9 : W9 + (maxL + 11) + (headSpec ws rm).room.locals ≤ R.locals := hlocals
  have happ : (headSpec ws rm).appliesLoose y e.platform (U.calling g mk a) = true :=
    Spec.appliesLoose_calling (g := g) h hdg hn hkY hinitY
      (X.room_calling (g := g) (R' := (headSpec ws rm).room) hsize hmY hcY hframes (by rw [hlY]; omega) h4 h5) h1
  obtain ⟨mid, hmid⟩ := h.above
  have hfr : (U.setTop g).frames = (.java g :: mid) ++ below := by rw [State.frames_setTop' g h.top, hmid]; rfl
  obtain ⟨o, s₂, hsteps, -, hend, hq⟩ := Steps.callFree hM p X.admits X.cas X.clock (acts := []) hfr happ hPc trivial
  have hq' : vx_Q Qc XC mc ms free a (U.calling g mk a) o s₂ := hq
  rw [State.frames_setTop' g h.top] at hend
  obtain ⟨g₀, hg0⟩ := Option.isSome_iff_exists.mp h.top
  obtain ⟨r, hr⟩ := State.topJava?_eq_some.mp hg0
  have hr' : (({ U with heap := s₂.heap, slotsUsed := s₂.slotsUsed } : State).setVm s₂.vm).frames = .java g₀ :: r := hr
  rcases hq' with ⟨hqc, L, hfe, hL⟩ | ⟨q, rfl, E, ce, L, hx, hce, hcv, hcl, hW₂, hsm, hL⟩
  · obtain ⟨⟨v, rfl⟩, hW₂, e2, q2, q3, q4, q5, q6⟩ := id hfe
    have e3 : s₂ = ({ (U.calling g mk a).setFrames s₂.frames with heap := s₂.heap, slotsUsed := s₂.slotsUsed } : State).setVm s₂.vm := by
      have : s₂ = ({ s₂ with vm := (U.calling g mk a).vm } : State).setVm s₂.vm := rfl
      rw [e2] at this
      exact this
    obtain ⟨c₂, i₂, len₂, hc₂, hd₂, hf₂⟩ := hend
    have hW' : U.WarmedH s₂.vm := hW₂
    have hcc : c₂ = c := by
      have h1 : s₂.code? g.method = U.code? g.method := by
        rw [State.code?_eq, State.code?_eq, hW'.alike.method?]
      exact Option.some.inj (hc₂.symm.trans (h1.trans h.code))
    subst hcc
    have hlen : len₂ = len := by rw [hdg] at hd₂; cases hd₂; rfl
    subst hlen
    have hs₂ : s₂ = (({ U with heap := s₂.heap, slotsUsed := s₂.slotsUsed } : State).setVm s₂.vm).setTop { g with pc := g.pc + len₂, stack := v.toList ++ g.stack } := by
      refine e3.trans ?_
      rw [hf₂, State.calling_eq h.top, State.setFrames_setFrames, State.setTop_of_frames _ hr', hr]
      rfl
    have hsame : U.sameButNew ({ U with heap := s₂.heap, slotsUsed := s₂.slotsUsed } : State) L mc ms := by
      refine ⟨?_, q2, q3, q4, q5, q6⟩
      obtain ⟨t, ht, -⟩ := State.frames_cons hr
      show ({ U with heap := s₂.heap, slotsUsed := s₂.slotsUsed } : State) = { U.setFrames U.frames with heap := s₂.heap, slotsUsed := s₂.slotsUsed }
      rw [State.setFrames_self ht]
    subst hg
    refine Or.inl ⟨v, ⟨(({ U with heap := s₂.heap, slotsUsed := s₂.slotsUsed } : State).setVm s₂.vm), Ls ++ L, c0 + mc, s0 + ms⟩,
      ⟨X.admits, X.cas, X.clock, X.frames, X.room, X.hears, X.method, X.code, (X.here.setHeapUsed s₂.heap s₂.slotsUsed).setVm hW'.alike, X.tail, State.WarmedH.trans X.warmed hW', X.limits, X.bytes, X.same.trans (hsame.setVm s.vm)⟩,
      ⟨g, mk, s₂, L, rfl, rfl, hqc, rfl, hL, rfl, rfl⟩, ?_⟩
    show Steps p.tables e below _ ((({ U with heap := s₂.heap, slotsUsed := s₂.slotsUsed } : State).setVm s₂.vm).setTop { g with pc := g.pc + len₂, stack := v.toList ++ g.stack })
    rw [← hs₂]
    exact hsteps
  · obtain ⟨e2, q2, q3, q4, q5, q6⟩ := id hsm
    have e3 : s₂ = ({ (U.calling g mk a).setFrames s₂.frames with heap := s₂.heap, slotsUsed := s₂.slotsUsed } : State).setVm s₂.vm := by
      have : s₂ = ({ s₂ with vm := (U.calling g mk a).vm } : State).setVm s₂.vm := rfl
      rw [e2] at this
      exact this
    have hf₂ : s₂.frames = .throwing q :: .java g :: U.frames.tail := hend
    have hW' : U.WarmedH s₂.vm := hW₂
    have hs₂ : s₂ = ((({ U with heap := s₂.heap, slotsUsed := s₂.slotsUsed } : State).setVm s₂.vm).setTop g).pushFrame (.throwing q) := by
      refine e3.trans ?_
      rw [hf₂, State.calling_eq h.top, State.setFrames_setFrames, State.pushFrame, State.frames_setTop _ hr', State.setTop_of_frames _ hr', State.setFrames_setFrames, hr]
      rfl
    have hsame : U.sameButNew ({ U with heap := s₂.heap, slotsUsed := s₂.slotsUsed } : State) L mc ms := by
      refine ⟨?_, q2, q3, q4, q5, q6⟩
      obtain ⟨t, ht, -⟩ := State.frames_cons hr
      show ({ U with heap := s₂.heap, slotsUsed := s₂.slotsUsed } : State) = { U.setFrames U.frames with heap := s₂.heap, slotsUsed := s₂.slotsUsed }
      rw [State.setFrames_self ht]
    subst hg
    refine Or.inr ⟨q, ⟨(({ U with heap := s₂.heap, slotsUsed := s₂.slotsUsed } : State).setVm s₂.vm), Ls ++ L, c0 + mc, s0 + ms⟩,
      ⟨X.admits, X.cas, X.clock, X.frames, X.room, X.hears, X.method, X.code, (X.here.setHeapUsed s₂.heap s₂.slotsUsed).setVm hW'.alike, X.tail, State.WarmedH.trans X.warmed hW', X.limits, X.bytes, X.same.trans (hsame.setVm s.vm)⟩,
      ⟨g, mk, s₂, L, E, ce, rfl, rfl, hx, hce, hcv, hcl, rfl, hL, rfl, rfl⟩, ?_⟩
    show Steps p.tables e below _ (((({ U with heap := s₂.heap, slotsUsed := s₂.slotsUsed } : State).setVm s₂.vm).setTop g).pushFrame (.throwing q))
    rw [← hs₂]
    exact hsteps
end
variable {p : Program} {l : Launch} {e : Env} {R : Room} {s : State} {m : MethodId} {args : Array Value} {below : List Frame} {meth : Method} {c : Code} {T : State} {H : Heap} {locs : List Loc} {cells slots : Nat}
theorem vx_callVX (X : Stand p l e R s m args below meth c T locs cells slots) (hexec : p.tables.exec = Jvm.exec) {own C : String} {index : Nat} {y : MethodName} {bytes : ByteArray} {maxL : Nat} {ret : Option FieldType} {hh : List (Nat × Nat × Nat × Nat)}
    (hown : s.vm.findClass own = some m.cls) (hlink : (Cond.methodLink own index y).before args s = true) (hinst : (Cond.instanceMethod y).before args s = true) (hsel : (Cond.selects C y y).before args s = true)
    (hcode : (Cond.codeWith y bytes maxL ret hh).before args s = true) (hy : y.cls ≠ "java/lang/invoke/MethodHandle" ∧ y.cls ≠ "java/lang/invoke/VarHandle")
    {W9 : Nat} {Pre : Pt → Array Value → Prop} {Post : Pt → Array Value → Option Value → Pt → Prop} {PostX : Pt → Array Value → Addr → Pt → Prop} (hK : vx_Back l R p e below s args y 3 W9 Pre Post PostX)
    {b : Addr} {cellB : Cell} (hcell : T.heap[b]? = some cellB) (hobj : cellB.vm.isStatics = false) (hcls : s.vm.findClass C = some cellB.cls)
    {g : JFrame} (hg : g.method = m) (hsize : g.locals.size = c.maxLocals) {argsL rest : List Value} (hlen : ∀ sig, parseMethodDescriptor y.desc = some sig → argsL.length = sig.parameters.length)
    (hstack : g.stack = argsL.reverse ++ .ref b :: rest) (hW : 2 * g.monitorRoom + (rest.map fun v => v.category).sum ≤ W9) (hdg : decode c.code g.pc = .ok (.invokevirtual index, 3))
    (hpre : ∀ vm₁, s.WarmedH vm₁ → Pre ⟨T.setVm vm₁, locs, cells, slots⟩ (Value.ref b :: argsL).toArray) :
    (∃ (v : Option Value) (vm₁ : Vm) (B : Pt), s.WarmedH vm₁ ∧ Stand p l e R s m args below meth c B.U B.locs B.cells B.slots ∧ Post ⟨T.setVm vm₁, locs, cells, slots⟩ (Value.ref b :: argsL).toArray v B ∧
      ∀ target, Steps p.tables e below (B.U.setTop { g with pc := g.pc + 3, stack := v.toList ++ rest }) target → Steps p.tables e below (T.setTop g) target) ∨
    (∃ (q : Addr) (vm₁ : Vm) (B : Pt), s.WarmedH vm₁ ∧ Stand p l e R s m args below meth c B.U B.locs B.cells B.slots ∧ PostX ⟨T.setVm vm₁, locs, cells, slots⟩ (Value.ref b :: argsL).toArray q B ∧
      Steps p.tables e below (T.setTop g) ((B.U.setTop { g with stack := rest }).pushFrame (.throwing q))) := by
  obtain ⟨mk, methM, hnamed, hmethM, hstM, habM⟩ := Cond.instanceMethod_spec hinst
  obtain ⟨m8, methM', cM, hn8, hmethM', -, -, -, -, -, -, hsigM⟩ := Cond.codeWith_spec hcode
  cases Option.some.inj (hn8.symm.trans hnamed)
  cases hmethM.symm.trans hmethM'
  obtain ⟨c2, r2, m2, q1, q2, q3, q4, kP, hkP, hkPi⟩ := Cond.selects_spec hsel
  cases hcls.symm.trans q1
  cases (State.methodFound?_of_named hnamed hy).symm.trans q2
  cases hnamed.symm.trans q3
  have hselP : selectMethod e.platform s.vm cellB.cls mk = .method mk := by rw [Launch.admits_selectMethod X.admits]; exact q4
  obtain ⟨vm₁, X₁, hstep₁⟩ := X.invokevirtual hexec hown hlink hnamed hmethM hstM hkP hkPi hy (a := b) (cell := cellB) hcell
    (fun z h => by rw [h] at hobj; cases hobj) hselP hmethM habM hkP hkPi (g := g) hg (argsL := argsL) (rest := rest) (hlen _ hsigM) hstack hdg
  rcases hK m meth c ⟨T.setVm vm₁, locs, cells, slots⟩ { g with stack := rest } (.invokevirtual index) mk (Value.ref b :: argsL).toArray X₁ hg hsize hdg hW (X₁.named hnamed) (hpre vm₁ X₁.warmed) with ⟨v, B, X', hpost, hsteps⟩ | ⟨q, B, X', hpost, hsteps⟩
  · exact Or.inl ⟨v, vm₁, B, X₁.warmed, X', hpost, fun target h => hstep₁ _ fun acts => by rw [doInvoke_state]; exact hsteps.trans h⟩
  · exact Or.inr ⟨q, vm₁, B, X₁.warmed, X', hpost, hstep₁ _ fun acts => by rw [doInvoke_state]; exact hsteps⟩
theorem vx_callSX (X : Stand p l e R s m args below meth c T locs cells slots) (hexec : p.tables.exec = Jvm.exec) {own : String} {index : Nat} {y : MethodName} {bytes : ByteArray} {maxL : Nat} {ret : Option FieldType} {hh : List (Nat × Nat × Nat × Nat)}
    (hown : s.vm.findClass own = some m.cls) (hlink : (Cond.methodLink own index y).before args s = true) (hstat : (Cond.static y).before args s = true) (hinit : (Cond.initialized y.cls).before args s = true)
    (hcode : (Cond.codeWith y bytes maxL ret hh).before args s = true) (hy : y.cls ≠ "java/lang/invoke/MethodHandle" ∧ y.cls ≠ "java/lang/invoke/VarHandle")
    {W9 : Nat} {Pre : Pt → Array Value → Prop} {Post : Pt → Array Value → Option Value → Pt → Prop} {PostX : Pt → Array Value → Addr → Pt → Prop} (hK : vx_Back l R p e below s args y 3 W9 Pre Post PostX)
    {g : JFrame} (hg : g.method = m) (hsize : g.locals.size = c.maxLocals) {argsL rest : List Value} (hlen : ∀ sig, parseMethodDescriptor y.desc = some sig → argsL.length = sig.parameters.length)
    (hstack : g.stack = argsL.reverse ++ rest) (hW : 2 * g.monitorRoom + (rest.map fun v => v.category).sum ≤ W9) (hdg : decode c.code g.pc = .ok (.invokestatic index, 3))
    (hpre : ∀ vm₁, s.WarmedH vm₁ → Pre ⟨T.setVm vm₁, locs, cells, slots⟩ argsL.toArray) :
    (∃ (v : Option Value) (vm₁ : Vm) (B : Pt), s.WarmedH vm₁ ∧ Stand p l e R s m args below meth c B.U B.locs B.cells B.slots ∧ Post ⟨T.setVm vm₁, locs, cells, slots⟩ argsL.toArray v B ∧
      ∀ target, Steps p.tables e below (B.U.setTop { g with pc := g.pc + 3, stack := v.toList ++ rest }) target → Steps p.tables e below (T.setTop g) target) ∨
    (∃ (q : Addr) (vm₁ : Vm) (B : Pt), s.WarmedH vm₁ ∧ Stand p l e R s m args below meth c B.U B.locs B.cells B.slots ∧ PostX ⟨T.setVm vm₁, locs, cells, slots⟩ argsL.toArray q B ∧
      Steps p.tables e below (T.setTop g) ((B.U.setTop { g with stack := rest }).pushFrame (.throwing q))) := by
  obtain ⟨mk, methM, cM, hnamed, hmethM, -, -, -, -, -, -, hsigM⟩ := Cond.codeWith_spec hcode
  have hstatic : methM.isStatic = true := Cond.static_spec hnamed hmethM hstat
  obtain ⟨kP, hkP, -⟩ := className_of_methodNamed hnamed
  have hinitP : kP.init = .initialized := Cond.initialized_spec (findClass_of_methodNamed hnamed) hkP hinit
  obtain ⟨vm₁, X₁, hstep₁⟩ := X.invokestatic hexec hown hlink hnamed hmethM hstatic hkP hinitP hy (g := g) hg (argsL := argsL) (rest := rest) (hlen _ hsigM) hstack hdg
  rcases hK m meth c ⟨T.setVm vm₁, locs, cells, slots⟩ { g with stack := rest } (.invokestatic index) mk argsL.toArray X₁ hg hsize hdg hW (X₁.named hnamed) (hpre vm₁ X₁.warmed) with ⟨v, B, X', hpost, hsteps⟩ | ⟨q, B, X', hpost, hsteps⟩
  · exact Or.inl ⟨v, vm₁, B, X₁.warmed, X', hpost, fun target h => hstep₁ _ fun acts => by rw [doInvoke_state]; exact hsteps.trans h⟩
  · exact Or.inr ⟨q, vm₁, B, X₁.warmed, X', hpost, hstep₁ _ fun acts => by rw [doInvoke_state]; exact hsteps⟩
theorem vx_callVW (X : Stand p l e R s m args below meth c T locs cells slots) (hexec : p.tables.exec = Jvm.exec) {own C : String} {index : Nat} {y : MethodName} {bytes : ByteArray} {maxL : Nat} {ret : Option FieldType} {hh : List (Nat × Nat × Nat × Nat)}
    (hown : s.vm.findClass own = some m.cls) (hlink : (Cond.methodLink own index y).before args s = true) (hinst : (Cond.instanceMethod y).before args s = true) (hsel : (Cond.selects C y y).before args s = true)
    (hcode : (Cond.codeWith y bytes maxL ret hh).before args s = true) (hy : y.cls ≠ "java/lang/invoke/MethodHandle" ∧ y.cls ≠ "java/lang/invoke/VarHandle")
    {W9 : Nat} {Pre : Pt → Array Value → Prop} {Post : Pt → Array Value → Option Value → Pt → Prop} (hK : Back l R p e below s args y 3 W9 Pre Post)
    {b : Addr} {cellB : Cell} (hcell : T.heap[b]? = some cellB) (hobj : cellB.vm.isStatics = false) (hcls : s.vm.findClass C = some cellB.cls)
    {g : JFrame} (hg : g.method = m) (hsize : g.locals.size = c.maxLocals) {argsL rest : List Value} (hlen : ∀ sig, parseMethodDescriptor y.desc = some sig → argsL.length = sig.parameters.length)
    (hstack : g.stack = argsL.reverse ++ .ref b :: rest) (hW : 2 * g.monitorRoom + (rest.map fun v => v.category).sum ≤ W9) (hdg : decode c.code g.pc = .ok (.invokevirtual index, 3))
    (hpre : ∀ vm₁, s.WarmedH vm₁ → Pre ⟨T.setVm vm₁, locs, cells, slots⟩ (Value.ref b :: argsL).toArray) :
    ∃ (v : Option Value) (vm₁ : Vm) (B : Pt), s.WarmedH vm₁ ∧ Stand p l e R s m args below meth c B.U B.locs B.cells B.slots ∧ Post ⟨T.setVm vm₁, locs, cells, slots⟩ (Value.ref b :: argsL).toArray v B ∧
      ∀ target, Steps p.tables e below (B.U.setTop { g with pc := g.pc + 3, stack := v.toList ++ rest }) target → Steps p.tables e below (T.setTop g) target := by
  obtain ⟨mk, methM, hnamed, hmethM, hstM, habM⟩ := Cond.instanceMethod_spec hinst
  obtain ⟨m8, methM', cM, hn8, hmethM', -, -, -, -, -, -, hsigM⟩ := Cond.codeWith_spec hcode
  cases Option.some.inj (hn8.symm.trans hnamed)
  cases hmethM.symm.trans hmethM'
  obtain ⟨c2, r2, m2, q1, q2, q3, q4, kP, hkP, hkPi⟩ := Cond.selects_spec hsel
  cases hcls.symm.trans q1
  cases (State.methodFound?_of_named hnamed hy).symm.trans q2
  cases hnamed.symm.trans q3
  have hselP : selectMethod e.platform s.vm cellB.cls mk = .method mk := by rw [Launch.admits_selectMethod X.admits]; exact q4
  obtain ⟨vm₁, X₁, hstep₁⟩ := X.invokevirtual hexec hown hlink hnamed hmethM hstM hkP hkPi hy (a := b) (cell := cellB) hcell
    (fun z h => by rw [h] at hobj; cases hobj) hselP hmethM habM hkP hkPi (g := g) hg (argsL := argsL) (rest := rest) (hlen _ hsigM) hstack hdg
  obtain ⟨v, B, X', hpost, hsteps⟩ := hK m meth c ⟨T.setVm vm₁, locs, cells, slots⟩ { g with stack := rest } (.invokevirtual index) mk (Value.ref b :: argsL).toArray X₁ hg hsize hdg hW (X₁.named hnamed) (hpre vm₁ X₁.warmed)
  exact ⟨v, vm₁, B, X₁.warmed, X', hpost, fun target h => hstep₁ _ fun acts => by rw [doInvoke_state]; exact hsteps.trans h⟩
abbrev vx_CVW (R : Room) (s : State) (args : Array Value) (own C : String) (index : Nat) (y : MethodName) (bytes : ByteArray) (maxL : Nat) (ret : Option FieldType) (hh : List (Nat × Nat × Nat × Nat)) (ws : List Cond) (rm : Room) (mc ms n : Nat) : Prop :=
  (rm.cells = mc ∧ rm.slots = ms ∧ rm.frames + 1 ≤ R.frames ∧ 8 + (maxL + 11) + rm.locals ≤ R.locals ∧ (∀ w ∈ ws, ∀ (a' : Array Value) (U : State), s.WarmedH U.vm → w.before a' U = true) ∧ Cond.codeWith y bytes maxL ret hh ∈ ws) ∧
  (Cond.codeWith y bytes maxL ret hh).before args s = true ∧ (Cond.initialized y.cls).before args s = true ∧ (y.cls ≠ "java/lang/invoke/MethodHandle" ∧ y.cls ≠ "java/lang/invoke/VarHandle") ∧
  (∀ sig, parseMethodDescriptor y.desc = some sig → n = sig.parameters.length) ∧ (Cond.methodLink own index y).before args s = true ∧ (Cond.instanceMethod y).before args s = true ∧ (Cond.selects C y y).before args s = true
theorem vx_cwVW {own C : String} {index maxL mc ms : Nat} {y : MethodName} {bytes : ByteArray} {ret : Option FieldType} {hh : List (Nat × Nat × Nat × Nat)} {Ts ws ws' : List Cond} {rm : Room} (n : Nat) (ht : ∀ w ∈ Ts, w.before args s = true) (hT : GoodIn Ts (wsV own index C y ws)) (hw : ws = Cond.codeWith y bytes maxL ret hh :: ws') (hrc : rm.cells = mc) (hrs : rm.slots = ms)
    (hd : y.cls = C ∧ y.cls ≠ "java/lang/invoke/MethodHandle" ∧ y.cls ≠ "java/lang/invoke/VarHandle" ∧ (parseMethodDescriptor y.desc).map (fun d => d.parameters.length) = some n) (hR : rm.frames + 1 ≤ R.frames ∧ 8 + (maxL + 11) + rm.locals ≤ R.locals) :
    vx_CVW R s args own C index y bytes maxL ret hh ws rm mc ms n := by
  obtain ⟨hC, hd⟩ := hd
  subst hC
  have ok : ∀ w ∈ wsV own index y.cls y ws, w.before args s = true := fun w h => ht w (hT w h).1
  have hG : GoodIn Ts ws := fun w h => hT w (by unfold wsV; exact List.mem_append_right _ h)
  have hc : Cond.codeWith y bytes maxL ret hh ∈ ws := by rw [hw]; exact List.mem_cons_self
  refine ⟨⟨hrc, hrs, hR.1, hR.2, pay_in ht hG, hc⟩, ht _ (hG _ hc).1, ok _ (by simp [wsV]), ⟨hd.1, hd.2.1⟩, fun sig h => ?_, ok _ (by simp [wsV]), ok _ (by simp [wsV]), ok _ (by simp [wsV])⟩
  have h2 := hd.2.2
  rw [h] at h2
  exact (Option.some.inj h2).symm
theorem vx_runVW {y : MethodName} {bytes cc : ByteArray} {maxL nL mc ms n index : Nat} {ret : Option FieldType} {hh : List (Nat × Nat × Nat × Nat)} {ws : List Cond} {rm : Room} {Pc : Array Value → State → Prop} {Qc : Array Value → State → Outcome → State → Prop} {free : Addr → Prop} {Ts : List Cond} {own C : String} {b : Addr} {As rest : List Value} {g : JFrame}
    (S : CallFix p m c cc nL s args Ts own) (hM : Met l y ws rm Pc Qc mc ms free) (cw : vx_CVW R s args own C index y bytes maxL ret hh ws rm mc ms n) (hp : PreV s H C b Pc As)
    (hg : g.method = m) (hn : As.length = n) (hsize : g.locals.size = nL) (hstack : g.stack = As.reverse ++ .ref b :: rest) (hW : 2 * g.monitorRoom + (rest.map fun v => v.category).sum ≤ 8) (hdg : decode cc g.pc = .ok (.invokevirtual index, 3)) (hf : cells + mc ≤ R.cells ∧ slots + ms ≤ R.slots) :
    va_Run p l e R s m args below meth c H locs cells slots mc ms g rest (Qc (Value.ref b :: As).toArray) free := by
  obtain ⟨⟨hrc, hrs, hfr, hlo, hws, hcw⟩, hcode, hini, hy, hlen, hl, hin, hse⟩ := cw
  have hK : Back l R p e below s args y 3 8 (PreOf R mc ms Pc) (PostOf Qc mc ms free) := va_backW (hh := hh) (bytes := bytes) (maxL := maxL) (ret := ret) hM hp.1 hrc hrs hfr hlo hws hcw (fun a' U hW => word_at hW (Or.inl (by first | rfl | simp [Cond.onTables, Cond.keeps, Cond.steady])) hini)
  obtain ⟨hx, hb, hml, ho, -⟩ := S
  obtain ⟨-, ⟨cellB, hcB, hoB, hclB⟩, hPc⟩ := hp
  intro T hT X
  obtain ⟨v, vm₁, ⟨U', l2, c2, s2⟩, hW₁, X', ⟨g', mk, t, L, e1, e2, hq, h1, hL, h2, h3⟩, st⟩ := vx_callVW X hx (C := C) (hh := hh) (bytes := bytes) (maxL := maxL) (ret := ret) ho hl hin hse hcode hy hK (by rw [hT]; exact hcB) hoB hclB hg (hsize.trans hml.symm) (argsL := As) (rest := rest) (fun sig h => hn.trans (hlen sig h)) hstack hW (by rw [hb]; exact hdg)
    (fun vm₁ hW₁ => ⟨hf.1, hf.2, hPc (T.setVm vm₁) hT hW₁⟩)
  dsimp only [Pt.U, Pt.locs, Pt.cells, Pt.slots] at X' e1 e2 h1 h2 h3 st
  subst h1; subst h2; subst h3
  exact ⟨v, (T.setVm vm₁).calling g' mk (Value.ref b :: As).toArray, t, U', L, hT, X', hL, e1, e2, hq, st⟩
section
variable {y : MethodName} {bytes cc : ByteArray} {maxL nL mc ms n index : Nat} {ret : Option FieldType} {ws : List Cond} {rm : Room} {Pc : Array Value → State → Prop} {Qc : Array Value → State → Outcome → State → Prop} {XC : String → State → State → Prop} {free : Addr → Prop} {Ts : List Cond} {own C : String} {b : Addr} {As rest : List Value} {g : JFrame}
theorem vx_runVX {hh : List (Nat × Nat × Nat × Nat)} (S : CallFix p m c cc nL s args Ts own) (hM : vx_Met l y ws rm Pc Qc XC mc ms free) (cw : vx_CVW R s args own C index y bytes maxL ret hh ws rm mc ms n) (hp : PreV s H C b Pc As)
    (hg : g.method = m) (hn : As.length = n) (hsize : g.locals.size = nL) (hstack : g.stack = As.reverse ++ .ref b :: rest) (hW : 2 * g.monitorRoom + (rest.map fun v => v.category).sum ≤ 8) (hdg : decode cc g.pc = .ok (.invokevirtual index, 3)) (hf : cells + mc ≤ R.cells ∧ slots + ms ≤ R.slots) :
    vx_Run p l e R s m args below meth c H locs cells slots mc ms g rest (Qc (Value.ref b :: As).toArray) XC free := by
  obtain ⟨⟨hrc, hrs, hfr, hlo, hws, hcw⟩, hcode, hini, hy, hlen, hl, hin, hse⟩ := cw
  have hK : vx_Back l R p e below s args y 3 8 (PreOf R mc ms Pc) (PostOf Qc mc ms free) (vx_Post XC mc ms free) := vx_backW (hh := hh) (bytes := bytes) (maxL := maxL) (ret := ret) hM hp.1 hrc hrs hfr hlo hws hcw (fun a' U hW => word_at hW (Or.inl (by first | rfl | simp [Cond.onTables, Cond.keeps, Cond.steady])) hini)
  obtain ⟨hx, hb, hml, ho, -⟩ := S
  obtain ⟨-, ⟨cellB, hcB, hoB, hclB⟩, hPc⟩ := hp
  intro T hT X
  rcases vx_callVX X hx (C := C) (hh := hh) (bytes := bytes) (maxL := maxL) (ret := ret) ho hl hin hse hcode hy hK (by rw [hT]; exact hcB) hoB hclB hg (hsize.trans hml.symm) (argsL := As) (rest := rest) (fun sig h => hn.trans (hlen sig h)) hstack hW (by rw [hb]; exact hdg)
    (fun vm₁ hW₁ => ⟨hf.1, hf.2, hPc (T.setVm vm₁) hT hW₁⟩) with ⟨v, vm₁, ⟨U', l2, c2, s2⟩, hW₁, X', ⟨g', mk, t, L, e1, e2, hq, h1, hL, h2, h3⟩, st⟩ | ⟨q, vm₁, ⟨U', l2, c2, s2⟩, hW₁, X', ⟨g', mk, t, L, E, ce, e1, e2, hq, hce, hcv, hcl, h1, hL, h2, h3⟩, st⟩
  · dsimp only [Pt.U, Pt.locs, Pt.cells, Pt.slots] at X' e1 e2 h1 h2 h3 st
    subst h1; subst h2; subst h3
    exact Or.inl ⟨v, (T.setVm vm₁).calling g' mk (Value.ref b :: As).toArray, t, U', L, hT, X', hL, e1, e2, hq, st⟩
  · dsimp only [Pt.U, Pt.locs, Pt.cells, Pt.slots] at X' e1 e2 h1 h2 h3 st hcl
    subst h1; subst h2; subst h3
    exact Or.inr ⟨q, (T.setVm vm₁).calling g' mk (Value.ref b :: As).toArray, t, U', L, E, ce, hT, X', hL, e1, e2, hq, hce, hcv, vx_cls hW₁ hcl, st⟩
theorem vx_runSX {hh : List (Nat × Nat × Nat × Nat)} (S : CallFix p m c cc nL s args Ts own) (hM : vx_Met l y ws rm Pc Qc XC mc ms free) (cw : vx_CSW R s args own index y bytes maxL ret hh ws rm mc ms n) (hp : PreS s H Pc As)
    (hg : g.method = m) (hn : As.length = n) (hsize : g.locals.size = nL) (hstack : g.stack = As.reverse ++ rest) (hW : 2 * g.monitorRoom + (rest.map fun v => v.category).sum ≤ 8) (hdg : decode cc g.pc = .ok (.invokestatic index, 3)) (hf : cells + mc ≤ R.cells ∧ slots + ms ≤ R.slots) :
    vx_Run p l e R s m args below meth c H locs cells slots mc ms g rest (Qc As.toArray) XC free := by
  obtain ⟨⟨hrc, hrs, hfr, hlo, hws, hcw⟩, hcode, hini, hy, hlen, hl, hstt⟩ := cw
  have hK : vx_Back l R p e below s args y 3 8 (PreOf R mc ms Pc) (PostOf Qc mc ms free) (vx_Post XC mc ms free) := vx_backW (hh := hh) (bytes := bytes) (maxL := maxL) (ret := ret) hM hp.1 hrc hrs hfr hlo hws hcw (fun a' U hW => word_at hW (Or.inl (by first | rfl | simp [Cond.onTables, Cond.keeps, Cond.steady])) hini)
  obtain ⟨hx, hb, hml, ho, -⟩ := S
  intro T hT X
  rcases vx_callSX X hx (hh := hh) (bytes := bytes) (maxL := maxL) (ret := ret) ho hl hstt hini hcode hy hK hg (hsize.trans hml.symm) (argsL := As) (rest := rest) (fun sig h => hn.trans (hlen sig h)) hstack hW (by rw [hb]; exact hdg)
    (fun vm₁ hW₁ => ⟨hf.1, hf.2, hp.2 (T.setVm vm₁) hT hW₁⟩) with ⟨v, vm₁, ⟨U', l2, c2, s2⟩, hW₁, X', ⟨g', mk, t, L, e1, e2, hq, h1, hL, h2, h3⟩, st⟩ | ⟨q, vm₁, ⟨U', l2, c2, s2⟩, hW₁, X', ⟨g', mk, t, L, E, ce, e1, e2, hq, hce, hcv, hcl, h1, hL, h2, h3⟩, st⟩
  · dsimp only [Pt.U, Pt.locs, Pt.cells, Pt.slots] at X' e1 e2 h1 h2 h3 st
    subst h1; subst h2; subst h3
    exact Or.inl ⟨v, (T.setVm vm₁).calling g' mk As.toArray, t, U', L, hT, X', hL, e1, e2, hq, st⟩
  · dsimp only [Pt.U, Pt.locs, Pt.cells, Pt.slots] at X' e1 e2 h1 h2 h3 st hcl
    subst h1; subst h2; subst h3
    exact Or.inr ⟨q, (T.setVm vm₁).calling g' mk As.toArray, t, U', L, E, ce, hT, X', hL, e1, e2, hq, hce, hcv, vx_cls hW₁ hcl, st⟩
end
end VXH
theorem vx_ofWH {l : Launch} {y : MethodName} {ws ws' : List Cond} {rm : Room} {Pc : Array Value → State → Prop} {Qc : Array Value → State → Outcome → State → Prop} {XC : String → State → State → Prop} {mc ms : Nat} {free : Addr → Prop} {cc : ByteArray} {maxL : Nat} {ret : Option FieldType} {hh : List (Nat × Nat × Nat × Nat)}
    (hy : plainName y.cls = true) (hw : ws = Cond.codeWith y cc maxL ret hh :: ws')
    (body : ∀ p e s m args below meth c s₁, BodyLoose p l y (headSpec ws rm) cc maxL ret e s m args below meth c s₁ → c.maxLocals = maxL → Pc args s →
      W p l e (headSpec ws rm).room s m args below meth c s.heap [] 0 0 (vx_MQ below Qc XC args s mc ms free) (entryFrame m args maxL)) : vx_Met l y ws rm Pc Qc XC mc ms free := by
  refine MetFree.of_bodyS (code := cc) (maxLocals := maxL) (ret := ret) hy ?_ ?_
  · intro args s m h hn
    obtain ⟨m9, meth, c, hn9, h1, h2, h3, h4, -, h5, h6, -⟩ := Cond.codeWith_spec (atoms_spec (ws := ws) h _ (by rw [hw]; exact List.mem_cons_self))
    cases hn.symm.trans hn9
    exact ⟨meth, c, h1, h2, h3, h4, h5, h6⟩
  · intro p e s m args below meth c s₁ B hml hP _
    have hh0 : s₁.heap = s.heap := by rw [B.state]; rfl
    obtain ⟨t, a1, o, b1, b2, b3⟩ := body p e s m args below meth c s₁ B hml hP s₁ hh0 (Stand.of_body B)
    exact ⟨t, o, a1, b1, b2, b3⟩
/-! ===== END ===== -/

/-! ===== BEGIN what the machine throws by itself, no traces kept ===== -/
section VXM
set_option maxHeartbeats 1000000 in
/-- the machine throws cls with the message text, no traces kept: from its note over the frame g to 'throwing' over the same frame (follows the proofs of Stand.vmThrowsMessage, Shelf/KitTracedVmS.lean, and Stand.throwsMessageColdBareV, StandMessageColdV.lean, without the step out of the frame) -/
theorem vx_vmAt {p : Program} {l : Launch} {e : Env} {R : Room} {s : State} {m₀ : MethodId} {args : Array Value} {below : List Frame} {meth : Method} {c : Code} {W : State} {locs : List Loc} {cells slots : Nat}
    (X : Stand p l e R s m₀ args below meth c W locs cells slots) (hexec : p.tables.exec = Jvm.exec) (htr : e.platform.stackTraces = false) {cls : String} {names : List String} {text : String}
    (hcls : Bundle.fit cls = true) (hnames : ∀ n ∈ names, Bundle.fit n = true) (hsoe : (cls == "java/lang/StackOverflowError") = false) (hoom : (cls == "java/lang/OutOfMemoryError") = false)
    (h : ∀ a ∈ Bundle.messageArmAtoms cls names, a.before args s = true)
    (hlocs : ∀ x ∈ locs, ∀ cell, s.heap[x.base]? = some cell → cell.vm.isStatics = false)
    (htext : (text == notModelled) = false) (hlimit : ¬ (stringBytes (stringToUtf16 text)).size > e.platform.arrayLengthLimit) (hheap : ¬ (stringBytes (stringToUtf16 text)).size * componentBytes .byte > e.platform.maxHeapBytes)
    {g : JFrame} (hg : g.method = m₀) (hsize : g.locals.size = c.maxLocals)
    (hRframes : names.length + 4 < R.frames) (hRlocals : 2 * g.monitorRoom + (g.stack.map fun v => v.category).sum + 10240 ≤ R.locals) (hshort : 13 * names.length + 55 ≤ 10240)
    (hRcells : cells + 3 ≤ R.cells) (hRslots : slots + ((stringBytes (stringToUtf16 text)).size + 4 + 6) ≤ R.slots) (hlocks : meth.locks = false) :
    ∃ (S : State) (q : Addr) (ce : Cell), (∀ target, Steps p.tables e below ((S.setTop g).pushFrame (.throwing q)) target → Steps p.tables e below ((W.setTop g).pushFrame (.throwNew cls (some text) none)) target) ∧
      Stand p l e R s m₀ args below meth c S locs (cells + 3) (slots + ((stringBytes (stringToUtf16 text)).size + 4 + 6)) ∧ S.heap[q]? = some ce ∧ s.vm.findClass cls = some ce.cls ∧ ce.vm = .none := by
  have howns : e.platform.frameOwnsMonitors = true := by rw [X.admits.platform]
  have hfin : e.platform.finalization = false := by rw [X.admits.platform]
  have hpl : e.platform.magicAccessors = ({} : Platform).magicAccessors := by rw [X.admits.platform]
  have a : ∀ x, x ∈ Bundle.messageArmAtoms cls names → x.holds args s none s [] = true := fun x hx => h x hx
  obtain ⟨T, Z0, L, -, Y⟩ := ThrowableC.of_atoms (args := args) howns hfin hpl (fun x hx => h x (by simp [Bundle.messageArmAtoms, hx]))
  obtain ⟨Z, M, LZ, LM, hnZ⟩ := Init0T.ofS_atoms (args := args) hpl L Y (fun x hx => h x (by simp [Bundle.messageArmAtoms, hx]))
  obtain ⟨P1, Ps, hlen, L1, hL, hP1m, hlink1, hlink⟩ := Bundle.chainS (args := args) hpl hnZ names cls hcls hnames (fun x hx => h x (by simp [Bundle.messageArmAtoms, hx]))
  obtain ⟨Zs, LZs, hn4, hfitv, hfitc⟩ := StringT.of_atoms (args := args) (fun x hx => h x (by simp [Bundle.messageArmAtoms, hx]))
  have hfound : s.vm.findClass cls = some P1.m.cls := findClass_of_methodNamed hP1m
  obtain ⟨c1, kX, hc1, hk, hord, -, -, hn6⟩ := Cond.instantiable_spec (a (.instantiable cls 6) (by simp [Bundle.messageArmAtoms]))
  cases Option.some.inj (hc1.symm.trans hfound)
  have hinit := Cond.initialized_spec hfound hk (a (.initialized cls) (by simp [Bundle.messageArmAtoms]))
  have hctor : kX.findMethod "<init>" "(Ljava/lang/String;)V" = some P1.m.idx := findMethod_of_methodNamed hP1m hk
  have hsel0 : selectMethod e.platform s.vm P1.m.cls T.fill0 = .method T.fill0 := by
    obtain ⟨c2, r2, m2, q1, q2, q3, q4, -⟩ := Cond.selects_spec (a (.selects cls Bundle.tFill0 Bundle.tFill0) (by simp [Bundle.messageArmAtoms]))
    cases Option.some.inj (q1.symm.trans hfound)
    cases Option.some.inj (q2.symm.trans (State.methodFound?_of_named Y.fill0 (by decide)))
    cases Option.some.inj (q3.symm.trans Y.fill0)
    rw [Launch.admits_selectMethod X.admits]; exact q4
  have hselF : selectMethod e.platform s.vm P1.m.cls T.fill = .method T.fill := by
    obtain ⟨c2, r2, m2, q1, q2, q3, q4, -⟩ := Cond.selects_spec (a (.selects cls Bundle.tFill Bundle.tFill) (by simp [Bundle.messageArmAtoms]))
    cases Option.some.inj (q1.symm.trans hfound)
    cases Option.some.inj (q2.symm.trans (State.methodFound?_of_named Y.fill (by decide)))
    cases Option.some.inj (q3.symm.trans Y.fill)
    rw [Launch.admits_selectMethod X.admits]; exact q4
  obtain ⟨cellS0, hcS0, hiss⟩ := Y.statics
  obtain ⟨u0, hu0⟩ := Cond.staticRefV Y.unassigned L.unassignedStatic L.statics hcS0 hiss (a (.isRef (.static Bundle.tN "UNASSIGNED_STACK" Bundle.steD)) (by simp [Bundle.messageArmAtoms]))
  obtain ⟨sen, hsen⟩ := Cond.staticRefV Y.sentinel L.sentinelStatic L.statics hcS0 hiss (a (.isRef (.static Bundle.tN "SUPPRESSED_SENTINEL" Bundle.listD)) (by simp [Bundle.messageArmAtoms]))
  obtain ⟨ci198, i198, fB, hk198, hg198, ha198, hsB, -, hnB, htB, hffB⟩ := Cond.ownField (t := .object "java/lang/Object") Y.found L.cls (by decide +kernel) (a (.fieldLink Bundle.tN 198 Bundle.tN "backtrace" "Ljava/lang/Object;") (by simp [Bundle.messageArmAtoms])) (a (.lays Bundle.tN Bundle.tN "backtrace" "Ljava/lang/Object;") (by simp [Bundle.messageArmAtoms])) e.platform hpl
  obtain ⟨cellS, hcS', heS, -, hkeep⟩ := X.same.2.2.2.2.2 T.aS cellS0 hcS0
  have hcellS : W.heap[T.aS]? = some cellS := hcS'
  have hout' : ∀ i, (⟨T.aS, i⟩ : Loc) ∉ locs := fun i hmem => by
    have := hlocs _ hmem cellS0 hcS0
    rw [hiss] at this; cases this
  have hknownS : cellS.vm ≠ .unknown := by
    rw [heS]; intro hu
    rw [show cellS0.vm = .unknown from hu] at hiss
    cases hiss
  have hvU : cellS.slots[T.fUnassigned.slot]? = some u0.v := by rw [hkeep _ (hout' _)]; exact hu0
  have hvSen : cellS.slots[T.fSentinel.slot]? = some sen.v := by rw [hkeep _ (hout' _)]; exact hsen
  obtain ⟨iM, hffM⟩ := Y.msg
  obtain ⟨tyC, dC, hdC, hdnC⟩ := Cond.laysAt hfound hk Y.cause (a (.lays cls Bundle.tN "cause" "Ljava/lang/Throwable;") (by simp [Bundle.messageArmAtoms]))
  obtain ⟨tyS, dS, hdS, hdnS⟩ := Cond.laysAt hfound hk Y.stack (a (.lays cls Bundle.tN "stackTrace" Bundle.steD) (by simp [Bundle.messageArmAtoms]))
  obtain ⟨tyP, dP, hdP, hdnP⟩ := Cond.laysAt hfound hk Y.supp (a (.lays cls Bundle.tN "suppressedExceptions" Bundle.listD) (by simp [Bundle.messageArmAtoms]))
  obtain ⟨tyM, dM, hdM, hdnM⟩ := Cond.laysAt hfound hk hffM (a (.lays cls Bundle.tN "detailMessage" "Ljava/lang/String;") (by simp [Bundle.messageArmAtoms]))
  obtain ⟨tyB, dB, hdB, hdnB⟩ := Cond.laysAt hfound hk hffB (a (.lays cls Bundle.tN "backtrace" "Ljava/lang/Object;") (by simp [Bundle.messageArmAtoms]))
  have bC := Cond.laysApart hdB hdC hdnB hdnC (by rw [hnB, Y.causeName]; decide)
  have bS := Cond.laysApart hdB hdS hdnB hdnS (by rw [hnB, Y.stackName]; decide)
  have bP := Cond.laysApart hdB hdP hdnB hdnP (by rw [hnB, Y.suppName]; decide)
  have hbk : ((preparedCellV T.toThrowableT (freshCell P1.m.cls kX) (W.heap.size + 2) u0 sen).withEntry W.cur).slots[fB.slot]? = some .null := by
    have := fresh_default (c := P1.m.cls) tyB
    rw [htB] at this
    simpa [preparedCellV, Cell.setSlot, Cell.withEntry, Array.getElem?_setIfInBounds, bC, bS, bP, bC.symm, bS.symm, bP.symm, defaultValue] using this
  have tkC := Takes.of_laid (v := .ref (W.heap.size + 2)) hk hord tyC (by rw [Y.causeType]; rfl)
  have tkS := Takes.of_laid (v := u0.v) hk hord tyS (by rw [Y.stackType]; exact fits_refV_array _ u0)
  have tkP := Takes.of_laid (v := sen.v) hk hord tyP (by rw [Y.suppType]; exact fits_refV_object _ sen)
  have tkM := Takes.of_laid (v := .ref (W.heap.size + 1)) hk hord tyM (by rw [Y.msgType]; rfl)
  have hskip : SkipFacts T e.platform s (fun u => u) u0 ((preparedCellV T.toThrowableT (freshCell P1.m.cls kX) (W.heap.size + 2) u0 sen).withEntry W.cur) := ⟨{ ci198 := ci198, i198 := i198, fBack := fB }, ⟨hk198, hg198, ha198, hsB⟩, hbk, fun _ _ => rfl⟩
  have h0 : At W g.method c below := by rw [hg]; exact X.here
  obtain ⟨hbeyond, hfreeW⟩ := X.vmMayThrow hsize (.throwNew cls (some text) none) (fun f hf => by cases hf) rfl hRlocals
  have hfr' : W.frames.length + Ps.length + 4 < (e.platform.stackLimits W.me).1 := by have := X.framesAbove hRframes; omega
  have hwd' : (stackUse (.java g :: W.frames.tail)).2 + 13 * Ps.length + 55 ≤ (e.platform.stackLimits W.me).2 := by have := X.stackAbove hsize (K := 13 * Ps.length + 55) (by omega); omega
  have hslots : W.slotsUsed + (stringBytes (stringToUtf16 text)).size + Zs.kS.instanceTypes.size + kX.instanceTypes.size ≤ e.platform.maxSlots := by
    have := X.slotsAbove hRslots
    rw [hn4, hn6]
    omega
  obtain ⟨vm', hW', st⟩ := Steps.vmThrowsMessageColdByV p (s₀ := s) (S := W) (g := g) h0 hexec T L Z LZ M LM X.warmed (t := W.cur) rfl Zs LZs P1 L1 Ps hL hlink1 hlink hsoe hoom hfound hk hinit hord hctor
    (Launch.admits_hotImplicitExceptions X.admits) hbeyond hfreeW htext hlimit hheap (X.cellsAbove hRcells) hslots (hfitv _) (hfitc _)
    (Nn := fun u => u) heapOnly_id (fun _ _ => rfl) (fun _ => rfl) (fun u x y => setCell_twice _ _ _ _) (fun _ => Nat.le_refl _) (cN := ((preparedCellV T.toThrowableT (freshCell P1.m.cls kX) (W.heap.size + 2) u0 sen).withEntry W.cur))
    hsel0 hcellS hknownS hvU tkS (fun _ hu => hu) (fun _ hu => hu) rfl rfl rfl (by simp [preparedCellV, Cell.setSlot, Cell.withEntry]) hskip (fun _ _ hA hW _ hroom _ hrest => L.nativeOff p htr hA hW hroom hrest) hselF hvSen tkC tkP tkM Y.objLocals rfl hfr' hwd'
  rw [plainBareV_eq T.toThrowableT (W.heap.size + 2) u0 sen (.ref (W.heap.size + 1)) W.cur rfl rfl] at st
  obtain ⟨-, -, w3, w4, -, -, -⟩ := withThrown_facts e.platform W Zs text P1.m.cls kX
  have X3 := ((X.pushed (bytesOf Zs.cB (stringToUtf16 text))).pushed (stringAt Zs.cS Zs.kS Zs.fv Zs.fc (stringToUtf16 text) W.heap.size)).pushed (freshCell P1.m.cls kX)
  rw [← withString_eq] at X3
  have X4 := X3.noted hW'
  have ha : (W.heap.size + 2) < ((withThrown W Zs text P1.m.cls kX).setVm vm').heap.size := by show _ < (withThrown W Zs text P1.m.cls kX).heap.size; rw [w3]; omega
  have hcell : ((withThrown W Zs text P1.m.cls kX).setVm vm').heap[(W.heap.size + 2)]? = some (freshCell P1.m.cls kX) := w4
  have X5 := ((((X4.stored hcell T.fCause.slot (.ref (W.heap.size + 2))).storedAgain ha T.fStack.slot u0.v).storedAgain ha T.fSupp.slot sen.v).storedAgain ha T.fStack.slot u0.v).storedAgain ha T.fMsg.slot (.ref (W.heap.size + 1))
  obtain ⟨g₁, hfrM⟩ := X5.frames_eq
  have hU : ((((withThrown W Zs text P1.m.cls kX).setVm vm').setCell (W.heap.size + 2) (plainBareV T.toThrowableT (freshCell P1.m.cls kX) (W.heap.size + 2) u0 sen (.ref (W.heap.size + 1)))).setTop g).pushFrame (.throwing (W.heap.size + 2)) = (((withThrown W Zs text P1.m.cls kX).setVm vm').setCell (W.heap.size + 2) (plainBareV T.toThrowableT (freshCell P1.m.cls kX) (W.heap.size + 2) u0 sen (.ref (W.heap.size + 1)))).setFrames (.throwing (W.heap.size + 2) :: .java g :: below) := by
    rw [State.pushFrame, State.frames_setTop _ hfrM, State.setTop_of_frames _ hfrM, State.setFrames_setFrames]
  have b1 : (bytesOf Zs.cB (stringToUtf16 text)).slots.size = (stringBytes (stringToUtf16 text)).size := by
    rw [(Cell.writeAll_facts _ _).2.2]; simp [bytes0]
  have b2 : (stringAt Zs.cS Zs.kS Zs.fv Zs.fc (stringToUtf16 text) W.heap.size).slots.size = 4 := by simp [string0, Cell.setSlot, hn4]
  have b3 : (freshCell P1.m.cls kX).slots.size = 6 := by simp [hn6]
  rw [b1, b2, b3] at X5
  have e9 : slots + (stringBytes (stringToUtf16 text)).size + 4 + 6 = slots + ((stringBytes (stringToUtf16 text)).size + 4 + 6) := by omega
  rw [e9] at X5
  simp only [List.append_assoc, List.cons_append, List.nil_append] at X5
  refine ⟨((withThrown W Zs text P1.m.cls kX).setVm vm').setCell (W.heap.size + 2) (plainBareV T.toThrowableT (freshCell P1.m.cls kX) (W.heap.size + 2) u0 sen (.ref (W.heap.size + 1))), W.heap.size + 2, _, fun target ht => st _ (by rw [X.tail, ← hU]; exact ht),
    X5.forget (fun y hy => ?_), heapAt_setCell_self _ ha, hfound, rfl⟩
  simp only [List.mem_cons, List.not_mem_nil, or_false] at hy
  have hge : s.heap.size ≤ W.heap.size := X.same.2.1
  rcases hy with rfl | rfl | rfl | rfl | rfl <;> exact Nat.le_trans hge (Nat.le_add_right _ 2)
set_option maxHeartbeats 1000000 in
/-- the machine throws NullPointerException, no traces kept: from its note over the frame g to 'throwing' over the same frame (follows the proof of Stand.vmThrowsNpe, Shelf42/KT2.lean; throwsNpeColdBareVAt, Shelf42/NT91.lean, called) -/
theorem vx_npeAt {p : Program} {l : Launch} {e : Env} {R : Room} {s : State} {m₀ : MethodId} {args : Array Value} {below : List Frame} {meth : Method} {c : Code} {W : State} {locs : List Loc} {cells slots : Nat}
    (X : Stand p l e R s m₀ args below meth c W locs cells slots) (hexec : p.tables.exec = Jvm.exec) (htr : e.platform.stackTraces = false) {n : Nat}
    (h : ∀ a ∈ Bundle.npeArmAtoms n, a.before args s = true)
    (hlocs : ∀ x ∈ locs, ∀ cell, s.heap[x.base]? = some cell → cell.vm.isStatics = false)
    {g : JFrame} (hg : g.method = m₀) (hsize : g.locals.size = c.maxLocals)
    (hRframes : 7 < R.frames) (hRlocals : 2 * g.monitorRoom + (g.stack.map fun v => v.category).sum + 10240 ≤ R.locals)
    (hRcells : cells + 1 ≤ R.cells) (hRslots : slots + n ≤ R.slots) (hlocks : meth.locks = false) :
    ∃ (S : State) (q : Addr) (ce : Cell), (∀ target, Steps p.tables e below ((S.setTop g).pushFrame (.throwing q)) target → Steps p.tables e below ((W.setTop g).pushFrame (.throwNew "java/lang/NullPointerException" none none)) target) ∧
      Stand p l e R s m₀ args below meth c S locs (cells + 1) (slots + n) ∧ S.heap[q]? = some ce ∧ s.vm.findClass "java/lang/NullPointerException" = some ce.cls ∧ ce.vm = .none := by
  have howns : e.platform.frameOwnsMonitors = true := by rw [X.admits.platform]
  have hfin : e.platform.finalization = false := by rw [X.admits.platform]
  have hpl : e.platform.magicAccessors = ({} : Platform).magicAccessors := by rw [X.admits.platform]
  have hpl2 : e.platform.arrayCloneIsPublic = true := by rw [X.admits.platform]
  have a' : ∀ x, x ∈ Bundle.npeArmAtoms n → x.holds args s none s [] = true := fun x hx => h x hx
  obtain ⟨T, Z, L, LZ, Y⟩ := ThrowableC.of_atoms (args := args) howns hfin hpl (fun x hx => h x (by simp [Bundle.npeArmAtoms, hx]))
  obtain ⟨N, LN, hcN, hnNF, hordN, hffS⟩ := NpeC.of_atoms (args := args) hpl hpl2 L Y (fun x hx => h x (by simp [Bundle.npeArmAtoms, hx]))
  obtain ⟨P1, L1, hP1m, hP1s⟩ := PassC.of_atoms (args := args) (s := s) hpl (X := Bundle.nN) (Y := Bundle.rN) (by decide) (by decide) LibCode.NullPointerException.Init0.at_0 LibCode.NullPointerException.Init0.at_1 LibCode.NullPointerException.Init0.at_4 (fun x hx => h x (by simp [Bundle.npeArmAtoms, hx]))
  obtain ⟨PR, LR, hPRm, hPRs⟩ := PassC.of_atoms (args := args) (s := s) hpl (X := Bundle.rN) (Y := Bundle.eN) (by decide) (by decide) LibCode.RuntimeException.Init0.at_0 LibCode.RuntimeException.Init0.at_1 LibCode.RuntimeException.Init0.at_4 (fun x hx => h x (by simp [Bundle.npeArmAtoms, hx]))
  obtain ⟨PE, LEx, hPEm, hPEs⟩ := PassC.of_atoms (args := args) (s := s) hpl (X := Bundle.eN) (Y := Bundle.tN) (by decide) (by decide) LibCode.Exception.Init0.at_0 LibCode.Exception.Init0.at_1 LibCode.Exception.Init0.at_4 (fun x hx => h x (by simp [Bundle.npeArmAtoms, hx]))
  have hfound : s.vm.findClass Bundle.nN = some P1.m.cls := findClass_of_methodNamed hP1m
  have ecls : N.cN = P1.m.cls := Option.some.inj (hcN.symm.trans hfound)
  have hk : s.vm.classes[P1.m.cls]? = some N.kN := by rw [← ecls]; exact LN.cls
  have hinit := Cond.initialized_spec hfound hk (a' (.initialized Bundle.nN) (by simp [Bundle.npeArmAtoms]))
  have hctor : N.kN.findMethod "<init>" "()V" = some P1.m.idx := findMethod_of_methodNamed hP1m hk
  obtain ⟨c1, k1, hc1, hk1, -, -, -, hn⟩ := Cond.instantiable_spec (a' (.instantiable Bundle.nN n) (by simp [Bundle.npeArmAtoms]))
  cases Option.some.inj (hc1.symm.trans hfound)
  cases Option.some.inj (hk1.symm.trans hk)
  have hfsz : (freshCell P1.m.cls N.kN).slots.size = n := by simp [hn]
  have hlink1 : P1.sup = PR.m := Option.some.inj (hP1s.symm.trans hPRm)
  have hlinkR : PR.sup = PE.m := Option.some.inj (hPRs.symm.trans hPEm)
  have hlinkE : PE.sup = Z.m T.toThrowableT := Option.some.inj (hPEs.symm.trans Y.init0)
  have hLs : ∀ P, P ∈ [PR, PE] → P.Links0 e.platform s := fun P hP => by
    simp only [List.mem_cons, List.not_mem_nil, or_false] at hP
    rcases hP with rfl | rfl
    · exact LR
    · exact LEx
  have hsel0 : selectMethod e.platform s.vm P1.m.cls T.fill0 = .method T.fill0 := by
    obtain ⟨c2, r2, m2, q1, q2, q3, q4, -⟩ := Cond.selects_spec (a' (.selects Bundle.nN Bundle.tFill0 Bundle.tFill0) (by simp [Bundle.npeArmAtoms]))
    cases Option.some.inj (q1.symm.trans hfound)
    cases Option.some.inj (q2.symm.trans (State.methodFound?_of_named Y.fill0 (by decide)))
    cases Option.some.inj (q3.symm.trans Y.fill0)
    rw [Launch.admits_selectMethod X.admits]; exact q4
  have hselF : selectMethod e.platform s.vm P1.m.cls T.fill = .method N.fill := by
    obtain ⟨c2, r2, m2, q1, q2, q3, q4, -⟩ := Cond.selects_spec (a' (.selects Bundle.nN Bundle.tFill Bundle.nFill) (by simp [Bundle.npeArmAtoms]))
    cases Option.some.inj (q1.symm.trans hfound)
    cases Option.some.inj (q2.symm.trans (State.methodFound?_of_named Y.fill (by decide)))
    cases Option.some.inj (q3.symm.trans hnNF)
    rw [Launch.admits_selectMethod X.admits]; exact q4
  obtain ⟨cellS0, hcS0, hiss⟩ := Y.statics
  obtain ⟨u0, hu0⟩ := Cond.staticRefV Y.unassigned L.unassignedStatic L.statics hcS0 hiss (a' (.isRef (.static Bundle.tN "UNASSIGNED_STACK" Bundle.steD)) (by simp [Bundle.npeArmAtoms]))
  obtain ⟨sen, hsen⟩ := Cond.staticRefV Y.sentinel L.sentinelStatic L.statics hcS0 hiss (a' (.isRef (.static Bundle.tN "SUPPRESSED_SENTINEL" Bundle.listD)) (by simp [Bundle.npeArmAtoms]))
  obtain ⟨ci198, i198, fB, hk198, hg198, ha198, hsB, -, hnB, htB, hffB⟩ := Cond.ownField (t := .object "java/lang/Object") Y.found L.cls (by decide +kernel) (a' (.fieldLink Bundle.tN 198 Bundle.tN "backtrace" Bundle.objD) (by simp [Bundle.npeArmAtoms])) (a' (.lays Bundle.tN Bundle.tN "backtrace" Bundle.objD) (by simp [Bundle.npeArmAtoms])) e.platform hpl
  obtain ⟨cellS, hcS', heS, -, hkeep⟩ := X.same.2.2.2.2.2 T.aS cellS0 hcS0
  have hcellS : W.heap[T.aS]? = some cellS := hcS'
  have hout' : ∀ i, (⟨T.aS, i⟩ : Loc) ∉ locs := fun i hmem => by
    have := hlocs _ hmem cellS0 hcS0
    rw [hiss] at this; cases this
  have hknownS : cellS.vm ≠ .unknown := by
    rw [heS]; intro hu
    rw [show cellS0.vm = .unknown from hu] at hiss
    cases hiss
  have hvU : cellS.slots[T.fUnassigned.slot]? = some u0.v := by rw [hkeep _ (hout' _)]; exact hu0
  have hvSen : cellS.slots[T.fSentinel.slot]? = some sen.v := by rw [hkeep _ (hout' _)]; exact hsen
  obtain ⟨tyC, dC, hdC, hdnC⟩ := Cond.laysAt hfound hk Y.cause (a' (.lays Bundle.nN Bundle.tN "cause" "Ljava/lang/Throwable;") (by simp [Bundle.npeArmAtoms]))
  obtain ⟨tyS, dS, hdS, hdnS⟩ := Cond.laysAt hfound hk Y.stack (a' (.lays Bundle.nN Bundle.tN "stackTrace" Bundle.steD) (by simp [Bundle.npeArmAtoms]))
  obtain ⟨tyP, dP, hdP, hdnP⟩ := Cond.laysAt hfound hk Y.supp (a' (.lays Bundle.nN Bundle.tN "suppressedExceptions" Bundle.listD) (by simp [Bundle.npeArmAtoms]))
  obtain ⟨tyX, dX, hdX, hdnX⟩ := Cond.laysAt hfound hk hffS (a' (.lays Bundle.nN Bundle.nN "extendedMessageState" "I") (by simp [Bundle.npeArmAtoms, Bundle.npeAtoms]))
  obtain ⟨hnX, htX⟩ := State.fieldFound?_type hffS (t := .int) (by decide +kernel)
  have xC := Cond.laysApart hdC hdX hdnC hdnX (by rw [hnX, Y.causeName]; decide)
  have xS := Cond.laysApart hdS hdX hdnS hdnX (by rw [hnX, Y.stackName]; decide)
  have xP := Cond.laysApart hdP hdX hdnP hdnX (by rw [hnX, Y.suppName]; decide)
  have hv0 : (freshCell P1.m.cls N.kN).slots[N.fState.slot]? = some (.int 0) := by
    have := fresh_default (c := P1.m.cls) tyX
    rw [htX] at this; exact this
  obtain ⟨tyB, dB, hdB, hdnB⟩ := Cond.laysAt hfound hk hffB (a' (.lays Bundle.nN Bundle.tN "backtrace" Bundle.objD) (by simp [Bundle.npeArmAtoms]))
  have bC := Cond.laysApart hdB hdC hdnB hdnC (by rw [hnB, Y.causeName]; decide)
  have bS := Cond.laysApart hdB hdS hdnB hdnS (by rw [hnB, Y.stackName]; decide)
  have bP := Cond.laysApart hdB hdP hdnB hdnP (by rw [hnB, Y.suppName]; decide)
  have bX := Cond.laysApart hdB hdX hdnB hdnX (by rw [hnB, hnX]; decide)
  have hbk : ((npeCell N.toNpeT (preparedCellV T.toThrowableT (freshCell P1.m.cls N.kN) W.heap.size u0 sen) W.cur).withEntry W.cur).slots[fB.slot]? = some .null := by
    have := fresh_default (c := P1.m.cls) tyB
    rw [htB] at this
    simpa [npeCell, preparedCellV, Cell.setSlot, Cell.withEntry, Array.getElem?_setIfInBounds, bC, bS, bP, bX, bC.symm, bS.symm, bP.symm, bX.symm, defaultValue] using this
  have tkC := Takes.of_laid (v := .ref W.heap.size) hk hordN tyC (by rw [Y.causeType]; rfl)
  have tkS := Takes.of_laid (v := u0.v) hk hordN tyS (by rw [Y.stackType]; exact fits_refV_array _ u0)
  have tkP := Takes.of_laid (v := sen.v) hk hordN tyP (by rw [Y.suppType]; exact fits_refV_object _ sen)
  have tkX := Takes.of_laid (v := .int 1) hk hordN tyX (by rw [htX]; rfl)
  have hskip : SkipFacts T e.platform s (fun u => u) u0 ((npeCell N.toNpeT (preparedCellV T.toThrowableT (freshCell P1.m.cls N.kN) W.heap.size u0 sen) W.cur).withEntry W.cur) := ⟨{ ci198 := ci198, i198 := i198, fBack := fB }, ⟨hk198, hg198, ha198, hsB⟩, hbk, fun _ _ => rfl⟩
  obtain ⟨vm', X3, st, -⟩ := X.throwsNpeColdBareVAt hexec hg hsize T L Z LZ N LN P1 L1 [PR, PE] hLs hlink1 ⟨hlinkR, hlinkE, trivial⟩ hfound hk hinit hordN hctor hsel0 hselF hcellS hknownS hvU hvSen
    hv0 xC xS xP tkC tkS tkP tkX Y.objLocals hskip (fun _ _ hA hW _ hroom _ hrest => L.nativeOff p htr hA hW hroom hrest) (by simpa using hRframes) hRlocals (by simp) hRcells (by rw [hn]; exact hRslots)
  have hlt : W.heap.size < ((W.pushCell (freshCell P1.m.cls N.kN)).setVm vm').heap.size := by
    show W.heap.size < (W.pushCell (freshCell P1.m.cls N.kN)).heap.size
    rw [State.heap_size_pushCell]; omega
  rw [hfsz] at X3
  obtain ⟨g₁, hfrM⟩ := X3.frames_eq
  have hU : ((((W.pushCell (freshCell P1.m.cls N.kN)).setVm vm').setCell W.heap.size (npeBareV T.toThrowableT N.toNpeT (freshCell P1.m.cls N.kN) W.heap.size u0 sen)).setTop g).pushFrame (.throwing W.heap.size) = (((W.pushCell (freshCell P1.m.cls N.kN)).setVm vm').setCell W.heap.size (npeBareV T.toThrowableT N.toNpeT (freshCell P1.m.cls N.kN) W.heap.size u0 sen)).setFrames (.throwing W.heap.size :: .java g :: below) := by
    rw [State.pushFrame, State.frames_setTop _ hfrM, State.setTop_of_frames _ hfrM, State.setFrames_setFrames]
  refine ⟨_, W.heap.size, _, fun target ht => st.trans (by rw [← hU]; exact ht), X3.forget (fun y hy => ?_), heapAt_setCell_self _ hlt, hfound, rfl⟩
  simp only [List.mem_cons, List.not_mem_nil, or_false] at hy
  have hge : s.heap.size ≤ W.heap.size := X.same.2.1
  rcases hy with rfl | rfl | rfl | rfl | rfl <;> exact hge
/-- the words of a machine's NullPointerException, but the four that speak of the heap -/
def vx_atN (n : Nat) : List Cond := (Bundle.npeArmAtoms n).filter vx_no
/-- the words of a machine's throw with a message, but the four that speak of the heap -/
def vx_atM (X : String) (names : List String) : List Cond := (Bundle.messageArmAtoms X names).filter vx_no
section
variable {p : Program} {l : Launch} {e : Env} {R : Room} {s : State} {m : MethodId} {args : Array Value} {below : List Frame} {meth : Method} {c : Code} {H : Heap} {locs : List Loc} {cells slots : Nat}
/-- a frame seen from a rebased start, seen from the first start again -/
theorem vx_back9 {T S : State} {R' : Room} {k n : Nat} (X : Stand p l e R s m args below meth c T locs cells slots) (Y : Stand p l e R' ((T.setVm s.vm).setFrames (.invoking m args :: below)) m args below meth c T [] 0 0) (Z : Stand p l e R' ((T.setVm s.vm).setFrames (.invoking m args :: below)) m args below meth c S [] k n) :
    Stand p l e R s m args below meth c S locs (cells + k) (slots + n) := by
  have hW0 : s.WarmedH ((T.setVm s.vm).setFrames (.invoking m args :: below)).vm := State.WarmedH.refl s
  refine { admits := X.admits, cas := X.cas, clock := X.clock, frames := X.frames, room := X.room, hears := X.hears, method := X.method, code := X.code, here := Z.here, tail := Z.tail, warmed := State.WarmedH.trans hW0 Z.warmed, limits := Z.limits.trans (Y.limits.symm.trans X.limits), bytes := Z.bytes.trans (Y.bytes.symm.trans X.bytes), same := ?_ }
  obtain ⟨e1, e2⟩ := Z.same
  rw [State.setFrames_setFrames] at e1
  have h2 : (T.setVm s.vm).sameButNew (S.setVm s.vm) [] k n := ⟨e1, e2⟩
  have h3 := X.same.trans h2
  rw [List.append_nil] at h3
  exact h3
/-- from the machine's note that E is thrown here with this text -/
def vx_Note (p : Program) (l : Launch) (e : Env) (R : Room) (s : State) (m : MethodId) (args : Array Value) (below : List Frame) (meth : Method) (c : Code) (H : Heap) (locs : List Loc) (cells slots : Nat) (Q : State → Prop) (g : JFrame) (E text : String) : Prop :=
  ∀ T : State, T.heap = H → Stand p l e R s m args below meth c T locs cells slots → ∃ t, Steps p.tables e below ((T.setTop g).pushFrame (.throwNew E (some text) none)) t ∧ Q t
theorem vx_vm {pc : Nat} {ls : Array Slot} {rest : List Value} {Q : State → Prop} (hexec : p.tables.exec = Jvm.exec) (hl : l.stackTraces = false) {cls text : String} {names : List String} {nb : Nat} {A : Nat → Prop}
    (hcls : Bundle.fit cls = true) (hnames : ∀ n ∈ names, Bundle.fit n = true) (hsoe : (cls == "java/lang/StackOverflowError") = false) (hoom : (cls == "java/lang/OutOfMemoryError") = false)
    (hat : ∀ w ∈ vx_atM cls names, w.before args s = true) (hgood : ∀ w ∈ vx_atM cls names, vx_ot w = true)
    (hU : vx_Zq Bundle.tN "UNASSIGNED_STACK" Bundle.steD A s s.heap) (hN : vx_Zq Bundle.tN "SUPPRESSED_SENTINEL" Bundle.listD A s s.heap) (hS : va_S A s.heap H locs) (hsize : ls.size = c.maxLocals)
    (htext : (text == notModelled) = false) (hnb : (stringBytes (stringToUtf16 text)).size ≤ nb) (hnb1 : nb ≤ 1000)
    (hRframes : names.length + 4 < R.frames) (hRlocals : (rest.map fun v => v.category).sum + 10240 ≤ R.locals) (hshort : 13 * names.length + 55 ≤ 10240) (hRcells : cells + 3 ≤ R.cells) (hRslots : slots + (nb + 10) ≤ R.slots) (hlocks : meth.locks = false)
    (k : ∀ (H1 : Heap) (q9 : Addr) (ce : Cell), H.size ≤ H1.size → (∀ q : Nat, q < H.size → H1[q]? = H[q]?) → va_S A s.heap H1 locs → H1[q9]? = some ce → ce.vm = .none → s.vm.findClass cls = some ce.cls → vx_W p l e R s m args below meth c H1 locs (cells + 3) (slots + (nb + 10)) Q (F0 m pc ls rest) q9) :
    vx_Note p l e R s m args below meth c H locs cells slots Q (F0 m pc ls rest) cls text := by
  intro T hT X
  have htr : e.platform.stackTraces = false := (show e.platform.stackTraces = l.stackTraces by rw [X.admits.platform]).trans hl
  have Y := vx_rebase X (R' := { frames := R.frames, locals := R.locals, cells := 3, slots := nb + 10 }) (Nat.le_refl _) (Nat.le_refl _) hRcells hRslots
  have hhp : ((T.setVm s.vm).setFrames (.invoking m args :: below)).heap = H := hT
  have hW0 : s.WarmedH ((T.setVm s.vm).setFrames (.invoking m args :: below)).vm := State.WarmedH.refl s
  have hat' : ∀ w ∈ vx_atM cls names, w.before args ((T.setVm s.vm).setFrames (.invoking m args :: below)) = true := fun w hw => vx_ot_at hW0 rfl (hgood w hw) (hat w hw)
  have hU' : vx_Zq Bundle.tN "UNASSIGNED_STACK" Bundle.steD A ((T.setVm s.vm).setFrames (.invoking m args :: below)) ((T.setVm s.vm).setFrames (.invoking m args :: below)).heap := by rw [hhp]; exact vx_Zq.moved hW0.alike (hU.kept hS.2.1)
  have hN' : vx_Zq Bundle.tN "SUPPRESSED_SENTINEL" Bundle.listD A ((T.setVm s.vm).setFrames (.invoking m args :: below)) ((T.setVm s.vm).setFrames (.invoking m args :: below)).heap := by rw [hhp]; exact vx_Zq.moved hW0.alike (hN.kept hS.2.1)
  obtain ⟨S, q, ce, st, Z, hce, hcl', hv⟩ := vx_vmAt Y hexec htr (cls := cls) (names := names) (text := text) hcls hnames hsoe hoom (vx_own hat' (vx_isRefq hU'.1) (vx_isRefq hN'.1) hU'.2.word hN'.2.word) (fun x hx => nomatch hx) htext
    (by rw [Launch.admits_arrayLengthLimit X.admits]; omega) (by rw [Launch.admits_maxHeapBytes X.admits]; simp only [componentBytes]; omega)
    (g := F0 m pc ls rest) rfl hsize hRframes (by show 2 * 0 + (rest.map fun v => v.category).sum + 10240 ≤ R.locals; omega) hshort (by show 0 + 3 ≤ 3; omega) (by show 0 + (_ + 4 + 6) ≤ nb + 10; omega) hlocks
  obtain ⟨f1, f2⟩ := vx_frame Z.same
  have f1' : H.size ≤ S.heap.size := by rw [← hT]; exact f1
  have f2' : ∀ q : Nat, q < H.size → S.heap[q]? = H[q]? := fun q hq => by
    rw [← hT]
    exact f2 q (by rw [← hT] at hq; exact hq) (fun z hz => nomatch hz)
  have X5 := vx_back9 X Y Z
  have X6 : Stand p l e R s m args below meth c S locs (cells + 3) (slots + (nb + 10)) := { X5 with same := X5.same.mono (by omega) (by omega) }
  obtain ⟨t, a1, b1⟩ := k S.heap q ce f1' f2' ⟨Nat.le_trans hS.1 f1', fun q h1 h2 => (f2' q (Nat.lt_of_lt_of_le h1 hS.1)).trans (hS.2.1 q h1 h2), hS.2.2⟩ hce hv hcl' S rfl X6
  exact ⟨t, st t a1, b1⟩
/-- from the machine's note that NullPointerException is thrown here -/
def vx_NoteN (p : Program) (l : Launch) (e : Env) (R : Room) (s : State) (m : MethodId) (args : Array Value) (below : List Frame) (meth : Method) (c : Code) (H : Heap) (locs : List Loc) (cells slots : Nat) (Q : State → Prop) (g : JFrame) : Prop :=
  ∀ T : State, T.heap = H → Stand p l e R s m args below meth c T locs cells slots → ∃ t, Steps p.tables e below ((T.setTop g).pushFrame (.throwNew "java/lang/NullPointerException" none none)) t ∧ Q t
theorem vx_npe {pc : Nat} {ls : Array Slot} {rest : List Value} {Q : State → Prop} (hexec : p.tables.exec = Jvm.exec) (hl : l.stackTraces = false) {nb : Nat} {A : Nat → Prop}
    (hat : ∀ w ∈ vx_atN nb, w.before args s = true) (hgood : ∀ w ∈ vx_atN nb, vx_ot w = true)
    (hU : vx_Zq Bundle.tN "UNASSIGNED_STACK" Bundle.steD A s s.heap) (hN : vx_Zq Bundle.tN "SUPPRESSED_SENTINEL" Bundle.listD A s s.heap) (hS : va_S A s.heap H locs) (hsize : ls.size = c.maxLocals)
    (hRframes : 7 < R.frames) (hRlocals : (rest.map fun v => v.category).sum + 10240 ≤ R.locals) (hRcells : cells + 1 ≤ R.cells) (hRslots : slots + nb ≤ R.slots) (hlocks : meth.locks = false)
    (k : ∀ (H1 : Heap) (q9 : Addr) (ce : Cell), H.size ≤ H1.size → (∀ q : Nat, q < H.size → H1[q]? = H[q]?) → va_S A s.heap H1 locs → H1[q9]? = some ce → ce.vm = .none → s.vm.findClass "java/lang/NullPointerException" = some ce.cls → vx_W p l e R s m args below meth c H1 locs (cells + 1) (slots + nb) Q (F0 m pc ls rest) q9) :
    vx_NoteN p l e R s m args below meth c H locs cells slots Q (F0 m pc ls rest) := by
  intro T hT X
  have htr : e.platform.stackTraces = false := (show e.platform.stackTraces = l.stackTraces by rw [X.admits.platform]).trans hl
  have Y := vx_rebase X (R' := { frames := R.frames, locals := R.locals, cells := 1, slots := nb }) (Nat.le_refl _) (Nat.le_refl _) hRcells hRslots
  have hhp : ((T.setVm s.vm).setFrames (.invoking m args :: below)).heap = H := hT
  have hW0 : s.WarmedH ((T.setVm s.vm).setFrames (.invoking m args :: below)).vm := State.WarmedH.refl s
  have hat' : ∀ w ∈ vx_atN nb, w.before args ((T.setVm s.vm).setFrames (.invoking m args :: below)) = true := fun w hw => vx_ot_at hW0 rfl (hgood w hw) (hat w hw)
  have hU' : vx_Zq Bundle.tN "UNASSIGNED_STACK" Bundle.steD A ((T.setVm s.vm).setFrames (.invoking m args :: below)) ((T.setVm s.vm).setFrames (.invoking m args :: below)).heap := by rw [hhp]; exact vx_Zq.moved hW0.alike (hU.kept hS.2.1)
  have hN' : vx_Zq Bundle.tN "SUPPRESSED_SENTINEL" Bundle.listD A ((T.setVm s.vm).setFrames (.invoking m args :: below)) ((T.setVm s.vm).setFrames (.invoking m args :: below)).heap := by rw [hhp]; exact vx_Zq.moved hW0.alike (hN.kept hS.2.1)
  obtain ⟨S, q, ce, st, Z, hce, hcl', hv⟩ := vx_npeAt Y hexec htr (n := nb) (vx_own hat' (vx_isRefq hU'.1) (vx_isRefq hN'.1) hU'.2.word hN'.2.word) (fun x hx => nomatch hx)
    (g := F0 m pc ls rest) rfl hsize hRframes (by show 2 * 0 + (rest.map fun v => v.category).sum + 10240 ≤ R.locals; omega) (by show 0 + 1 ≤ 1; omega) (by show 0 + nb ≤ nb; omega) hlocks
  obtain ⟨f1, f2⟩ := vx_frame Z.same
  have f1' : H.size ≤ S.heap.size := by rw [← hT]; exact f1
  have f2' : ∀ q : Nat, q < H.size → S.heap[q]? = H[q]? := fun q hq => by
    rw [← hT]
    exact f2 q (by rw [← hT] at hq; exact hq) (fun z hz => nomatch hz)
  have X5 := vx_back9 X Y Z
  have X6 : Stand p l e R s m args below meth c S locs (cells + 1) (slots + nb) := { X5 with same := X5.same.mono (by omega) (by omega) }
  obtain ⟨t, a1, b1⟩ := k S.heap q ce f1' f2' ⟨Nat.le_trans hS.1 f1', fun q h1 h2 => (f2' q (Nat.lt_of_lt_of_le h1 hS.1)).trans (hS.2.1 q h1 h2), hS.2.2⟩ hce hv hcl' S rfl X6
  exact ⟨t, st t a1, b1⟩
variable {Q : State → Prop} {cc : ByteArray} {pc : Nat} {ls : Array Slot} {rest : List Value}
theorem vx_idivZ (hexec : p.tables.exec = Jvm.exec) (hb : c.code = cc) {a b : Int32} (h0 : b = 0) (d : decode cc pc = .ok (.idiv, 1)) (k : vx_Note p l e R s m args below meth c H locs cells slots Q (F0 m pc ls rest) "java/lang/ArithmeticException" "/ by zero") :
    W p l e R s m args below meth c H locs cells slots Q (F0 m pc ls (.int b :: .int a :: rest)) := by
  intro T hT X
  obtain ⟨t, st, q⟩ := k T hT X
  exact ⟨t, X.idivZero hexec (g := F0 m pc ls (.int b :: .int a :: rest)) rfl (a := a) (rest := rest) (by rw [h0]) (by rw [hb]; exact d) t st, q⟩
theorem vx_iremZ (hexec : p.tables.exec = Jvm.exec) (hb : c.code = cc) {a b : Int32} (h0 : b = 0) (d : decode cc pc = .ok (.irem, 1)) (k : vx_Note p l e R s m args below meth c H locs cells slots Q (F0 m pc ls rest) "java/lang/ArithmeticException" "/ by zero") :
    W p l e R s m args below meth c H locs cells slots Q (F0 m pc ls (.int b :: .int a :: rest)) := by
  intro T hT X
  obtain ⟨t, st, q⟩ := k T hT X
  exact ⟨t, X.iremZero hexec (g := F0 m pc ls (.int b :: .int a :: rest)) rfl (a := a) (rest := rest) (by rw [h0]) (by rw [hb]; exact d) t st, q⟩
theorem vx_ldivZ (hexec : p.tables.exec = Jvm.exec) (hb : c.code = cc) {a b : Int64} (h0 : b = 0) (d : decode cc pc = .ok (.ldiv, 1)) (k : vx_Note p l e R s m args below meth c H locs cells slots Q (F0 m pc ls rest) "java/lang/ArithmeticException" "/ by zero") :
    W p l e R s m args below meth c H locs cells slots Q (F0 m pc ls (.long b :: .long a :: rest)) := by
  intro T hT X
  obtain ⟨t, st, q⟩ := k T hT X
  exact ⟨t, X.ldivZero hexec (g := F0 m pc ls (.long b :: .long a :: rest)) rfl (a := a) (rest := rest) (by rw [h0]) (by rw [hb]; exact d) t st, q⟩
theorem vx_lremZ (hexec : p.tables.exec = Jvm.exec) (hb : c.code = cc) {a b : Int64} (h0 : b = 0) (d : decode cc pc = .ok (.lrem, 1)) (k : vx_Note p l e R s m args below meth c H locs cells slots Q (F0 m pc ls rest) "java/lang/ArithmeticException" "/ by zero") :
    W p l e R s m args below meth c H locs cells slots Q (F0 m pc ls (.long b :: .long a :: rest)) := by
  intro T hT X
  obtain ⟨t, st, q⟩ := k T hT X
  exact ⟨t, X.lremZero hexec (g := F0 m pc ls (.long b :: .long a :: rest)) rfl (a := a) (rest := rest) (by rw [h0]) (by rw [hb]; exact d) t st, q⟩
theorem vx_ialdZ {D : va_G} {cl : List vw_C} {ws : va_W} {tys : List (ClassId × FieldType)} {a : Nat} (hexec : p.tables.exec = Jvm.exec) (hb : c.code = cc) (hK : va_K D cl tys s) (hP : va_P D cl ws H) (q0 t0 : Nat) {cA : ClassId} {n : Nat} {f : Nat → Int32} (ha : ws[q0]? = some (a, .inl (cA, n, .inl f))) (ht : tys[t0]? = some (cA, .int)) {i : Int32} (hout : ¬ vp_in i n) (hdg : decode cc pc = .ok (.iaload, 1))
    (k : ∀ tx : String, tx = (toString "Index " ++ toString i ++ toString " out of bounds for length " ++ toString n : String) → vx_Note p l e R s m args below meth c H locs cells slots Q (F0 m pc ls rest) "java/lang/ArrayIndexOutOfBoundsException" tx) : W p l e R s m args below meth c H locs cells slots Q (F0 m pc ls (.int i :: .ref a :: rest)) := by
  intro T hT X
  obtain ⟨t, st, q⟩ := k _ rfl T hT X
  refine ⟨t, ?_, q⟩
  have h1 := X.ialoadOut hexec (by rw [hT]; exact hP q0 _ ha) ((hK.2 t0 _ ht).1 n (fun j => .int (f j))) (j := i) (by show (i < 0 ∨ (arrV _ _ _).slots.size ≤ _); rw [arrV_size]; exact Classical.byContradiction hout) (g := F0 m pc ls (.int i :: .ref a :: rest)) rfl (rest := rest) rfl (by rw [hb]; exact hdg) t
  simp only [arrV_size] at h1
  exact h1 st
theorem vx_iastZ {D : va_G} {cl : List vw_C} {ws : va_W} {tys : List (ClassId × FieldType)} {a : Nat} (hexec : p.tables.exec = Jvm.exec) (hb : c.code = cc) (hK : va_K D cl tys s) (hP : va_P D cl ws H) (q0 t0 : Nat) {cA : ClassId} {n : Nat} {f : Nat → Int32} (ha : ws[q0]? = some (a, .inl (cA, n, .inl f))) (ht : tys[t0]? = some (cA, .int)) {i : Int32} {x : Int32} (hout : ¬ vp_in i n) (hdg : decode cc pc = .ok (.iastore, 1))
    (k : ∀ tx : String, tx = (toString "Index " ++ toString i ++ toString " out of bounds for length " ++ toString n : String) → vx_Note p l e R s m args below meth c H locs cells slots Q (F0 m pc ls rest) "java/lang/ArrayIndexOutOfBoundsException" tx) : W p l e R s m args below meth c H locs cells slots Q (F0 m pc ls (.int x :: .int i :: .ref a :: rest)) := by
  intro T hT X
  obtain ⟨t, st, q⟩ := k _ rfl T hT X
  refine ⟨t, ?_, q⟩
  have h1 := X.iastoreOut hexec (by rw [hT]; exact hP q0 _ ha) ((hK.2 t0 _ ht).1 n (fun j => .int (f j))) (j := i) (by show (i < 0 ∨ (arrV _ _ _).slots.size ≤ _); rw [arrV_size]; exact Classical.byContradiction hout) (g := F0 m pc ls (.int x :: .int i :: .ref a :: rest)) rfl (rest := rest) rfl (by rw [hb]; exact hdg) t
  simp only [arrV_size] at h1
  exact h1 st
theorem vx_baldZ {D : va_G} {cl : List vw_C} {ws : va_W} {tys : List (ClassId × FieldType)} {a : Nat} (hexec : p.tables.exec = Jvm.exec) (hb : c.code = cc) (hK : va_K D cl tys s) (hP : va_P D cl ws H) (q0 t0 : Nat) {cA : ClassId} {n : Nat} {f : Nat → Int32} (ha : ws[q0]? = some (a, .inl (cA, n, .inl f))) (ht : tys[t0]? = some (cA, .byte)) {i : Int32} (hout : ¬ vp_in i n) (hdg : decode cc pc = .ok (.baload, 1))
    (k : ∀ tx : String, tx = (toString "Index " ++ toString i ++ toString " out of bounds for length " ++ toString n : String) → vx_Note p l e R s m args below meth c H locs cells slots Q (F0 m pc ls rest) "java/lang/ArrayIndexOutOfBoundsException" tx) : W p l e R s m args below meth c H locs cells slots Q (F0 m pc ls (.int i :: .ref a :: rest)) := by
  intro T hT X
  obtain ⟨t, st, q⟩ := k _ rfl T hT X
  refine ⟨t, ?_, q⟩
  have h1 := X.baloadOut hexec (by rw [hT]; exact hP q0 _ ha) ((hK.2 t0 _ ht).1 n (fun j => .int (f j))) (j := i) (by show (i < 0 ∨ (arrV _ _ _).slots.size ≤ _); rw [arrV_size]; exact Classical.byContradiction hout) (g := F0 m pc ls (.int i :: .ref a :: rest)) rfl (rest := rest) rfl (by rw [hb]; exact hdg) t
  simp only [arrV_size] at h1
  exact h1 st
theorem vx_bastZ {D : va_G} {cl : List vw_C} {ws : va_W} {tys : List (ClassId × FieldType)} {a : Nat} (hexec : p.tables.exec = Jvm.exec) (hb : c.code = cc) (hK : va_K D cl tys s) (hP : va_P D cl ws H) (q0 t0 : Nat) {cA : ClassId} {n : Nat} {f : Nat → Int32} (ha : ws[q0]? = some (a, .inl (cA, n, .inl f))) (ht : tys[t0]? = some (cA, .byte)) {i : Int32} {x : Int32} (hout : ¬ vp_in i n) (hdg : decode cc pc = .ok (.bastore, 1))
    (k : ∀ tx : String, tx = (toString "Index " ++ toString i ++ toString " out of bounds for length " ++ toString n : String) → vx_Note p l e R s m args below meth c H locs cells slots Q (F0 m pc ls rest) "java/lang/ArrayIndexOutOfBoundsException" tx) : W p l e R s m args below meth c H locs cells slots Q (F0 m pc ls (.int x :: .int i :: .ref a :: rest)) := by
  intro T hT X
  obtain ⟨t, st, q⟩ := k _ rfl T hT X
  refine ⟨t, ?_, q⟩
  have h1 := X.bastoreOut hexec (by rw [hT]; exact hP q0 _ ha) ((hK.2 t0 _ ht).1 n (fun j => .int (f j))) (j := i) (by show (i < 0 ∨ (arrV _ _ _).slots.size ≤ _); rw [arrV_size]; exact Classical.byContradiction hout) (g := F0 m pc ls (.int x :: .int i :: .ref a :: rest)) rfl (rest := rest) rfl (by rw [hb]; exact hdg) t
  simp only [arrV_size] at h1
  exact h1 st
theorem vx_zaldZ {D : va_G} {cl : List vw_C} {ws : va_W} {tys : List (ClassId × FieldType)} {a : Nat} (hexec : p.tables.exec = Jvm.exec) (hb : c.code = cc) (hK : va_K D cl tys s) (hP : va_P D cl ws H) (q0 t0 : Nat) {cA : ClassId} {n : Nat} {f : Nat → Int32} (ha : ws[q0]? = some (a, .inl (cA, n, .inl f))) (ht : tys[t0]? = some (cA, .boolean)) {i : Int32} (hout : ¬ vp_in i n) (hdg : decode cc pc = .ok (.baload, 1))
    (k : ∀ tx : String, tx = (toString "Index " ++ toString i ++ toString " out of bounds for length " ++ toString n : String) → vx_Note p l e R s m args below meth c H locs cells slots Q (F0 m pc ls rest) "java/lang/ArrayIndexOutOfBoundsException" tx) : W p l e R s m args below meth c H locs cells slots Q (F0 m pc ls (.int i :: .ref a :: rest)) := by
  intro T hT X
  obtain ⟨t, st, q⟩ := k _ rfl T hT X
  refine ⟨t, ?_, q⟩
  have h1 := X.baloadOut hexec (by rw [hT]; exact hP q0 _ ha) ((hK.2 t0 _ ht).1 n (fun j => .int (f j))) (j := i) (by show (i < 0 ∨ (arrV _ _ _).slots.size ≤ _); rw [arrV_size]; exact Classical.byContradiction hout) (g := F0 m pc ls (.int i :: .ref a :: rest)) rfl (rest := rest) rfl (by rw [hb]; exact hdg) t
  simp only [arrV_size] at h1
  exact h1 st
theorem vx_zastZ {D : va_G} {cl : List vw_C} {ws : va_W} {tys : List (ClassId × FieldType)} {a : Nat} (hexec : p.tables.exec = Jvm.exec) (hb : c.code = cc) (hK : va_K D cl tys s) (hP : va_P D cl ws H) (q0 t0 : Nat) {cA : ClassId} {n : Nat} {f : Nat → Int32} (ha : ws[q0]? = some (a, .inl (cA, n, .inl f))) (ht : tys[t0]? = some (cA, .boolean)) {i : Int32} {x : Int32} (hout : ¬ vp_in i n) (hdg : decode cc pc = .ok (.bastore, 1))
    (k : ∀ tx : String, tx = (toString "Index " ++ toString i ++ toString " out of bounds for length " ++ toString n : String) → vx_Note p l e R s m args below meth c H locs cells slots Q (F0 m pc ls rest) "java/lang/ArrayIndexOutOfBoundsException" tx) : W p l e R s m args below meth c H locs cells slots Q (F0 m pc ls (.int x :: .int i :: .ref a :: rest)) := by
  intro T hT X
  obtain ⟨t, st, q⟩ := k _ rfl T hT X
  refine ⟨t, ?_, q⟩
  have h1 := X.bastoreOut hexec (by rw [hT]; exact hP q0 _ ha) ((hK.2 t0 _ ht).1 n (fun j => .int (f j))) (j := i) (by show (i < 0 ∨ (arrV _ _ _).slots.size ≤ _); rw [arrV_size]; exact Classical.byContradiction hout) (g := F0 m pc ls (.int x :: .int i :: .ref a :: rest)) rfl (rest := rest) rfl (by rw [hb]; exact hdg) t
  simp only [arrV_size] at h1
  exact h1 st
theorem vx_caldZ {D : va_G} {cl : List vw_C} {ws : va_W} {tys : List (ClassId × FieldType)} {a : Nat} (hexec : p.tables.exec = Jvm.exec) (hb : c.code = cc) (hK : va_K D cl tys s) (hP : va_P D cl ws H) (q0 t0 : Nat) {cA : ClassId} {n : Nat} {f : Nat → Int32} (ha : ws[q0]? = some (a, .inl (cA, n, .inl f))) (ht : tys[t0]? = some (cA, .char)) {i : Int32} (hout : ¬ vp_in i n) (hdg : decode cc pc = .ok (.caload, 1))
    (k : ∀ tx : String, tx = (toString "Index " ++ toString i ++ toString " out of bounds for length " ++ toString n : String) → vx_Note p l e R s m args below meth c H locs cells slots Q (F0 m pc ls rest) "java/lang/ArrayIndexOutOfBoundsException" tx) : W p l e R s m args below meth c H locs cells slots Q (F0 m pc ls (.int i :: .ref a :: rest)) := by
  intro T hT X
  obtain ⟨t, st, q⟩ := k _ rfl T hT X
  refine ⟨t, ?_, q⟩
  have h1 := X.caloadOut hexec (by rw [hT]; exact hP q0 _ ha) ((hK.2 t0 _ ht).1 n (fun j => .int (f j))) (j := i) (by show (i < 0 ∨ (arrV _ _ _).slots.size ≤ _); rw [arrV_size]; exact Classical.byContradiction hout) (g := F0 m pc ls (.int i :: .ref a :: rest)) rfl (rest := rest) rfl (by rw [hb]; exact hdg) t
  simp only [arrV_size] at h1
  exact h1 st
theorem vx_castZ {D : va_G} {cl : List vw_C} {ws : va_W} {tys : List (ClassId × FieldType)} {a : Nat} (hexec : p.tables.exec = Jvm.exec) (hb : c.code = cc) (hK : va_K D cl tys s) (hP : va_P D cl ws H) (q0 t0 : Nat) {cA : ClassId} {n : Nat} {f : Nat → Int32} (ha : ws[q0]? = some (a, .inl (cA, n, .inl f))) (ht : tys[t0]? = some (cA, .char)) {i : Int32} {x : Int32} (hout : ¬ vp_in i n) (hdg : decode cc pc = .ok (.castore, 1))
    (k : ∀ tx : String, tx = (toString "Index " ++ toString i ++ toString " out of bounds for length " ++ toString n : String) → vx_Note p l e R s m args below meth c H locs cells slots Q (F0 m pc ls rest) "java/lang/ArrayIndexOutOfBoundsException" tx) : W p l e R s m args below meth c H locs cells slots Q (F0 m pc ls (.int x :: .int i :: .ref a :: rest)) := by
  intro T hT X
  obtain ⟨t, st, q⟩ := k _ rfl T hT X
  refine ⟨t, ?_, q⟩
  have h1 := X.castoreOut hexec (by rw [hT]; exact hP q0 _ ha) ((hK.2 t0 _ ht).1 n (fun j => .int (f j))) (j := i) (by show (i < 0 ∨ (arrV _ _ _).slots.size ≤ _); rw [arrV_size]; exact Classical.byContradiction hout) (g := F0 m pc ls (.int x :: .int i :: .ref a :: rest)) rfl (rest := rest) rfl (by rw [hb]; exact hdg) t
  simp only [arrV_size] at h1
  exact h1 st
theorem vx_saldZ {D : va_G} {cl : List vw_C} {ws : va_W} {tys : List (ClassId × FieldType)} {a : Nat} (hexec : p.tables.exec = Jvm.exec) (hb : c.code = cc) (hK : va_K D cl tys s) (hP : va_P D cl ws H) (q0 t0 : Nat) {cA : ClassId} {n : Nat} {f : Nat → Int32} (ha : ws[q0]? = some (a, .inl (cA, n, .inl f))) (ht : tys[t0]? = some (cA, .short)) {i : Int32} (hout : ¬ vp_in i n) (hdg : decode cc pc = .ok (.saload, 1))
    (k : ∀ tx : String, tx = (toString "Index " ++ toString i ++ toString " out of bounds for length " ++ toString n : String) → vx_Note p l e R s m args below meth c H locs cells slots Q (F0 m pc ls rest) "java/lang/ArrayIndexOutOfBoundsException" tx) : W p l e R s m args below meth c H locs cells slots Q (F0 m pc ls (.int i :: .ref a :: rest)) := by
  intro T hT X
  obtain ⟨t, st, q⟩ := k _ rfl T hT X
  refine ⟨t, ?_, q⟩
  have h1 := X.saloadOut hexec (by rw [hT]; exact hP q0 _ ha) ((hK.2 t0 _ ht).1 n (fun j => .int (f j))) (j := i) (by show (i < 0 ∨ (arrV _ _ _).slots.size ≤ _); rw [arrV_size]; exact Classical.byContradiction hout) (g := F0 m pc ls (.int i :: .ref a :: rest)) rfl (rest := rest) rfl (by rw [hb]; exact hdg) t
  simp only [arrV_size] at h1
  exact h1 st
theorem vx_sastZ {D : va_G} {cl : List vw_C} {ws : va_W} {tys : List (ClassId × FieldType)} {a : Nat} (hexec : p.tables.exec = Jvm.exec) (hb : c.code = cc) (hK : va_K D cl tys s) (hP : va_P D cl ws H) (q0 t0 : Nat) {cA : ClassId} {n : Nat} {f : Nat → Int32} (ha : ws[q0]? = some (a, .inl (cA, n, .inl f))) (ht : tys[t0]? = some (cA, .short)) {i : Int32} {x : Int32} (hout : ¬ vp_in i n) (hdg : decode cc pc = .ok (.sastore, 1))
    (k : ∀ tx : String, tx = (toString "Index " ++ toString i ++ toString " out of bounds for length " ++ toString n : String) → vx_Note p l e R s m args below meth c H locs cells slots Q (F0 m pc ls rest) "java/lang/ArrayIndexOutOfBoundsException" tx) : W p l e R s m args below meth c H locs cells slots Q (F0 m pc ls (.int x :: .int i :: .ref a :: rest)) := by
  intro T hT X
  obtain ⟨t, st, q⟩ := k _ rfl T hT X
  refine ⟨t, ?_, q⟩
  have h1 := X.sastoreOut hexec (by rw [hT]; exact hP q0 _ ha) ((hK.2 t0 _ ht).1 n (fun j => .int (f j))) (j := i) (by show (i < 0 ∨ (arrV _ _ _).slots.size ≤ _); rw [arrV_size]; exact Classical.byContradiction hout) (g := F0 m pc ls (.int x :: .int i :: .ref a :: rest)) rfl (rest := rest) rfl (by rw [hb]; exact hdg) t
  simp only [arrV_size] at h1
  exact h1 st
theorem vx_laldZ {D : va_G} {cl : List vw_C} {ws : va_W} {tys : List (ClassId × FieldType)} {a : Nat} (hexec : p.tables.exec = Jvm.exec) (hb : c.code = cc) (hK : va_K D cl tys s) (hP : va_P D cl ws H) (q0 t0 : Nat) {cA : ClassId} {n : Nat} {f : Nat → Int64} (ha : ws[q0]? = some (a, .inl (cA, n, .inr (.inl f)))) (ht : tys[t0]? = some (cA, .long)) {i : Int32} (hout : ¬ vp_in i n) (hdg : decode cc pc = .ok (.laload, 1))
    (k : ∀ tx : String, tx = (toString "Index " ++ toString i ++ toString " out of bounds for length " ++ toString n : String) → vx_Note p l e R s m args below meth c H locs cells slots Q (F0 m pc ls rest) "java/lang/ArrayIndexOutOfBoundsException" tx) : W p l e R s m args below meth c H locs cells slots Q (F0 m pc ls (.int i :: .ref a :: rest)) := by
  intro T hT X
  obtain ⟨t, st, q⟩ := k _ rfl T hT X
  refine ⟨t, ?_, q⟩
  have h1 := X.laloadOut hexec (by rw [hT]; exact hP q0 _ ha) ((hK.2 t0 _ ht).1 n (fun j => .long (f j))) (j := i) (by show (i < 0 ∨ (arrV _ _ _).slots.size ≤ _); rw [arrV_size]; exact Classical.byContradiction hout) (g := F0 m pc ls (.int i :: .ref a :: rest)) rfl (rest := rest) rfl (by rw [hb]; exact hdg) t
  simp only [arrV_size] at h1
  exact h1 st
theorem vx_lastZ {D : va_G} {cl : List vw_C} {ws : va_W} {tys : List (ClassId × FieldType)} {a : Nat} (hexec : p.tables.exec = Jvm.exec) (hb : c.code = cc) (hK : va_K D cl tys s) (hP : va_P D cl ws H) (q0 t0 : Nat) {cA : ClassId} {n : Nat} {f : Nat → Int64} (ha : ws[q0]? = some (a, .inl (cA, n, .inr (.inl f)))) (ht : tys[t0]? = some (cA, .long)) {i : Int32} {x : Int64} (hout : ¬ vp_in i n) (hdg : decode cc pc = .ok (.lastore, 1))
    (k : ∀ tx : String, tx = (toString "Index " ++ toString i ++ toString " out of bounds for length " ++ toString n : String) → vx_Note p l e R s m args below meth c H locs cells slots Q (F0 m pc ls rest) "java/lang/ArrayIndexOutOfBoundsException" tx) : W p l e R s m args below meth c H locs cells slots Q (F0 m pc ls (.long x :: .int i :: .ref a :: rest)) := by
  intro T hT X
  obtain ⟨t, st, q⟩ := k _ rfl T hT X
  refine ⟨t, ?_, q⟩
  have h1 := X.lastoreOut hexec (by rw [hT]; exact hP q0 _ ha) ((hK.2 t0 _ ht).1 n (fun j => .long (f j))) (j := i) (by show (i < 0 ∨ (arrV _ _ _).slots.size ≤ _); rw [arrV_size]; exact Classical.byContradiction hout) (g := F0 m pc ls (.long x :: .int i :: .ref a :: rest)) rfl (rest := rest) rfl (by rw [hb]; exact hdg) t
  simp only [arrV_size] at h1
  exact h1 st
theorem vx_faldZ {D : va_G} {cl : List vw_C} {ws : va_W} {tys : List (ClassId × FieldType)} {a : Nat} (hexec : p.tables.exec = Jvm.exec) (hb : c.code = cc) (hK : va_K D cl tys s) (hP : va_P D cl ws H) (q0 t0 : Nat) {cA : ClassId} {n : Nat} {f : Nat → UInt32} (ha : ws[q0]? = some (a, .inl (cA, n, .inr (.inr (.inl f))))) (ht : tys[t0]? = some (cA, .float)) {i : Int32} (hout : ¬ vp_in i n) (hdg : decode cc pc = .ok (.faload, 1))
    (k : ∀ tx : String, tx = (toString "Index " ++ toString i ++ toString " out of bounds for length " ++ toString n : String) → vx_Note p l e R s m args below meth c H locs cells slots Q (F0 m pc ls rest) "java/lang/ArrayIndexOutOfBoundsException" tx) : W p l e R s m args below meth c H locs cells slots Q (F0 m pc ls (.int i :: .ref a :: rest)) := by
  intro T hT X
  obtain ⟨t, st, q⟩ := k _ rfl T hT X
  refine ⟨t, ?_, q⟩
  have h1 := X.faloadOut hexec (by rw [hT]; exact hP q0 _ ha) ((hK.2 t0 _ ht).1 n (fun j => .float (f j))) (j := i) (by show (i < 0 ∨ (arrV _ _ _).slots.size ≤ _); rw [arrV_size]; exact Classical.byContradiction hout) (g := F0 m pc ls (.int i :: .ref a :: rest)) rfl (rest := rest) rfl (by rw [hb]; exact hdg) t
  simp only [arrV_size] at h1
  exact h1 st
theorem vx_fastZ {D : va_G} {cl : List vw_C} {ws : va_W} {tys : List (ClassId × FieldType)} {a : Nat} (hexec : p.tables.exec = Jvm.exec) (hb : c.code = cc) (hK : va_K D cl tys s) (hP : va_P D cl ws H) (q0 t0 : Nat) {cA : ClassId} {n : Nat} {f : Nat → UInt32} (ha : ws[q0]? = some (a, .inl (cA, n, .inr (.inr (.inl f))))) (ht : tys[t0]? = some (cA, .float)) {i : Int32} {x : UInt32} (hout : ¬ vp_in i n) (hdg : decode cc pc = .ok (.fastore, 1))
    (k : ∀ tx : String, tx = (toString "Index " ++ toString i ++ toString " out of bounds for length " ++ toString n : String) → vx_Note p l e R s m args below meth c H locs cells slots Q (F0 m pc ls rest) "java/lang/ArrayIndexOutOfBoundsException" tx) : W p l e R s m args below meth c H locs cells slots Q (F0 m pc ls (.float x :: .int i :: .ref a :: rest)) := by
  intro T hT X
  obtain ⟨t, st, q⟩ := k _ rfl T hT X
  refine ⟨t, ?_, q⟩
  have h1 := X.fastoreOut hexec (by rw [hT]; exact hP q0 _ ha) ((hK.2 t0 _ ht).1 n (fun j => .float (f j))) (j := i) (by show (i < 0 ∨ (arrV _ _ _).slots.size ≤ _); rw [arrV_size]; exact Classical.byContradiction hout) (g := F0 m pc ls (.float x :: .int i :: .ref a :: rest)) rfl (rest := rest) rfl (by rw [hb]; exact hdg) t
  simp only [arrV_size] at h1
  exact h1 st
theorem vx_daldZ {D : va_G} {cl : List vw_C} {ws : va_W} {tys : List (ClassId × FieldType)} {a : Nat} (hexec : p.tables.exec = Jvm.exec) (hb : c.code = cc) (hK : va_K D cl tys s) (hP : va_P D cl ws H) (q0 t0 : Nat) {cA : ClassId} {n : Nat} {f : Nat → UInt64} (ha : ws[q0]? = some (a, .inl (cA, n, .inr (.inr (.inr (.inl f)))))) (ht : tys[t0]? = some (cA, .double)) {i : Int32} (hout : ¬ vp_in i n) (hdg : decode cc pc = .ok (.daload, 1))
    (k : ∀ tx : String, tx = (toString "Index " ++ toString i ++ toString " out of bounds for length " ++ toString n : String) → vx_Note p l e R s m args below meth c H locs cells slots Q (F0 m pc ls rest) "java/lang/ArrayIndexOutOfBoundsException" tx) : W p l e R s m args below meth c H locs cells slots Q (F0 m pc ls (.int i :: .ref a :: rest)) := by
  intro T hT X
  obtain ⟨t, st, q⟩ := k _ rfl T hT X
  refine ⟨t, ?_, q⟩
  have h1 := X.daloadOut hexec (by rw [hT]; exact hP q0 _ ha) ((hK.2 t0 _ ht).1 n (fun j => .double (f j))) (j := i) (by show (i < 0 ∨ (arrV _ _ _).slots.size ≤ _); rw [arrV_size]; exact Classical.byContradiction hout) (g := F0 m pc ls (.int i :: .ref a :: rest)) rfl (rest := rest) rfl (by rw [hb]; exact hdg) t
  simp only [arrV_size] at h1
  exact h1 st
theorem vx_dastZ {D : va_G} {cl : List vw_C} {ws : va_W} {tys : List (ClassId × FieldType)} {a : Nat} (hexec : p.tables.exec = Jvm.exec) (hb : c.code = cc) (hK : va_K D cl tys s) (hP : va_P D cl ws H) (q0 t0 : Nat) {cA : ClassId} {n : Nat} {f : Nat → UInt64} (ha : ws[q0]? = some (a, .inl (cA, n, .inr (.inr (.inr (.inl f)))))) (ht : tys[t0]? = some (cA, .double)) {i : Int32} {x : UInt64} (hout : ¬ vp_in i n) (hdg : decode cc pc = .ok (.dastore, 1))
    (k : ∀ tx : String, tx = (toString "Index " ++ toString i ++ toString " out of bounds for length " ++ toString n : String) → vx_Note p l e R s m args below meth c H locs cells slots Q (F0 m pc ls rest) "java/lang/ArrayIndexOutOfBoundsException" tx) : W p l e R s m args below meth c H locs cells slots Q (F0 m pc ls (.double x :: .int i :: .ref a :: rest)) := by
  intro T hT X
  obtain ⟨t, st, q⟩ := k _ rfl T hT X
  refine ⟨t, ?_, q⟩
  have h1 := X.dastoreOut hexec (by rw [hT]; exact hP q0 _ ha) ((hK.2 t0 _ ht).1 n (fun j => .double (f j))) (j := i) (by show (i < 0 ∨ (arrV _ _ _).slots.size ≤ _); rw [arrV_size]; exact Classical.byContradiction hout) (g := F0 m pc ls (.double x :: .int i :: .ref a :: rest)) rfl (rest := rest) rfl (by rw [hb]; exact hdg) t
  simp only [arrV_size] at h1
  exact h1 st
theorem vx_arraylengthN (hexec : p.tables.exec = Jvm.exec) (hb : c.code = cc) (hdg : decode cc pc = .ok (.arraylength, 1)) (k : vx_NoteN p l e R s m args below meth c H locs cells slots Q (F0 m pc ls rest)) : W p l e R s m args below meth c H locs cells slots Q (F0 m pc ls (.null :: rest)) := by
  intro T hT X
  obtain ⟨t, st, q⟩ := k T hT X
  exact ⟨t, X.arraylengthNull hexec (g := F0 m pc ls (.null :: rest)) rfl (rest := rest) rfl (by rw [hb]; exact hdg) t st, q⟩
theorem vx_ialoadN (hexec : p.tables.exec = Jvm.exec) (hb : c.code = cc) {i : Int32} (hdg : decode cc pc = .ok (.iaload, 1)) (k : vx_NoteN p l e R s m args below meth c H locs cells slots Q (F0 m pc ls rest)) : W p l e R s m args below meth c H locs cells slots Q (F0 m pc ls (.int i :: .null :: rest)) := by
  intro T hT X
  obtain ⟨t, st, q⟩ := k T hT X
  exact ⟨t, X.ialoadNull hexec (g := F0 m pc ls (.int i :: .null :: rest)) rfl (rest := rest) rfl (by rw [hb]; exact hdg) t st, q⟩
theorem vx_laloadN (hexec : p.tables.exec = Jvm.exec) (hb : c.code = cc) {i : Int32} (hdg : decode cc pc = .ok (.laload, 1)) (k : vx_NoteN p l e R s m args below meth c H locs cells slots Q (F0 m pc ls rest)) : W p l e R s m args below meth c H locs cells slots Q (F0 m pc ls (.int i :: .null :: rest)) := by
  intro T hT X
  obtain ⟨t, st, q⟩ := k T hT X
  exact ⟨t, X.laloadNull hexec (g := F0 m pc ls (.int i :: .null :: rest)) rfl (rest := rest) rfl (by rw [hb]; exact hdg) t st, q⟩
theorem vx_faloadN (hexec : p.tables.exec = Jvm.exec) (hb : c.code = cc) {i : Int32} (hdg : decode cc pc = .ok (.faload, 1)) (k : vx_NoteN p l e R s m args below meth c H locs cells slots Q (F0 m pc ls rest)) : W p l e R s m args below meth c H locs cells slots Q (F0 m pc ls (.int i :: .null :: rest)) := by
  intro T hT X
  obtain ⟨t, st, q⟩ := k T hT X
  exact ⟨t, X.faloadNull hexec (g := F0 m pc ls (.int i :: .null :: rest)) rfl (rest := rest) rfl (by rw [hb]; exact hdg) t st, q⟩
theorem vx_daloadN (hexec : p.tables.exec = Jvm.exec) (hb : c.code = cc) {i : Int32} (hdg : decode cc pc = .ok (.daload, 1)) (k : vx_NoteN p l e R s m args below meth c H locs cells slots Q (F0 m pc ls rest)) : W p l e R s m args below meth c H locs cells slots Q (F0 m pc ls (.int i :: .null :: rest)) := by
  intro T hT X
  obtain ⟨t, st, q⟩ := k T hT X
  exact ⟨t, X.daloadNull hexec (g := F0 m pc ls (.int i :: .null :: rest)) rfl (rest := rest) rfl (by rw [hb]; exact hdg) t st, q⟩
theorem vx_aaloadN (hexec : p.tables.exec = Jvm.exec) (hb : c.code = cc) {i : Int32} (hdg : decode cc pc = .ok (.aaload, 1)) (k : vx_NoteN p l e R s m args below meth c H locs cells slots Q (F0 m pc ls rest)) : W p l e R s m args below meth c H locs cells slots Q (F0 m pc ls (.int i :: .null :: rest)) := by
  intro T hT X
  obtain ⟨t, st, q⟩ := k T hT X
  exact ⟨t, X.aaloadNull hexec (g := F0 m pc ls (.int i :: .null :: rest)) rfl (rest := rest) rfl (by rw [hb]; exact hdg) t st, q⟩
theorem vx_baloadN (hexec : p.tables.exec = Jvm.exec) (hb : c.code = cc) {i : Int32} (hdg : decode cc pc = .ok (.baload, 1)) (k : vx_NoteN p l e R s m args below meth c H locs cells slots Q (F0 m pc ls rest)) : W p l e R s m args below meth c H locs cells slots Q (F0 m pc ls (.int i :: .null :: rest)) := by
  intro T hT X
  obtain ⟨t, st, q⟩ := k T hT X
  exact ⟨t, X.baloadNull hexec (g := F0 m pc ls (.int i :: .null :: rest)) rfl (rest := rest) rfl (by rw [hb]; exact hdg) t st, q⟩
theorem vx_caloadN (hexec : p.tables.exec = Jvm.exec) (hb : c.code = cc) {i : Int32} (hdg : decode cc pc = .ok (.caload, 1)) (k : vx_NoteN p l e R s m args below meth c H locs cells slots Q (F0 m pc ls rest)) : W p l e R s m args below meth c H locs cells slots Q (F0 m pc ls (.int i :: .null :: rest)) := by
  intro T hT X
  obtain ⟨t, st, q⟩ := k T hT X
  exact ⟨t, X.caloadNull hexec (g := F0 m pc ls (.int i :: .null :: rest)) rfl (rest := rest) rfl (by rw [hb]; exact hdg) t st, q⟩
theorem vx_saloadN (hexec : p.tables.exec = Jvm.exec) (hb : c.code = cc) {i : Int32} (hdg : decode cc pc = .ok (.saload, 1)) (k : vx_NoteN p l e R s m args below meth c H locs cells slots Q (F0 m pc ls rest)) : W p l e R s m args below meth c H locs cells slots Q (F0 m pc ls (.int i :: .null :: rest)) := by
  intro T hT X
  obtain ⟨t, st, q⟩ := k T hT X
  exact ⟨t, X.saloadNull hexec (g := F0 m pc ls (.int i :: .null :: rest)) rfl (rest := rest) rfl (by rw [hb]; exact hdg) t st, q⟩
theorem vx_iastoreN (hexec : p.tables.exec = Jvm.exec) (hb : c.code = cc) {x : Int32} {i : Int32} (hdg : decode cc pc = .ok (.iastore, 1)) (k : vx_NoteN p l e R s m args below meth c H locs cells slots Q (F0 m pc ls rest)) : W p l e R s m args below meth c H locs cells slots Q (F0 m pc ls (.int x :: .int i :: .null :: rest)) := by
  intro T hT X
  obtain ⟨t, st, q⟩ := k T hT X
  exact ⟨t, X.iastoreNull hexec (g := F0 m pc ls (.int x :: .int i :: .null :: rest)) rfl (rest := rest) rfl (by rw [hb]; exact hdg) t st, q⟩
theorem vx_lastoreN (hexec : p.tables.exec = Jvm.exec) (hb : c.code = cc) {x : Int64} {i : Int32} (hdg : decode cc pc = .ok (.lastore, 1)) (k : vx_NoteN p l e R s m args below meth c H locs cells slots Q (F0 m pc ls rest)) : W p l e R s m args below meth c H locs cells slots Q (F0 m pc ls (.long x :: .int i :: .null :: rest)) := by
  intro T hT X
  obtain ⟨t, st, q⟩ := k T hT X
  exact ⟨t, X.lastoreNull hexec (g := F0 m pc ls (.long x :: .int i :: .null :: rest)) rfl (rest := rest) rfl (by rw [hb]; exact hdg) t st, q⟩
theorem vx_fastoreN (hexec : p.tables.exec = Jvm.exec) (hb : c.code = cc) {x : UInt32} {i : Int32} (hdg : decode cc pc = .ok (.fastore, 1)) (k : vx_NoteN p l e R s m args below meth c H locs cells slots Q (F0 m pc ls rest)) : W p l e R s m args below meth c H locs cells slots Q (F0 m pc ls (.float x :: .int i :: .null :: rest)) := by
  intro T hT X
  obtain ⟨t, st, q⟩ := k T hT X
  exact ⟨t, X.fastoreNull hexec (g := F0 m pc ls (.float x :: .int i :: .null :: rest)) rfl (rest := rest) rfl (by rw [hb]; exact hdg) t st, q⟩
theorem vx_dastoreN (hexec : p.tables.exec = Jvm.exec) (hb : c.code = cc) {x : UInt64} {i : Int32} (hdg : decode cc pc = .ok (.dastore, 1)) (k : vx_NoteN p l e R s m args below meth c H locs cells slots Q (F0 m pc ls rest)) : W p l e R s m args below meth c H locs cells slots Q (F0 m pc ls (.double x :: .int i :: .null :: rest)) := by
  intro T hT X
  obtain ⟨t, st, q⟩ := k T hT X
  exact ⟨t, X.dastoreNull hexec (g := F0 m pc ls (.double x :: .int i :: .null :: rest)) rfl (rest := rest) rfl (by rw [hb]; exact hdg) t st, q⟩
theorem vx_bastoreN (hexec : p.tables.exec = Jvm.exec) (hb : c.code = cc) {x : Int32} {i : Int32} (hdg : decode cc pc = .ok (.bastore, 1)) (k : vx_NoteN p l e R s m args below meth c H locs cells slots Q (F0 m pc ls rest)) : W p l e R s m args below meth c H locs cells slots Q (F0 m pc ls (.int x :: .int i :: .null :: rest)) := by
  intro T hT X
  obtain ⟨t, st, q⟩ := k T hT X
  exact ⟨t, X.bastoreNull hexec (g := F0 m pc ls (.int x :: .int i :: .null :: rest)) rfl (rest := rest) rfl (by rw [hb]; exact hdg) t st, q⟩
theorem vx_castoreN (hexec : p.tables.exec = Jvm.exec) (hb : c.code = cc) {x : Int32} {i : Int32} (hdg : decode cc pc = .ok (.castore, 1)) (k : vx_NoteN p l e R s m args below meth c H locs cells slots Q (F0 m pc ls rest)) : W p l e R s m args below meth c H locs cells slots Q (F0 m pc ls (.int x :: .int i :: .null :: rest)) := by
  intro T hT X
  obtain ⟨t, st, q⟩ := k T hT X
  exact ⟨t, X.castoreNull hexec (g := F0 m pc ls (.int x :: .int i :: .null :: rest)) rfl (rest := rest) rfl (by rw [hb]; exact hdg) t st, q⟩
theorem vx_sastoreN (hexec : p.tables.exec = Jvm.exec) (hb : c.code = cc) {x : Int32} {i : Int32} (hdg : decode cc pc = .ok (.sastore, 1)) (k : vx_NoteN p l e R s m args below meth c H locs cells slots Q (F0 m pc ls rest)) : W p l e R s m args below meth c H locs cells slots Q (F0 m pc ls (.int x :: .int i :: .null :: rest)) := by
  intro T hT X
  obtain ⟨t, st, q⟩ := k T hT X
  exact ⟨t, X.sastoreNull hexec (g := F0 m pc ls (.int x :: .int i :: .null :: rest)) rfl (rest := rest) rfl (by rw [hb]; exact hdg) t st, q⟩
theorem vx_invokeN {own C : String} {index maxL : Nat} {y : MethodName} {bytes : ByteArray} {ret : Option FieldType} (hexec : p.tables.exec = Jvm.exec) (hb : c.code = cc) (hown : s.vm.findClass own = some m.cls) (hlink : (Cond.methodLink own index y).before args s = true) (hinst : (Cond.instanceMethod y).before args s = true) (hcode : (Cond.code y bytes maxL ret).before args s = true) (hsel : (Cond.selects C y y).before args s = true)
    (hx : y.cls ≠ "java/lang/invoke/MethodHandle" ∧ y.cls ≠ "java/lang/invoke/VarHandle") {As : List Value} (hlen : (parseMethodDescriptor y.desc).map (fun d => d.parameters.length) = some As.length) (hdg : decode cc pc = .ok (.invokevirtual index, 3))
    (k : vx_NoteN p l e R s m args below meth c H locs cells slots Q (F0 m pc ls rest)) {st0 : List Value} (hst : st0 = As.reverse ++ .null :: rest) : W p l e R s m args below meth c H locs cells slots Q (F0 m pc ls st0) := by
  intro T hT X
  obtain ⟨r0, r, hn, hrm, hstR, hsigR⟩ := va_Decl.of hinst hcode
  obtain ⟨c2, r2, m2, q1, q2, q3, q4, kP, hkP, hkPi⟩ := Cond.selects_spec hsel
  cases hn.symm.trans q3
  have hl9 : As.length = r.sig.parameters.length := by
    rw [hsigR] at hlen
    exact (Option.some.inj hlen).symm
  obtain ⟨vm', X1, st1⟩ := X.invokevirtualNull hexec hown hlink hn hrm hstR hkP hkPi hx (g := F0 m pc ls st0) rfl (argsL := As) (rest := rest) hl9 hst (by rw [hb]; exact hdg)
  obtain ⟨t, st, q⟩ := k (T.setVm vm') hT X1
  exact ⟨t, st1 t st, q⟩
theorem vx_newarrayZ {atype : ArrayType} (hexec : p.tables.exec = Jvm.exec) (hb : c.code = cc) {n : Int32} (h0 : n < 0) (hdg : decode cc pc = .ok (.newarray atype, 2)) (k : ∀ tx : String, tx = toString n → vx_Note p l e R s m args below meth c H locs cells slots Q (F0 m pc ls rest) "java/lang/NegativeArraySizeException" tx) : W p l e R s m args below meth c H locs cells slots Q (F0 m pc ls (.int n :: rest)) := by
  intro T hT X
  obtain ⟨t, st, q⟩ := k _ rfl T hT X
  exact ⟨t, X.newarrayNegative hexec (g := F0 m pc ls (.int n :: rest)) rfl h0 (rest := rest) rfl (by rw [hb]; exact hdg) t st, q⟩
end
end VXM
/-! ===== END ===== -/
end
section
/-! names, code, decode rows (printed by program from the claim) -/
def RX0 : String := "InodeCouncil$Holds"
def TX0 : u_T := fun k => match k with
  | 0 => ("InodeCouncil$Holds", "opened", "I", false)
  | 1 => ("InodeCouncil$Holds", "files", "[I", true)
  | 2 => ("InodeCouncil$Holds", "ends", "[I", true)
  | _ => ("InodeCouncil$Holds", "open", "[Z", true)
def tyX0 : Nat → FieldType := fun k => match k with
  | 0 => .int
  | 1 => .array .int
  | 2 => .array .int
  | _ => .array .boolean
theorem nmX0 : ∀ a, a < 4 → ∀ b, b < 4 → a ≠ b → (TX0 a).2.1 ≠ (TX0 b).2.1 := by decide +kernel
theorem tyX0_ok : ∀ k, k < 4 → parseFieldDescriptor (TX0 k).2.2.1 = some (tyX0 k) := by decide +kernel
abbrev cX0_init : ByteArray := prog_2_method_1_code
def yX0_init : MethodName := ⟨RX0, "<init>", "()V"⟩
abbrev cX0_openedTotal : ByteArray := prog_2_method_2_code
def yX0_openedTotal : MethodName := ⟨RX0, "openedTotal", "()I"⟩
abbrev cX0_wasOpened : ByteArray := prog_2_method_3_code
def yX0_wasOpened : MethodName := ⟨RX0, "wasOpened", "(I)Z"⟩
abbrev cX0_isStillOpen : ByteArray := prog_2_method_4_code
def yX0_isStillOpen : MethodName := ⟨RX0, "isStillOpen", "(I)Z"⟩
abbrev cX0_fileOf : ByteArray := prog_2_method_5_code
def yX0_fileOf : MethodName := ⟨RX0, "fileOf", "(I)I"⟩
abbrev cX0_endOf : ByteArray := prog_2_method_6_code
def yX0_endOf : MethodName := ⟨RX0, "endOf", "(I)I"⟩
abbrev cX0_add : ByteArray := prog_2_method_7_code
def yX0_add : MethodName := ⟨RX0, "add", "(II)I"⟩
abbrev cX0_close : ByteArray := prog_2_method_8_code
def yX0_close : MethodName := ⟨RX0, "close", "(I)V"⟩
abbrev cX0_openTotal : ByteArray := prog_2_method_9_code
def yX0_openTotal : MethodName := ⟨RX0, "openTotal", "(I)I"⟩
abbrev cX0_firstToEnd : ByteArray := prog_2_method_10_code
def yX0_firstToEnd : MethodName := ⟨RX0, "firstToEnd", "()I"⟩
def RX1 : String := "InodeCouncil$Snapshots"
def TX1 : u_T := fun k => match k with
  | 0 => ("InodeCouncil$Snapshots", "taken", "I", false)
  | 1 => ("InodeCouncil$Snapshots", "kept", "I", false)
  | 2 => ("InodeCouncil$Snapshots", "ranks", "[I", true)
  | 3 => ("InodeCouncil$Snapshots", "rows", "[I", true)
  | 4 => ("InodeCouncil$Snapshots", "rowInUse", "[Z", true)
  | 5 => ("InodeCouncil$Snapshots", "fileInRow", "[Z", true)
  | _ => ("InodeCouncil$Snapshots", "cells", "[[I", true)
def tyX1 : Nat → FieldType := fun k => match k with
  | 0 => .int
  | 1 => .int
  | 2 => .array .int
  | 3 => .array .int
  | 4 => .array .boolean
  | 5 => .array .boolean
  | _ => .array (.array .int)
theorem nmX1 : ∀ a, a < 7 → ∀ b, b < 7 → a ≠ b → (TX1 a).2.1 ≠ (TX1 b).2.1 := by decide +kernel
theorem tyX1_ok : ∀ k, k < 7 → parseFieldDescriptor (TX1 k).2.2.1 = some (tyX1 k) := by decide +kernel
abbrev cX1_init : ByteArray := prog_3_method_1_code
def yX1_init : MethodName := ⟨RX1, "<init>", "()V"⟩
abbrev cX1_takenTotal : ByteArray := prog_3_method_2_code
def yX1_takenTotal : MethodName := ⟨RX1, "takenTotal", "()I"⟩
abbrev cX1_keptTotal : ByteArray := prog_3_method_3_code
def yX1_keptTotal : MethodName := ⟨RX1, "keptTotal", "()I"⟩
abbrev cX1_wasTaken : ByteArray := prog_3_method_4_code
def yX1_wasTaken : MethodName := ⟨RX1, "wasTaken", "(I)Z"⟩
abbrev cX1_rowOf : ByteArray := prog_3_method_5_code
def yX1_rowOf : MethodName := ⟨RX1, "rowOf", "(I)I"⟩
abbrev cX1_isRow : ByteArray := prog_3_method_6_code
def yX1_isRow : MethodName := ⟨RX1, "isRow", "(I)Z"⟩
abbrev cX1_add : ByteArray := prog_3_method_7_code
def yX1_add : MethodName := ⟨RX1, "add", "(ILInodeCouncil$State;)I"⟩
abbrev cX1_unusedRow : ByteArray := prog_3_method_8_code
def yX1_unusedRow : MethodName := ⟨RX1, "unusedRow", "()I"⟩
abbrev cX1_fillRow : ByteArray := prog_3_method_9_code
def yX1_fillRow : MethodName := ⟨RX1, "fillRow", "(ILInodeCouncil$State;)V"⟩
abbrev cX1_drop : ByteArray := prog_3_method_10_code
def yX1_drop : MethodName := ⟨RX1, "drop", "(ILInodeCouncil$State;)V"⟩
abbrev cX1_includes : ByteArray := prog_3_method_11_code
def yX1_includes : MethodName := ⟨RX1, "includes", "(II)Z"⟩
abbrev cX1_isInRow : ByteArray := prog_3_method_12_code
def yX1_isInRow : MethodName := ⟨RX1, "isInRow", "(II)Z"⟩
abbrev cX1_blockIn : ByteArray := prog_3_method_13_code
def yX1_blockIn : MethodName := ⟨RX1, "blockIn", "(III)I"⟩
abbrev cX1_blocksInFile : ByteArray := prog_3_method_14_code
def yX1_blocksInFile : MethodName := ⟨RX1, "blocksInFile", "(II)J"⟩
abbrev cX1_leastKept : ByteArray := prog_3_method_15_code
def yX1_leastKept : MethodName := ⟨RX1, "leastKept", "()I"⟩
abbrev cX1_walkKept : ByteArray := prog_3_method_16_code
def yX1_walkKept : MethodName := ⟨RX1, "walkKept", "([I)V"⟩
def RX2 : String := "InodeCouncil$State"
def TX2 : u_T := fun k => match k with
  | 0 => ("InodeCouncil$State", "files", "I", false)
  | 1 => ("InodeCouncil$State", "ownerOfFile", "[I", true)
  | 2 => ("InodeCouncil$State", "links", "[I", true)
  | 3 => ("InodeCouncil$State", "alive", "[Z", true)
  | 4 => ("InodeCouncil$State", "cells", "[I", true)
  | 5 => ("InodeCouncil$State", "values", "[I", true)
  | 6 => ("InodeCouncil$State", "users", "[I", true)
  | 7 => ("InodeCouncil$State", "promised", "[I", true)
  | _ => ("InodeCouncil$State", "entries", "I", false)
def tyX2 : Nat → FieldType := fun k => match k with
  | 0 => .int
  | 1 => .array .int
  | 2 => .array .int
  | 3 => .array .boolean
  | 4 => .array .int
  | 5 => .array .int
  | 6 => .array .int
  | 7 => .array .int
  | _ => .int
theorem nmX2 : ∀ a, a < 9 → ∀ b, b < 9 → a ≠ b → (TX2 a).2.1 ≠ (TX2 b).2.1 := by decide +kernel
theorem tyX2_ok : ∀ k, k < 9 → parseFieldDescriptor (TX2 k).2.2.1 = some (tyX2 k) := by decide +kernel
abbrev cX2_init : ByteArray := prog_4_method_1_code
def yX2_init : MethodName := ⟨RX2, "<init>", "()V"⟩
abbrev cX2_copyFrom : ByteArray := prog_4_method_2_code
def yX2_copyFrom : MethodName := ⟨RX2, "copyFrom", "(LInodeCouncil$State;)V"⟩
abbrev cX2_entryTotal : ByteArray := prog_4_method_3_code
def yX2_entryTotal : MethodName := ⟨RX2, "entryTotal", "()I"⟩
abbrev cX2_setEntries : ByteArray := prog_4_method_4_code
def yX2_setEntries : MethodName := ⟨RX2, "setEntries", "(I)V"⟩
abbrev cX2_fileTotal : ByteArray := prog_4_method_5_code
def yX2_fileTotal : MethodName := ⟨RX2, "fileTotal", "()I"⟩
abbrev cX2_hasFile : ByteArray := prog_4_method_6_code
def yX2_hasFile : MethodName := ⟨RX2, "hasFile", "(I)Z"⟩
abbrev cX2_addFile : ByteArray := prog_4_method_7_code
def yX2_addFile : MethodName := ⟨RX2, "addFile", "(I)I"⟩
abbrev cX2_removeFile : ByteArray := prog_4_method_8_code
def yX2_removeFile : MethodName := ⟨RX2, "removeFile", "(I)V"⟩
abbrev cX2_isAlive : ByteArray := prog_4_method_9_code
def yX2_isAlive : MethodName := ⟨RX2, "isAlive", "(I)Z"⟩
abbrev cX2_ownerIn : ByteArray := prog_4_method_10_code
def yX2_ownerIn : MethodName := ⟨RX2, "ownerIn", "(I)I"⟩
abbrev cX2_linkTotal : ByteArray := prog_4_method_11_code
def yX2_linkTotal : MethodName := ⟨RX2, "linkTotal", "(I)I"⟩
abbrev cX2_setLinks : ByteArray := prog_4_method_12_code
def yX2_setLinks : MethodName := ⟨RX2, "setLinks", "(II)V"⟩
abbrev cX2_blockIn : ByteArray := prog_4_method_13_code
def yX2_blockIn : MethodName := ⟨RX2, "blockIn", "(II)I"⟩
abbrev cX2_setBlock : ByteArray := prog_4_method_14_code
def yX2_setBlock : MethodName := ⟨RX2, "setBlock", "(III)V"⟩
abbrev cX2_blocksInFile : ByteArray := prog_4_method_15_code
def yX2_blocksInFile : MethodName := ⟨RX2, "blocksInFile", "(II)J"⟩
abbrev cX2_blocksOfOwner : ByteArray := prog_4_method_16_code
def yX2_blocksOfOwner : MethodName := ⟨RX2, "blocksOfOwner", "(II)J"⟩
abbrev cX2_walkFiles : ByteArray := prog_4_method_17_code
def yX2_walkFiles : MethodName := ⟨RX2, "walkFiles", "([I)V"⟩
abbrev cX2_userTotal : ByteArray := prog_4_method_18_code
def yX2_userTotal : MethodName := ⟨RX2, "userTotal", "(I)I"⟩
abbrev cX2_addUser : ByteArray := prog_4_method_19_code
def yX2_addUser : MethodName := ⟨RX2, "addUser", "(I)V"⟩
abbrev cX2_removeUser : ByteArray := prog_4_method_20_code
def yX2_removeUser : MethodName := ⟨RX2, "removeUser", "(I)V"⟩
abbrev cX2_valueIn : ByteArray := prog_4_method_21_code
def yX2_valueIn : MethodName := ⟨RX2, "valueIn", "(I)I"⟩
abbrev cX2_setValue : ByteArray := prog_4_method_22_code
def yX2_setValue : MethodName := ⟨RX2, "setValue", "(II)V"⟩
abbrev cX2_freeTotal : ByteArray := prog_4_method_23_code
def yX2_freeTotal : MethodName := ⟨RX2, "freeTotal", "()I"⟩
abbrev cX2_takeBlock : ByteArray := prog_4_method_24_code
def yX2_takeBlock : MethodName := ⟨RX2, "takeBlock", "(I)I"⟩
abbrev cX2_promisedFor : ByteArray := prog_4_method_25_code
def yX2_promisedFor : MethodName := ⟨RX2, "promisedFor", "(I)I"⟩
abbrev cX2_setPromised : ByteArray := prog_4_method_26_code
def yX2_setPromised : MethodName := ⟨RX2, "setPromised", "(II)V"⟩
abbrev cX2_promisedInAll : ByteArray := prog_4_method_27_code
def yX2_promisedInAll : MethodName := ⟨RX2, "promisedInAll", "()I"⟩
def RX3 : String := "InodeCouncil"
def TX3 : u_T := fun k => match k with
  | 0 => ("InodeCouncil", "now", "LInodeCouncil$State;", true)
  | 1 => ("InodeCouncil", "atBegin", "LInodeCouncil$State;", true)
  | 2 => ("InodeCouncil", "inTransaction", "Z", false)
  | 3 => ("InodeCouncil", "kinds", "[C", true)
  | 4 => ("InodeCouncil", "owners", "I", false)
  | 5 => ("InodeCouncil", "quotas", "[I", true)
  | 6 => ("InodeCouncil", "snapshots", "LInodeCouncil$Snapshots;", true)
  | 7 => ("InodeCouncil", "holds", "LInodeCouncil$Holds;", true)
  | 8 => ("InodeCouncil", "today", "I", false)
  | 9 => ("InodeCouncil", "line", "Ljava/lang/StringBuilder;", true)
  | _ => ("InodeCouncil", "walked", "[I", true)
def tyX3 : Nat → FieldType := fun k => match k with
  | 0 => .object "InodeCouncil$State"
  | 1 => .object "InodeCouncil$State"
  | 2 => .boolean
  | 3 => .array .char
  | 4 => .int
  | 5 => .array .int
  | 6 => .object "InodeCouncil$Snapshots"
  | 7 => .object "InodeCouncil$Holds"
  | 8 => .int
  | 9 => .object "java/lang/StringBuilder"
  | _ => .array .int
theorem nmX3 : ∀ a, a < 11 → ∀ b, b < 11 → a ≠ b → (TX3 a).2.1 ≠ (TX3 b).2.1 := by decide +kernel
theorem tyX3_ok : ∀ k, k < 11 → parseFieldDescriptor (TX3 k).2.2.1 = some (tyX3 k) := by decide +kernel
abbrev cX3_init : ByteArray := prog_1_method_1_code
def yX3_init : MethodName := ⟨RX3, "<init>", "()V"⟩
abbrev cX3_addOwner : ByteArray := prog_1_method_2_code
def yX3_addOwner : MethodName := ⟨RX3, "addOwner", "(I)I"⟩
abbrev cX3_createFile : ByteArray := prog_1_method_3_code
def yX3_createFile : MethodName := ⟨RX3, "createFile", "(I)I"⟩
abbrev cX3_fileCount : ByteArray := prog_1_method_4_code
def yX3_fileCount : MethodName := ⟨RX3, "fileCount", "()I"⟩
abbrev cX3_doesExist : ByteArray := prog_1_method_5_code
def yX3_doesExist : MethodName := ⟨RX3, "doesExist", "(I)Z"⟩
abbrev cX3_linksOf : ByteArray := prog_1_method_6_code
def yX3_linksOf : MethodName := ⟨RX3, "linksOf", "(I)I"⟩
abbrev cX3_link : ByteArray := prog_1_method_7_code
def yX3_link : MethodName := ⟨RX3, "link", "(I)I"⟩
abbrev cX3_unlink : ByteArray := prog_1_method_8_code
def yX3_unlink : MethodName := ⟨RX3, "unlink", "(I)I"⟩
abbrev cX3_write : ByteArray := prog_1_method_9_code
def yX3_write : MethodName := ⟨RX3, "write", "(III)I"⟩
abbrev cX3_punch : ByteArray := prog_1_method_10_code
def yX3_punch : MethodName := ⟨RX3, "punch", "(II)I"⟩
abbrev cX3_read : ByteArray := prog_1_method_11_code
def yX3_read : MethodName := ⟨RX3, "read", "(II)I"⟩
abbrev cX3_blockAt : ByteArray := prog_1_method_12_code
def yX3_blockAt : MethodName := ⟨RX3, "blockAt", "(II)I"⟩
abbrev cX3_blocksOf : ByteArray := prog_1_method_13_code
def yX3_blocksOf : MethodName := ⟨RX3, "blocksOf", "(I)I"⟩
abbrev cX3_usedBy : ByteArray := prog_1_method_14_code
def yX3_usedBy : MethodName := ⟨RX3, "usedBy", "(I)I"⟩
abbrev cX3_free : ByteArray := prog_1_method_15_code
def yX3_free : MethodName := ⟨RX3, "free", "()I"⟩
abbrev cX3_usersOf : ByteArray := prog_1_method_16_code
def yX3_usersOf : MethodName := ⟨RX3, "usersOf", "(I)I"⟩
abbrev cX3_usersByWalk : ByteArray := prog_1_method_17_code
def yX3_usersByWalk : MethodName := ⟨RX3, "usersByWalk", "(I)I"⟩
abbrev cX3_promise : ByteArray := prog_1_method_18_code
def yX3_promise : MethodName := ⟨RX3, "promise", "(II)I"⟩
abbrev cX3_promisedTo : ByteArray := prog_1_method_19_code
def yX3_promisedTo : MethodName := ⟨RX3, "promisedTo", "(I)I"⟩
abbrev cX3_giveBack : ByteArray := prog_1_method_20_code
def yX3_giveBack : MethodName := ⟨RX3, "giveBack", "(I)I"⟩
abbrev cX3_takeSnapshot : ByteArray := prog_1_method_21_code
def yX3_takeSnapshot : MethodName := ⟨RX3, "takeSnapshot", "(I)I"⟩
abbrev cX3_isKept : ByteArray := prog_1_method_22_code
def yX3_isKept : MethodName := ⟨RX3, "isKept", "(I)Z"⟩
abbrev cX3_readFrom : ByteArray := prog_1_method_23_code
def yX3_readFrom : MethodName := ⟨RX3, "readFrom", "(III)I"⟩
abbrev cX3_thin : ByteArray := prog_1_method_24_code
def yX3_thin : MethodName := ⟨RX3, "thin", "(I)I"⟩
abbrev cX3_nextToDrop : ByteArray := prog_1_method_25_code
def yX3_nextToDrop : MethodName := ⟨RX3, "nextToDrop", "()I"⟩
abbrev cX3_restore : ByteArray := prog_1_method_26_code
def yX3_restore : MethodName := ⟨RX3, "restore", "(II)I"⟩
abbrev cX3_openHold : ByteArray := prog_1_method_27_code
def yX3_openHold : MethodName := ⟨RX3, "openHold", "(II)I"⟩
abbrev cX3_release : ByteArray := prog_1_method_28_code
def yX3_release : MethodName := ⟨RX3, "release", "(I)I"⟩
abbrev cX3_isOpen : ByteArray := prog_1_method_29_code
def yX3_isOpen : MethodName := ⟨RX3, "isOpen", "(I)Z"⟩
abbrev cX3_holdsOn : ByteArray := prog_1_method_30_code
def yX3_holdsOn : MethodName := ⟨RX3, "holdsOn", "(I)I"⟩
abbrev cX3_nextEnd : ByteArray := prog_1_method_31_code
def yX3_nextEnd : MethodName := ⟨RX3, "nextEnd", "()I"⟩
abbrev cX3_pass : ByteArray := prog_1_method_32_code
def yX3_pass : MethodName := ⟨RX3, "pass", "(I)I"⟩
abbrev cX3_day : ByteArray := prog_1_method_33_code
def yX3_day : MethodName := ⟨RX3, "day", "()I"⟩
abbrev cX3_begin : ByteArray := prog_1_method_34_code
def yX3_begin : MethodName := ⟨RX3, "begin", "()I"⟩
abbrev cX3_commit : ByteArray := prog_1_method_35_code
def yX3_commit : MethodName := ⟨RX3, "commit", "()I"⟩
abbrev cX3_crash : ByteArray := prog_1_method_36_code
def yX3_crash : MethodName := ⟨RX3, "crash", "()I"⟩
abbrev cX3_journalSize : ByteArray := prog_1_method_37_code
def yX3_journalSize : MethodName := ⟨RX3, "journalSize", "()I"⟩
abbrev cX3_entryKind : ByteArray := prog_1_method_38_code
def yX3_entryKind : MethodName := ⟨RX3, "entryKind", "(I)C"⟩
abbrev cX3_isConsistent : ByteArray := prog_1_method_41_code
def yX3_isConsistent : MethodName := ⟨RX3, "isConsistent", "()Z"⟩
abbrev cX3_writeFile : ByteArray := prog_1_method_42_code
def yX3_writeFile : MethodName := ⟨RX3, "writeFile", "(I)I"⟩
abbrev cX3_lineAt : ByteArray := prog_1_method_43_code
def yX3_lineAt : MethodName := ⟨RX3, "lineAt", "(I)C"⟩
abbrev cX3_requireWithin : ByteArray := prog_1_method_44_code
def yX3_requireWithin : MethodName := ⟨RX3, "requireWithin", "(III)V"⟩
abbrev cX3_requireOwner : ByteArray := prog_1_method_45_code
def yX3_requireOwner : MethodName := ⟨RX3, "requireOwner", "(I)V"⟩
abbrev cX3_requireFile : ByteArray := prog_1_method_46_code
def yX3_requireFile : MethodName := ⟨RX3, "requireFile", "(I)V"⟩
abbrev cX3_requirePlace : ByteArray := prog_1_method_47_code
def yX3_requirePlace : MethodName := ⟨RX3, "requirePlace", "(I)V"⟩
abbrev cX3_requireBlock : ByteArray := prog_1_method_48_code
def yX3_requireBlock : MethodName := ⟨RX3, "requireBlock", "(I)V"⟩
abbrev cX3_requireSnapshot : ByteArray := prog_1_method_49_code
def yX3_requireSnapshot : MethodName := ⟨RX3, "requireSnapshot", "(I)V"⟩
abbrev cX3_requireInSnapshot : ByteArray := prog_1_method_50_code
def yX3_requireInSnapshot : MethodName := ⟨RX3, "requireInSnapshot", "(II)V"⟩
abbrev cX3_requireHold : ByteArray := prog_1_method_51_code
def yX3_requireHold : MethodName := ⟨RX3, "requireHold", "(I)V"⟩
abbrev cX3_requireLinks : ByteArray := prog_1_method_52_code
def yX3_requireLinks : MethodName := ⟨RX3, "requireLinks", "(I)V"⟩
abbrev cX3_requireNoTransaction : ByteArray := prog_1_method_53_code
def yX3_requireNoTransaction : MethodName := ⟨RX3, "requireNoTransaction", "()V"⟩
abbrev cX3_requireBlockFor : ByteArray := prog_1_method_54_code
def yX3_requireBlockFor : MethodName := ⟨RX3, "requireBlockFor", "(III)V"⟩
abbrev cX3_blockOrThrow : ByteArray := prog_1_method_55_code
def yX3_blockOrThrow : MethodName := ⟨RX3, "blockOrThrow", "(II)I"⟩
abbrev cX3_isBlock : ByteArray := prog_1_method_56_code
def yX3_isBlock : MethodName := ⟨RX3, "isBlock", "(I)Z"⟩
abbrev cX3_isPlace : ByteArray := prog_1_method_57_code
def yX3_isPlace : MethodName := ⟨RX3, "isPlace", "(I)Z"⟩
abbrev cX3_countUser : ByteArray := prog_1_method_58_code
def yX3_countUser : MethodName := ⟨RX3, "countUser", "([II)V"⟩
abbrev cX3_quotaOf : ByteArray := prog_1_method_59_code
def yX3_quotaOf : MethodName := ⟨RX3, "quotaOf", "(I)I"⟩
abbrev cX3_note : ByteArray := prog_1_method_60_code
def yX3_note : MethodName := ⟨RX3, "note", "(C)V"⟩
abbrev cX3_endHold : ByteArray := prog_1_method_61_code
def yX3_endHold : MethodName := ⟨RX3, "endHold", "(I)I"⟩
abbrev cX3_removeIfAbandoned : ByteArray := prog_1_method_62_code
def yX3_removeIfAbandoned : MethodName := ⟨RX3, "removeIfAbandoned", "(I)I"⟩
abbrev cX3_walkUsers : ByteArray := prog_1_method_63_code
def yX3_walkUsers : MethodName := ⟨RX3, "walkUsers", "()V"⟩
abbrev cX3_areUsersAsWalked : ByteArray := prog_1_method_64_code
def yX3_areUsersAsWalked : MethodName := ⟨RX3, "areUsersAsWalked", "()Z"⟩
abbrev cX3_areHeldFilesAlive : ByteArray := prog_1_method_65_code
def yX3_areHeldFilesAlive : MethodName := ⟨RX3, "areHeldFilesAlive", "()Z"⟩
def RX4 : String := "InodeCouncilModel"
def TX4 : u_T := fun k => match k with
  | _ => ("", "", "", false)
def tyX4 : Nat → FieldType := fun k => match k with
  | _ => .int
theorem nmX4 : ∀ a, a < 0 → ∀ b, b < 0 → a ≠ b → (TX4 a).2.1 ≠ (TX4 b).2.1 := by decide +kernel
theorem tyX4_ok : ∀ k, k < 0 → parseFieldDescriptor (TX4 k).2.2.1 = some (tyX4 k) := by decide +kernel
def RJx145de : String := "java/io/Serializable"
def TJx145de : u_T := fun k => match k with
  | _ => ("", "", "", false)
def tyJx145de : Nat → FieldType := fun k => match k with
  | _ => .int
theorem nmJx145de : ∀ a, a < 0 → ∀ b, b < 0 → a ≠ b → (TJx145de a).2.1 ≠ (TJx145de b).2.1 := by decide +kernel
theorem tyJx145de_ok : ∀ k, k < 0 → parseFieldDescriptor (TJx145de k).2.2.1 = some (tyJx145de k) := by decide +kernel
def RJ5 : String := "java/lang/AbstractStringBuilder"
def TJ5 : u_T := fun k => match k with
  | _ => ("", "", "", false)
def tyJ5 : Nat → FieldType := fun k => match k with
  | _ => .int
theorem nmJ5 : ∀ a, a < 0 → ∀ b, b < 0 → a ≠ b → (TJ5 a).2.1 ≠ (TJ5 b).2.1 := by decide +kernel
theorem tyJ5_ok : ∀ k, k < 0 → parseFieldDescriptor (TJ5 k).2.2.1 = some (tyJ5 k) := by decide +kernel
abbrev cJ5_init_d00df : ByteArray := prog_8_method_2_code
def yJ5_init_d00df : MethodName := ⟨RJ5, "<init>", "(I)V"⟩
abbrev cJ5_length_8abf5 : ByteArray := prog_8_method_6_code
def yJ5_length_8abf5 : MethodName := ⟨RJ5, "length", "()I"⟩
abbrev cJ5_ensureCapacityInternal_d00df : ByteArray := prog_8_method_9_code
def yJ5_ensureCapacityInternal_d00df : MethodName := ⟨RJ5, "ensureCapacityInternal", "(I)V"⟩
abbrev cJ5_newCapacity_0f7a4 : ByteArray := prog_8_method_10_code
def yJ5_newCapacity_0f7a4 : MethodName := ⟨RJ5, "newCapacity", "(I)I"⟩
abbrev cJ5_inflate_da8c8 : ByteArray := prog_8_method_11_code
def yJ5_inflate_da8c8 : MethodName := ⟨RJ5, "inflate", "()V"⟩
abbrev cJ5_setLength_d00df : ByteArray := prog_8_method_13_code
def yJ5_setLength_d00df : MethodName := ⟨RJ5, "setLength", "(I)V"⟩
abbrev cJ5_charAt_5068e : ByteArray := prog_8_method_14_code
def yJ5_charAt_5068e : MethodName := ⟨RJ5, "charAt", "(I)C"⟩
abbrev cJ5_append_cf1ce : ByteArray := prog_8_method_22_code
def yJ5_append_cf1ce : MethodName := ⟨RJ5, "append", "(Ljava/lang/String;)Ljava/lang/AbstractStringBuilder;"⟩
abbrev cJ5_appendNull_278bc : ByteArray := prog_8_method_26_code
def yJ5_appendNull_278bc : MethodName := ⟨RJ5, "appendNull", "()Ljava/lang/AbstractStringBuilder;"⟩
abbrev cJ5_append_3fe6f : ByteArray := prog_8_method_31_code
def yJ5_append_3fe6f : MethodName := ⟨RJ5, "append", "(C)Ljava/lang/AbstractStringBuilder;"⟩
abbrev cJ5_append_c97b9 : ByteArray := prog_8_method_32_code
def yJ5_append_c97b9 : MethodName := ⟨RJ5, "append", "(I)Ljava/lang/AbstractStringBuilder;"⟩
abbrev cJ5_getValue_6d5f1 : ByteArray := prog_8_method_64_code
def yJ5_getValue_6d5f1 : MethodName := ⟨RJ5, "getValue", "()[B"⟩
abbrev cJ5_isLatin1_aae02 : ByteArray := prog_8_method_68_code
def yJ5_isLatin1_aae02 : MethodName := ⟨RJ5, "isLatin1", "()Z"⟩
abbrev cJ5_inflateIfNeededFor_a7421 : ByteArray := prog_8_method_71_code
def yJ5_inflateIfNeededFor_a7421 : MethodName := ⟨RJ5, "inflateIfNeededFor", "(Ljava/lang/String;)V"⟩
abbrev cJ5_putStringAt_47b60 : ByteArray := prog_8_method_73_code
def yJ5_putStringAt_47b60 : MethodName := ⟨RJ5, "putStringAt", "(ILjava/lang/String;)V"⟩
def RJx2cfe8 : String := "java/lang/Appendable"
def TJx2cfe8 : u_T := fun k => match k with
  | _ => ("", "", "", false)
def tyJx2cfe8 : Nat → FieldType := fun k => match k with
  | _ => .int
theorem nmJx2cfe8 : ∀ a, a < 0 → ∀ b, b < 0 → a ≠ b → (TJx2cfe8 a).2.1 ≠ (TJx2cfe8 b).2.1 := by decide +kernel
theorem tyJx2cfe8_ok : ∀ k, k < 0 → parseFieldDescriptor (TJx2cfe8 k).2.2.1 = some (tyJx2cfe8 k) := by decide +kernel
def RJx00060 : String := "java/lang/ArrayIndexOutOfBoundsException"
def TJx00060 : u_T := fun k => match k with
  | 0 => ("java/lang/Throwable", "backtrace", "Ljava/lang/Object;", false)
  | 1 => ("java/lang/Throwable", "detailMessage", "Ljava/lang/String;", false)
  | 2 => ("java/lang/Throwable", "cause", "Ljava/lang/Throwable;", false)
  | 3 => ("java/lang/Throwable", "stackTrace", "[Ljava/lang/StackTraceElement;", false)
  | 4 => ("java/lang/Throwable", "depth", "I", false)
  | _ => ("java/lang/Throwable", "suppressedExceptions", "Ljava/util/List;", false)
def tyJx00060 : Nat → FieldType := fun k => match k with
  | 0 => .object "java/lang/Object"
  | 1 => .object "java/lang/String"
  | 2 => .object "java/lang/Throwable"
  | 3 => .array (.object "java/lang/StackTraceElement")
  | 4 => .int
  | _ => .object "java/util/List"
theorem nmJx00060 : ∀ a, a < 6 → ∀ b, b < 6 → a ≠ b → (TJx00060 a).2.1 ≠ (TJx00060 b).2.1 := by decide +kernel
theorem tyJx00060_ok : ∀ k, k < 6 → parseFieldDescriptor (TJx00060 k).2.2.1 = some (tyJx00060 k) := by decide +kernel
abbrev cJx00060_init_a7421 : ByteArray := prog_10_method_2_code
def yJx00060_init_a7421 : MethodName := ⟨RJx00060, "<init>", "(Ljava/lang/String;)V"⟩
abbrev cJx00060_init_d00df : ByteArray := prog_10_method_3_code
def yJx00060_init_d00df : MethodName := ⟨RJx00060, "<init>", "(I)V"⟩
def RJx9f9b0 : String := "java/lang/CharSequence"
def TJx9f9b0 : u_T := fun k => match k with
  | _ => ("", "", "", false)
def tyJx9f9b0 : Nat → FieldType := fun k => match k with
  | _ => .int
theorem nmJx9f9b0 : ∀ a, a < 0 → ∀ b, b < 0 → a ≠ b → (TJx9f9b0 a).2.1 ≠ (TJx9f9b0 b).2.1 := by decide +kernel
theorem tyJx9f9b0_ok : ∀ k, k < 0 → parseFieldDescriptor (TJx9f9b0 k).2.2.1 = some (tyJx9f9b0 k) := by decide +kernel
def RJx8e188 : String := "java/lang/Cloneable"
def TJx8e188 : u_T := fun k => match k with
  | _ => ("", "", "", false)
def tyJx8e188 : Nat → FieldType := fun k => match k with
  | _ => .int
theorem nmJx8e188 : ∀ a, a < 0 → ∀ b, b < 0 → a ≠ b → (TJx8e188 a).2.1 ≠ (TJx8e188 b).2.1 := by decide +kernel
theorem tyJx8e188_ok : ∀ k, k < 0 → parseFieldDescriptor (TJx8e188 k).2.2.1 = some (tyJx8e188 k) := by decide +kernel
def RJxb160c : String := "java/lang/Comparable"
def TJxb160c : u_T := fun k => match k with
  | _ => ("", "", "", false)
def tyJxb160c : Nat → FieldType := fun k => match k with
  | _ => .int
theorem nmJxb160c : ∀ a, a < 0 → ∀ b, b < 0 → a ≠ b → (TJxb160c a).2.1 ≠ (TJxb160c b).2.1 := by decide +kernel
theorem tyJxb160c_ok : ∀ k, k < 0 → parseFieldDescriptor (TJxb160c k).2.2.1 = some (tyJxb160c k) := by decide +kernel
def RJ6 : String := "java/lang/Integer"
def TJ6 : u_T := fun k => match k with
  | _ => ("", "", "", false)
def tyJ6 : Nat → FieldType := fun k => match k with
  | _ => .int
theorem nmJ6 : ∀ a, a < 0 → ∀ b, b < 0 → a ≠ b → (TJ6 a).2.1 ≠ (TJ6 b).2.1 := by decide +kernel
theorem tyJ6_ok : ∀ k, k < 0 → parseFieldDescriptor (TJ6 k).2.2.1 = some (tyJ6 k) := by decide +kernel
abbrev cJ6_getChars_ba4f3 : ByteArray := prog_18_method_12_code
def yJ6_getChars_ba4f3 : MethodName := ⟨RJ6, "getChars", "(II[B)I"⟩
abbrev cJ6_stringSize_0f7a4 : ByteArray := prog_18_method_13_code
def yJ6_stringSize_0f7a4 : MethodName := ⟨RJ6, "stringSize", "(I)I"⟩
def RJ13 : String := "java/lang/Long"
def TJ13 : u_T := fun k => match k with
  | _ => ("", "", "", false)
def tyJ13 : Nat → FieldType := fun k => match k with
  | _ => .int
theorem nmJ13 : ∀ a, a < 0 → ∀ b, b < 0 → a ≠ b → (TJ13 a).2.1 ≠ (TJ13 b).2.1 := by decide +kernel
theorem tyJ13_ok : ∀ k, k < 0 → parseFieldDescriptor (TJ13 k).2.2.1 = some (tyJ13 k) := by decide +kernel
abbrev cJ13_bitCount_95d88 : ByteArray := prog_19_method_50_code
def yJ13_bitCount_95d88 : MethodName := ⟨RJ13, "bitCount", "(J)I"⟩
def RJ9 : String := "java/lang/Math"
def TJ9 : u_T := fun k => match k with
  | _ => ("", "", "", false)
def tyJ9 : Nat → FieldType := fun k => match k with
  | _ => .int
theorem nmJ9 : ∀ a, a < 0 → ∀ b, b < 0 → a ≠ b → (TJ9 a).2.1 ≠ (TJ9 b).2.1 := by decide +kernel
theorem tyJ9_ok : ∀ k, k < 0 → parseFieldDescriptor (TJ9 k).2.2.1 = some (tyJ9 k) := by decide +kernel
abbrev cJ9_max_7cf53 : ByteArray := prog_20_method_65_code
def yJ9_max_7cf53 : MethodName := ⟨RJ9, "max", "(II)I"⟩
abbrev cJ9_min_7cf53 : ByteArray := prog_20_method_69_code
def yJ9_min_7cf53 : MethodName := ⟨RJ9, "min", "(II)I"⟩
def RJxd2413 : String := "java/lang/Number"
def TJxd2413 : u_T := fun k => match k with
  | _ => ("", "", "", false)
def tyJxd2413 : Nat → FieldType := fun k => match k with
  | _ => .int
theorem nmJxd2413 : ∀ a, a < 0 → ∀ b, b < 0 → a ≠ b → (TJxd2413 a).2.1 ≠ (TJxd2413 b).2.1 := by decide +kernel
theorem tyJxd2413_ok : ∀ k, k < 0 → parseFieldDescriptor (TJxd2413 k).2.2.1 = some (tyJxd2413 k) := by decide +kernel
def RJ0 : String := "java/lang/String"
def TJ0 : u_T := fun k => match k with
  | 0 => ("java/lang/String", "value", "[B", true)
  | 1 => ("java/lang/String", "coder", "B", true)
  | 2 => ("java/lang/String", "hash", "I", false)
  | _ => ("java/lang/String", "hashIsZero", "Z", false)
def tyJ0 : Nat → FieldType := fun k => match k with
  | 0 => .array .byte
  | 1 => .byte
  | 2 => .int
  | _ => .boolean
theorem nmJ0 : ∀ a, a < 4 → ∀ b, b < 4 → a ≠ b → (TJ0 a).2.1 ≠ (TJ0 b).2.1 := by decide +kernel
theorem tyJ0_ok : ∀ k, k < 4 → parseFieldDescriptor (TJ0 k).2.2.1 = some (tyJ0 k) := by decide +kernel
abbrev cJ0_init_81219 : ByteArray := prog_23_method_53_code
def yJ0_init_81219 : MethodName := ⟨RJ0, "<init>", "(Ljava/lang/StringBuilder;)V"⟩
abbrev cJ0_length_8abf5 : ByteArray := prog_23_method_54_code
def yJ0_length_8abf5 : MethodName := ⟨RJ0, "length", "()I"⟩
abbrev cJ0_getBytes_840e7 : ByteArray := prog_23_method_147_code
def yJ0_getBytes_840e7 : MethodName := ⟨RJ0, "getBytes", "([BIB)V"⟩
abbrev cJ0_init_db425 : ByteArray := prog_23_method_150_code
def yJ0_init_db425 : MethodName := ⟨RJ0, "<init>", "(Ljava/lang/AbstractStringBuilder;Ljava/lang/Void;)V"⟩
abbrev cJ0_coder_7d493 : ByteArray := prog_23_method_152_code
def yJ0_coder_7d493 : MethodName := ⟨RJ0, "coder", "()B"⟩
abbrev cJ0_checkIndex_df160 : ByteArray := prog_23_method_155_code
def yJ0_checkIndex_df160 : MethodName := ⟨RJ0, "checkIndex", "(II)V"⟩
abbrev cJ0_checkBoundsOffCount_cabcc : ByteArray := prog_23_method_157_code
def yJ0_checkBoundsOffCount_cabcc : MethodName := ⟨RJ0, "checkBoundsOffCount", "(III)I"⟩
abbrev cJ0_checkBoundsBeginEnd_23922 : ByteArray := prog_23_method_158_code
def yJ0_checkBoundsBeginEnd_23922 : MethodName := ⟨RJ0, "checkBoundsBeginEnd", "(III)V"⟩
def RJ4 : String := "java/lang/StringBuilder"
def TJ4 : u_T := fun k => match k with
  | 0 => ("java/lang/AbstractStringBuilder", "value", "[B", false)
  | 1 => ("java/lang/AbstractStringBuilder", "coder", "B", false)
  | 2 => ("java/lang/AbstractStringBuilder", "maybeLatin1", "Z", false)
  | _ => ("java/lang/AbstractStringBuilder", "count", "I", false)
def tyJ4 : Nat → FieldType := fun k => match k with
  | 0 => .array .byte
  | 1 => .byte
  | 2 => .boolean
  | _ => .int
theorem nmJ4 : ∀ a, a < 4 → ∀ b, b < 4 → a ≠ b → (TJ4 a).2.1 ≠ (TJ4 b).2.1 := by decide +kernel
theorem tyJ4_ok : ∀ k, k < 4 → parseFieldDescriptor (TJ4 k).2.2.1 = some (tyJ4 k) := by decide +kernel
abbrev cJ4_init_da8c8 : ByteArray := prog_24_method_1_code
def yJ4_init_da8c8 : MethodName := ⟨RJ4, "<init>", "()V"⟩
abbrev cJ4_append_15ec4 : ByteArray := prog_24_method_7_code
def yJ4_append_15ec4 : MethodName := ⟨RJ4, "append", "(Ljava/lang/String;)Ljava/lang/StringBuilder;"⟩
abbrev cJ4_append_cf468 : ByteArray := prog_24_method_14_code
def yJ4_append_cf468 : MethodName := ⟨RJ4, "append", "(C)Ljava/lang/StringBuilder;"⟩
abbrev cJ4_append_bf812 : ByteArray := prog_24_method_15_code
def yJ4_append_bf812 : MethodName := ⟨RJ4, "append", "(I)Ljava/lang/StringBuilder;"⟩
abbrev cJ4_toString_0e30d : ByteArray := prog_24_method_42_code
def yJ4_toString_0e30d : MethodName := ⟨RJ4, "toString", "()Ljava/lang/String;"⟩
abbrev cJ4_charAt_5068e : ByteArray := prog_24_method_88_code
def yJ4_charAt_5068e : MethodName := ⟨RJ4, "charAt", "(I)C"⟩
abbrev cJ4_setLength_d00df : ByteArray := prog_24_method_89_code
def yJ4_setLength_d00df : MethodName := ⟨RJ4, "setLength", "(I)V"⟩
abbrev cJ4_length_8abf5 : ByteArray := prog_24_method_93_code
def yJ4_length_8abf5 : MethodName := ⟨RJ4, "length", "()I"⟩
def RJx7c733 : String := "java/lang/StringIndexOutOfBoundsException"
def TJx7c733 : u_T := fun k => match k with
  | 0 => ("java/lang/Throwable", "backtrace", "Ljava/lang/Object;", false)
  | 1 => ("java/lang/Throwable", "detailMessage", "Ljava/lang/String;", false)
  | 2 => ("java/lang/Throwable", "cause", "Ljava/lang/Throwable;", false)
  | 3 => ("java/lang/Throwable", "stackTrace", "[Ljava/lang/StackTraceElement;", false)
  | 4 => ("java/lang/Throwable", "depth", "I", false)
  | _ => ("java/lang/Throwable", "suppressedExceptions", "Ljava/util/List;", false)
def tyJx7c733 : Nat → FieldType := fun k => match k with
  | 0 => .object "java/lang/Object"
  | 1 => .object "java/lang/String"
  | 2 => .object "java/lang/Throwable"
  | 3 => .array (.object "java/lang/StackTraceElement")
  | 4 => .int
  | _ => .object "java/util/List"
theorem nmJx7c733 : ∀ a, a < 6 → ∀ b, b < 6 → a ≠ b → (TJx7c733 a).2.1 ≠ (TJx7c733 b).2.1 := by decide +kernel
theorem tyJx7c733_ok : ∀ k, k < 6 → parseFieldDescriptor (TJx7c733 k).2.2.1 = some (tyJx7c733 k) := by decide +kernel
abbrev cJx7c733_init_d00df : ByteArray := prog_25_method_3_code
def yJx7c733_init_d00df : MethodName := ⟨RJx7c733, "<init>", "(I)V"⟩
def RJ1 : String := "java/lang/StringLatin1"
def TJ1 : u_T := fun k => match k with
  | _ => ("", "", "", false)
def tyJ1 : Nat → FieldType := fun k => match k with
  | _ => .int
theorem nmJ1 : ∀ a, a < 0 → ∀ b, b < 0 → a ≠ b → (TJ1 a).2.1 ≠ (TJ1 b).2.1 := by decide +kernel
theorem tyJ1_ok : ∀ k, k < 0 → parseFieldDescriptor (TJ1 k).2.2.1 = some (tyJ1 k) := by decide +kernel
abbrev cJ1_canEncode_fc78d : ByteArray := prog_26_method_3_code
def yJ1_canEncode_fc78d : MethodName := ⟨RJ1, "canEncode", "(C)Z"⟩
abbrev cJ1_fillNull_b72d1 : ByteArray := prog_26_method_48_code
def yJ1_fillNull_b72d1 : MethodName := ⟨RJ1, "fillNull", "([BII)V"⟩
abbrev cJ1_inflate_0e8fd : ByteArray := prog_26_method_50_code
def yJ1_inflate_0e8fd : MethodName := ⟨RJ1, "inflate", "([BI[BII)V"⟩
def RJ2 : String := "java/lang/StringUTF16"
def TJ2 : u_T := fun k => match k with
  | _ => ("", "", "", false)
def tyJ2 : Nat → FieldType := fun k => match k with
  | _ => .int
theorem nmJ2 : ∀ a, a < 0 → ∀ b, b < 0 → a ≠ b → (TJ2 a).2.1 ≠ (TJ2 b).2.1 := by decide +kernel
theorem tyJ2_ok : ∀ k, k < 0 → parseFieldDescriptor (TJ2 k).2.2.1 = some (tyJ2 k) := by decide +kernel
abbrev cJ2_newBytesFor_77867 : ByteArray := prog_27_method_2_code
def yJ2_newBytesFor_77867 : MethodName := ⟨RJ2, "newBytesFor", "(I)[B"⟩
abbrev cJ2_newBytesLength_0f7a4 : ByteArray := prog_27_method_3_code
def yJ2_newBytesLength_0f7a4 : MethodName := ⟨RJ2, "newBytesLength", "(I)I"⟩
abbrev cJ2_putChar_b72d1 : ByteArray := prog_27_method_4_code
def yJ2_putChar_b72d1 : MethodName := ⟨RJ2, "putChar", "([BII)V"⟩
abbrev cJ2_getChar_3b067 : ByteArray := prog_27_method_5_code
def yJ2_getChar_3b067 : MethodName := ⟨RJ2, "getChar", "([BI)C"⟩
abbrev cJ2_length_9d52b : ByteArray := prog_27_method_6_code
def yJ2_length_9d52b : MethodName := ⟨RJ2, "length", "([B)I"⟩
abbrev cJ2_coderFromArrayLen_85cad : ByteArray := prog_27_method_15_code
def yJ2_coderFromArrayLen_85cad : MethodName := ⟨RJ2, "coderFromArrayLen", "([BI)B"⟩
abbrev cJ2_compress_39247 : ByteArray := prog_27_method_17_code
def yJ2_compress_39247 : MethodName := ⟨RJ2, "compress", "([BII)[B"⟩
abbrev cJ2_compress_5af95 : ByteArray := prog_27_method_22_code
def yJ2_compress_5af95 : MethodName := ⟨RJ2, "compress", "([BI[BII)I"⟩
abbrev cJ2_fillNull_b72d1 : ByteArray := prog_27_method_70_code
def yJ2_fillNull_b72d1 : MethodName := ⟨RJ2, "fillNull", "([BII)V"⟩
abbrev cJ2_putCharSB_b72d1 : ByteArray := prog_27_method_71_code
def yJ2_putCharSB_b72d1 : MethodName := ⟨RJ2, "putCharSB", "([BII)V"⟩
abbrev cJ2_getChars_46870 : ByteArray := prog_27_method_77_code
def yJ2_getChars_46870 : MethodName := ⟨RJ2, "getChars", "(III[B)I"⟩
abbrev cJ2_putCharsAt_cd4e5 : ByteArray := prog_27_method_81_code
def yJ2_putCharsAt_cd4e5 : MethodName := ⟨RJ2, "putCharsAt", "([BICCCC)I"⟩
abbrev cJ2_inflate_0e8fd : ByteArray := prog_27_method_86_code
def yJ2_inflate_0e8fd : MethodName := ⟨RJ2, "inflate", "([BI[BII)V"⟩
abbrev cJ2_getChars_ba4f3 : ByteArray := prog_27_method_89_code
def yJ2_getChars_ba4f3 : MethodName := ⟨RJ2, "getChars", "(II[B)I"⟩
abbrev cJ2_checkIndex_2214a : ByteArray := prog_27_method_91_code
def yJ2_checkIndex_2214a : MethodName := ⟨RJ2, "checkIndex", "(I[B)V"⟩
abbrev cJ2_checkBoundsBeginEnd_d044e : ByteArray := prog_27_method_93_code
def yJ2_checkBoundsBeginEnd_d044e : MethodName := ⟨RJ2, "checkBoundsBeginEnd", "(II[B)V"⟩
abbrev cJ2_checkBoundsOffCount_d044e : ByteArray := prog_27_method_94_code
def yJ2_checkBoundsOffCount_d044e : MethodName := ⟨RJ2, "checkBoundsOffCount", "(II[B)V"⟩
def RJ10 : String := "java/lang/System"
def TJ10 : u_T := fun k => match k with
  | _ => ("", "", "", false)
def tyJ10 : Nat → FieldType := fun k => match k with
  | _ => .int
theorem nmJ10 : ∀ a, a < 0 → ∀ b, b < 0 → a ≠ b → (TJ10 a).2.1 ≠ (TJ10 b).2.1 := by decide +kernel
theorem tyJ10_ok : ∀ k, k < 0 → parseFieldDescriptor (TJ10 k).2.2.1 = some (tyJ10 k) := by decide +kernel
def RJxfd54e : String := "java/lang/constant/Constable"
def TJxfd54e : u_T := fun k => match k with
  | _ => ("", "", "", false)
def tyJxfd54e : Nat → FieldType := fun k => match k with
  | _ => .int
theorem nmJxfd54e : ∀ a, a < 0 → ∀ b, b < 0 → a ≠ b → (TJxfd54e a).2.1 ≠ (TJxfd54e b).2.1 := by decide +kernel
theorem tyJxfd54e_ok : ∀ k, k < 0 → parseFieldDescriptor (TJxfd54e k).2.2.1 = some (tyJxfd54e k) := by decide +kernel
def RJx3cf43 : String := "java/lang/constant/ConstantDesc"
def TJx3cf43 : u_T := fun k => match k with
  | _ => ("", "", "", false)
def tyJx3cf43 : Nat → FieldType := fun k => match k with
  | _ => .int
theorem nmJx3cf43 : ∀ a, a < 0 → ∀ b, b < 0 → a ≠ b → (TJx3cf43 a).2.1 ≠ (TJx3cf43 b).2.1 := by decide +kernel
theorem tyJx3cf43_ok : ∀ k, k < 0 → parseFieldDescriptor (TJx3cf43 k).2.2.1 = some (tyJx3cf43 k) := by decide +kernel
def RJ7 : String := "java/util/Arrays"
def TJ7 : u_T := fun k => match k with
  | _ => ("", "", "", false)
def tyJ7 : Nat → FieldType := fun k => match k with
  | _ => .int
theorem nmJ7 : ∀ a, a < 0 → ∀ b, b < 0 → a ≠ b → (TJ7 a).2.1 ≠ (TJ7 b).2.1 := by decide +kernel
theorem tyJ7_ok : ∀ k, k < 0 → parseFieldDescriptor (TJ7 k).2.2.1 = some (tyJ7 k) := by decide +kernel
abbrev cJ7_rangeCheck_23922 : ByteArray := prog_33_method_30_code
def yJ7_rangeCheck_23922 : MethodName := ⟨RJ7, "rangeCheck", "(III)V"⟩
abbrev cJ7_fill_53178 : ByteArray := prog_33_method_103_code
def yJ7_fill_53178 : MethodName := ⟨RJ7, "fill", "([II)V"⟩
abbrev cJ7_fill_eb02e : ByteArray := prog_33_method_110_code
def yJ7_fill_eb02e : MethodName := ⟨RJ7, "fill", "([BIIB)V"⟩
abbrev cJ7_copyOf_9075b : ByteArray := prog_33_method_121_code
def yJ7_copyOf_9075b : MethodName := ⟨RJ7, "copyOf", "([BI)[B"⟩
abbrev cJ7_checkLength_df160 : ByteArray := prog_33_method_131_code
def yJ7_checkLength_df160 : MethodName := ⟨RJ7, "checkLength", "(II)V"⟩
abbrev cJ7_copyOfRange_39247 : ByteArray := prog_33_method_132_code
def yJ7_copyOfRange_39247 : MethodName := ⟨RJ7, "copyOfRange", "([BII)[B"⟩
abbrev cJ7_copyOfRangeByte_39247 : ByteArray := prog_33_method_133_code
def yJ7_copyOfRangeByte_39247 : MethodName := ⟨RJ7, "copyOfRangeByte", "([BII)[B"⟩
def RJ8 : String := "jdk/internal/util/ArraysSupport"
def TJ8 : u_T := fun k => match k with
  | _ => ("", "", "", false)
def tyJ8 : Nat → FieldType := fun k => match k with
  | _ => .int
theorem nmJ8 : ∀ a, a < 0 → ∀ b, b < 0 → a ≠ b → (TJ8 a).2.1 ≠ (TJ8 b).2.1 := by decide +kernel
theorem tyJ8_ok : ∀ k, k < 0 → parseFieldDescriptor (TJ8 k).2.2.1 = some (tyJ8 k) := by decide +kernel
abbrev cJ8_newLength_cabcc : ByteArray := prog_35_method_27_code
def yJ8_newLength_cabcc : MethodName := ⟨RJ8, "newLength", "(III)I"⟩
abbrev cJ8_hugeLength_7cf53 : ByteArray := prog_35_method_28_code
def yJ8_hugeLength_7cf53 : MethodName := ⟨RJ8, "hugeLength", "(II)I"⟩
def RJ3 : String := "jdk/internal/util/Preconditions"
def TJ3 : u_T := fun k => match k with
  | _ => ("", "", "", false)
def tyJ3 : Nat → FieldType := fun k => match k with
  | _ => .int
theorem nmJ3 : ∀ a, a < 0 → ∀ b, b < 0 → a ≠ b → (TJ3 a).2.1 ≠ (TJ3 b).2.1 := by decide +kernel
theorem tyJ3_ok : ∀ k, k < 0 → parseFieldDescriptor (TJ3 k).2.2.1 = some (tyJ3 k) := by decide +kernel
abbrev cJ3_checkIndex_8e157 : ByteArray := prog_36_method_11_code
def yJ3_checkIndex_8e157 : MethodName := ⟨RJ3, "checkIndex", "(IILjava/util/function/BiFunction;)I"⟩
abbrev cJ3_checkFromToIndex_8c36e : ByteArray := prog_36_method_12_code
def yJ3_checkFromToIndex_8c36e : MethodName := ⟨RJ3, "checkFromToIndex", "(IIILjava/util/function/BiFunction;)I"⟩
abbrev cJ3_checkFromIndexSize_8c36e : ByteArray := prog_36_method_13_code
def yJ3_checkFromIndexSize_8c36e : MethodName := ⟨RJ3, "checkFromIndexSize", "(IIILjava/util/function/BiFunction;)I"⟩
def RL : String := "InodeCouncilLaw"
abbrev cL_cell : ByteArray := method_2_code
def yL_cell : MethodName := ⟨RL, "cell", "([II)I"⟩
abbrev cL_low : ByteArray := method_3_code
def yL_low : MethodName := ⟨RL, "low", "(II)I"⟩
abbrev cL_call : ByteArray := method_4_code
def yL_call : MethodName := ⟨RL, "call", "(LInodeCouncil;IIII)I"⟩
abbrev cL_state : ByteArray := method_5_code
def yL_state : MethodName := ⟨RL, "state", "(LInodeCouncil;III)J"⟩
abbrev cL_sound : ByteArray := method_6_code
def yL_sound : MethodName := ⟨RL, "sound", "(LInodeCouncil;I[I)Z"⟩
abbrev cL_law : ByteArray := code
def yL_law : MethodName := ⟨RL, "law", "([I)Z"⟩
abbrev vwCl : List vw_C := [(RJ0, TJ0, 4), (RJ4, TJ4, 4), (RJx00060, TJx00060, 6), (RJx7c733, TJx7c733, 6), (RX0, TX0, 4), (RX1, TX1, 7), (RX2, TX2, 9), (RX3, TX3, 11)]
end
section
theorem dX0_init_0 : decode cX0_init 0 = .ok (.aload_n 0, 1) := by decide +kernel
theorem dX0_init_1 : decode cX0_init 1 = .ok (.invokespecial 3, 3) := by decide +kernel
theorem dX0_init_4 : decode cX0_init 4 = .ok (.aload_n 0, 1) := by decide +kernel
theorem dX0_init_5 : decode cX0_init 5 = .ok (.iconst 0, 1) := by decide +kernel
theorem dX0_init_6 : decode cX0_init 6 = .ok (.putfield 9, 3) := by decide +kernel
theorem dX0_init_9 : decode cX0_init 9 = .ok (.aload_n 0, 1) := by decide +kernel
theorem dX0_init_10 : decode cX0_init 10 = .ok (.bipush 30, 2) := by decide +kernel
theorem dX0_init_12 : decode cX0_init 12 = .ok (.newarray .int, 2) := by decide +kernel
theorem dX0_init_14 : decode cX0_init 14 = .ok (.putfield 15, 3) := by decide +kernel
theorem dX0_init_17 : decode cX0_init 17 = .ok (.aload_n 0, 1) := by decide +kernel
theorem dX0_init_18 : decode cX0_init 18 = .ok (.bipush 30, 2) := by decide +kernel
theorem dX0_init_20 : decode cX0_init 20 = .ok (.newarray .int, 2) := by decide +kernel
theorem dX0_init_22 : decode cX0_init 22 = .ok (.putfield 19, 3) := by decide +kernel
theorem dX0_init_25 : decode cX0_init 25 = .ok (.aload_n 0, 1) := by decide +kernel
theorem dX0_init_26 : decode cX0_init 26 = .ok (.bipush 30, 2) := by decide +kernel
theorem dX0_init_28 : decode cX0_init 28 = .ok (.newarray .boolean, 2) := by decide +kernel
theorem dX0_init_30 : decode cX0_init 30 = .ok (.putfield 22, 3) := by decide +kernel
theorem dX0_init_33 : decode cX0_init 33 = .ok (.return_, 1) := by decide +kernel
theorem dX0_openedTotal_0 : decode cX0_openedTotal 0 = .ok (.aload_n 0, 1) := by decide +kernel
theorem dX0_openedTotal_1 : decode cX0_openedTotal 1 = .ok (.getfield 9, 3) := by decide +kernel
theorem dX0_openedTotal_4 : decode cX0_openedTotal 4 = .ok (.ireturn, 1) := by decide +kernel
theorem dX0_wasOpened_0 : decode cX0_wasOpened 0 = .ok (.iload_n 1, 1) := by decide +kernel
theorem dX0_wasOpened_1 : decode cX0_wasOpened 1 = .ok (.ifCond .lt 21, 3) := by decide +kernel
theorem dX0_wasOpened_4 : decode cX0_wasOpened 4 = .ok (.iload_n 1, 1) := by decide +kernel
theorem dX0_wasOpened_5 : decode cX0_wasOpened 5 = .ok (.aload_n 0, 1) := by decide +kernel
theorem dX0_wasOpened_6 : decode cX0_wasOpened 6 = .ok (.getfield 9, 3) := by decide +kernel
theorem dX0_wasOpened_9 : decode cX0_wasOpened 9 = .ok (.if_icmp .ge 13, 3) := by decide +kernel
theorem dX0_wasOpened_12 : decode cX0_wasOpened 12 = .ok (.iload_n 1, 1) := by decide +kernel
theorem dX0_wasOpened_13 : decode cX0_wasOpened 13 = .ok (.bipush 30, 2) := by decide +kernel
theorem dX0_wasOpened_15 : decode cX0_wasOpened 15 = .ok (.if_icmp .ge 7, 3) := by decide +kernel
theorem dX0_wasOpened_18 : decode cX0_wasOpened 18 = .ok (.iconst 1, 1) := by decide +kernel
theorem dX0_wasOpened_19 : decode cX0_wasOpened 19 = .ok (.goto 4, 3) := by decide +kernel
theorem dX0_wasOpened_22 : decode cX0_wasOpened 22 = .ok (.iconst 0, 1) := by decide +kernel
theorem dX0_wasOpened_23 : decode cX0_wasOpened 23 = .ok (.ireturn, 1) := by decide +kernel
theorem dX0_isStillOpen_0 : decode cX0_isStillOpen 0 = .ok (.aload_n 0, 1) := by decide +kernel
theorem dX0_isStillOpen_1 : decode cX0_isStillOpen 1 = .ok (.iload_n 1, 1) := by decide +kernel
theorem dX0_isStillOpen_2 : decode cX0_isStillOpen 2 = .ok (.invokevirtual 26, 3) := by decide +kernel
theorem dX0_isStillOpen_5 : decode cX0_isStillOpen 5 = .ok (.ifCond .eq 16, 3) := by decide +kernel
theorem dX0_isStillOpen_8 : decode cX0_isStillOpen 8 = .ok (.aload_n 0, 1) := by decide +kernel
theorem dX0_isStillOpen_9 : decode cX0_isStillOpen 9 = .ok (.getfield 22, 3) := by decide +kernel
theorem dX0_isStillOpen_12 : decode cX0_isStillOpen 12 = .ok (.iload_n 1, 1) := by decide +kernel
theorem dX0_isStillOpen_13 : decode cX0_isStillOpen 13 = .ok (.baload, 1) := by decide +kernel
theorem dX0_isStillOpen_14 : decode cX0_isStillOpen 14 = .ok (.ifCond .eq 7, 3) := by decide +kernel
theorem dX0_isStillOpen_17 : decode cX0_isStillOpen 17 = .ok (.iconst 1, 1) := by decide +kernel
theorem dX0_isStillOpen_18 : decode cX0_isStillOpen 18 = .ok (.goto 4, 3) := by decide +kernel
theorem dX0_isStillOpen_21 : decode cX0_isStillOpen 21 = .ok (.iconst 0, 1) := by decide +kernel
theorem dX0_isStillOpen_22 : decode cX0_isStillOpen 22 = .ok (.ireturn, 1) := by decide +kernel
theorem dX0_fileOf_0 : decode cX0_fileOf 0 = .ok (.aload_n 0, 1) := by decide +kernel
theorem dX0_fileOf_1 : decode cX0_fileOf 1 = .ok (.iload_n 1, 1) := by decide +kernel
theorem dX0_fileOf_2 : decode cX0_fileOf 2 = .ok (.invokevirtual 26, 3) := by decide +kernel
theorem dX0_fileOf_5 : decode cX0_fileOf 5 = .ok (.ifCond .eq 12, 3) := by decide +kernel
theorem dX0_fileOf_8 : decode cX0_fileOf 8 = .ok (.aload_n 0, 1) := by decide +kernel
theorem dX0_fileOf_9 : decode cX0_fileOf 9 = .ok (.getfield 15, 3) := by decide +kernel
theorem dX0_fileOf_12 : decode cX0_fileOf 12 = .ok (.iload_n 1, 1) := by decide +kernel
theorem dX0_fileOf_13 : decode cX0_fileOf 13 = .ok (.iaload, 1) := by decide +kernel
theorem dX0_fileOf_14 : decode cX0_fileOf 14 = .ok (.goto 4, 3) := by decide +kernel
theorem dX0_fileOf_17 : decode cX0_fileOf 17 = .ok (.iconst (-1), 1) := by decide +kernel
theorem dX0_fileOf_18 : decode cX0_fileOf 18 = .ok (.ireturn, 1) := by decide +kernel
theorem dX0_endOf_0 : decode cX0_endOf 0 = .ok (.aload_n 0, 1) := by decide +kernel
theorem dX0_endOf_1 : decode cX0_endOf 1 = .ok (.iload_n 1, 1) := by decide +kernel
theorem dX0_endOf_2 : decode cX0_endOf 2 = .ok (.invokevirtual 26, 3) := by decide +kernel
theorem dX0_endOf_5 : decode cX0_endOf 5 = .ok (.ifCond .eq 12, 3) := by decide +kernel
theorem dX0_endOf_8 : decode cX0_endOf 8 = .ok (.aload_n 0, 1) := by decide +kernel
theorem dX0_endOf_9 : decode cX0_endOf 9 = .ok (.getfield 19, 3) := by decide +kernel
theorem dX0_endOf_12 : decode cX0_endOf 12 = .ok (.iload_n 1, 1) := by decide +kernel
theorem dX0_endOf_13 : decode cX0_endOf 13 = .ok (.iaload, 1) := by decide +kernel
theorem dX0_endOf_14 : decode cX0_endOf 14 = .ok (.goto 4, 3) := by decide +kernel
theorem dX0_endOf_17 : decode cX0_endOf 17 = .ok (.iconst (-1), 1) := by decide +kernel
theorem dX0_endOf_18 : decode cX0_endOf 18 = .ok (.ireturn, 1) := by decide +kernel
theorem dX0_add_0 : decode cX0_add 0 = .ok (.aload_n 0, 1) := by decide +kernel
theorem dX0_add_1 : decode cX0_add 1 = .ok (.getfield 9, 3) := by decide +kernel
theorem dX0_add_4 : decode cX0_add 4 = .ok (.bipush 30, 2) := by decide +kernel
theorem dX0_add_6 : decode cX0_add 6 = .ok (.if_icmp .lt 5, 3) := by decide +kernel
theorem dX0_add_9 : decode cX0_add 9 = .ok (.iconst (-1), 1) := by decide +kernel
theorem dX0_add_10 : decode cX0_add 10 = .ok (.ireturn, 1) := by decide +kernel
theorem dX0_add_11 : decode cX0_add 11 = .ok (.aload_n 0, 1) := by decide +kernel
theorem dX0_add_12 : decode cX0_add 12 = .ok (.getfield 9, 3) := by decide +kernel
theorem dX0_add_15 : decode cX0_add 15 = .ok (.istore_n 3, 1) := by decide +kernel
theorem dX0_add_16 : decode cX0_add 16 = .ok (.aload_n 0, 1) := by decide +kernel
theorem dX0_add_17 : decode cX0_add 17 = .ok (.getfield 15, 3) := by decide +kernel
theorem dX0_add_20 : decode cX0_add 20 = .ok (.iload_n 3, 1) := by decide +kernel
theorem dX0_add_21 : decode cX0_add 21 = .ok (.iload_n 1, 1) := by decide +kernel
theorem dX0_add_22 : decode cX0_add 22 = .ok (.iastore, 1) := by decide +kernel
theorem dX0_add_23 : decode cX0_add 23 = .ok (.aload_n 0, 1) := by decide +kernel
theorem dX0_add_24 : decode cX0_add 24 = .ok (.getfield 19, 3) := by decide +kernel
theorem dX0_add_27 : decode cX0_add 27 = .ok (.iload_n 3, 1) := by decide +kernel
theorem dX0_add_28 : decode cX0_add 28 = .ok (.iload_n 2, 1) := by decide +kernel
theorem dX0_add_29 : decode cX0_add 29 = .ok (.iastore, 1) := by decide +kernel
theorem dX0_add_30 : decode cX0_add 30 = .ok (.aload_n 0, 1) := by decide +kernel
theorem dX0_add_31 : decode cX0_add 31 = .ok (.getfield 22, 3) := by decide +kernel
theorem dX0_add_34 : decode cX0_add 34 = .ok (.iload_n 3, 1) := by decide +kernel
theorem dX0_add_35 : decode cX0_add 35 = .ok (.iconst 1, 1) := by decide +kernel
theorem dX0_add_36 : decode cX0_add 36 = .ok (.bastore, 1) := by decide +kernel
theorem dX0_add_37 : decode cX0_add 37 = .ok (.aload_n 0, 1) := by decide +kernel
theorem dX0_add_38 : decode cX0_add 38 = .ok (.iload_n 3, 1) := by decide +kernel
theorem dX0_add_39 : decode cX0_add 39 = .ok (.iconst 1, 1) := by decide +kernel
theorem dX0_add_40 : decode cX0_add 40 = .ok (.iadd, 1) := by decide +kernel
theorem dX0_add_41 : decode cX0_add 41 = .ok (.putfield 9, 3) := by decide +kernel
theorem dX0_add_44 : decode cX0_add 44 = .ok (.iload_n 3, 1) := by decide +kernel
theorem dX0_add_45 : decode cX0_add 45 = .ok (.ireturn, 1) := by decide +kernel
theorem dX0_close_0 : decode cX0_close 0 = .ok (.aload_n 0, 1) := by decide +kernel
theorem dX0_close_1 : decode cX0_close 1 = .ok (.iload_n 1, 1) := by decide +kernel
theorem dX0_close_2 : decode cX0_close 2 = .ok (.invokevirtual 26, 3) := by decide +kernel
theorem dX0_close_5 : decode cX0_close 5 = .ok (.ifCond .eq 10, 3) := by decide +kernel
theorem dX0_close_8 : decode cX0_close 8 = .ok (.aload_n 0, 1) := by decide +kernel
theorem dX0_close_9 : decode cX0_close 9 = .ok (.getfield 22, 3) := by decide +kernel
theorem dX0_close_12 : decode cX0_close 12 = .ok (.iload_n 1, 1) := by decide +kernel
theorem dX0_close_13 : decode cX0_close 13 = .ok (.iconst 0, 1) := by decide +kernel
theorem dX0_close_14 : decode cX0_close 14 = .ok (.bastore, 1) := by decide +kernel
theorem dX0_close_15 : decode cX0_close 15 = .ok (.return_, 1) := by decide +kernel
theorem dX0_openTotal_0 : decode cX0_openTotal 0 = .ok (.iconst 0, 1) := by decide +kernel
theorem dX0_openTotal_1 : decode cX0_openTotal 1 = .ok (.istore_n 2, 1) := by decide +kernel
theorem dX0_openTotal_2 : decode cX0_openTotal 2 = .ok (.iconst 0, 1) := by decide +kernel
theorem dX0_openTotal_3 : decode cX0_openTotal 3 = .ok (.istore_n 3, 1) := by decide +kernel
theorem dX0_openTotal_4 : decode cX0_openTotal 4 = .ok (.iload_n 3, 1) := by decide +kernel
theorem dX0_openTotal_5 : decode cX0_openTotal 5 = .ok (.aload_n 0, 1) := by decide +kernel
theorem dX0_openTotal_6 : decode cX0_openTotal 6 = .ok (.getfield 9, 3) := by decide +kernel
theorem dX0_openTotal_9 : decode cX0_openTotal 9 = .ok (.if_icmp .ge 30, 3) := by decide +kernel
theorem dX0_openTotal_12 : decode cX0_openTotal 12 = .ok (.aload_n 0, 1) := by decide +kernel
theorem dX0_openTotal_13 : decode cX0_openTotal 13 = .ok (.iload_n 3, 1) := by decide +kernel
theorem dX0_openTotal_14 : decode cX0_openTotal 14 = .ok (.invokevirtual 30, 3) := by decide +kernel
theorem dX0_openTotal_17 : decode cX0_openTotal 17 = .ok (.ifCond .eq 16, 3) := by decide +kernel
theorem dX0_openTotal_20 : decode cX0_openTotal 20 = .ok (.aload_n 0, 1) := by decide +kernel
theorem dX0_openTotal_21 : decode cX0_openTotal 21 = .ok (.getfield 15, 3) := by decide +kernel
theorem dX0_openTotal_24 : decode cX0_openTotal 24 = .ok (.iload_n 3, 1) := by decide +kernel
theorem dX0_openTotal_25 : decode cX0_openTotal 25 = .ok (.iaload, 1) := by decide +kernel
theorem dX0_openTotal_26 : decode cX0_openTotal 26 = .ok (.iload_n 1, 1) := by decide +kernel
theorem dX0_openTotal_27 : decode cX0_openTotal 27 = .ok (.if_icmp .ne 6, 3) := by decide +kernel
theorem dX0_openTotal_30 : decode cX0_openTotal 30 = .ok (.iinc 2 1, 3) := by decide +kernel
theorem dX0_openTotal_33 : decode cX0_openTotal 33 = .ok (.iinc 3 1, 3) := by decide +kernel
theorem dX0_openTotal_36 : decode cX0_openTotal 36 = .ok (.goto (-32), 3) := by decide +kernel
theorem dX0_openTotal_39 : decode cX0_openTotal 39 = .ok (.iload_n 2, 1) := by decide +kernel
theorem dX0_openTotal_40 : decode cX0_openTotal 40 = .ok (.ireturn, 1) := by decide +kernel
theorem dX0_firstToEnd_0 : decode cX0_firstToEnd 0 = .ok (.iconst (-1), 1) := by decide +kernel
theorem dX0_firstToEnd_1 : decode cX0_firstToEnd 1 = .ok (.istore_n 1, 1) := by decide +kernel
theorem dX0_firstToEnd_2 : decode cX0_firstToEnd 2 = .ok (.iconst 0, 1) := by decide +kernel
theorem dX0_firstToEnd_3 : decode cX0_firstToEnd 3 = .ok (.istore_n 2, 1) := by decide +kernel
theorem dX0_firstToEnd_4 : decode cX0_firstToEnd 4 = .ok (.iload_n 2, 1) := by decide +kernel
theorem dX0_firstToEnd_5 : decode cX0_firstToEnd 5 = .ok (.aload_n 0, 1) := by decide +kernel
theorem dX0_firstToEnd_6 : decode cX0_firstToEnd 6 = .ok (.getfield 9, 3) := by decide +kernel
theorem dX0_firstToEnd_9 : decode cX0_firstToEnd 9 = .ok (.if_icmp .ge 38, 3) := by decide +kernel
theorem dX0_firstToEnd_12 : decode cX0_firstToEnd 12 = .ok (.aload_n 0, 1) := by decide +kernel
theorem dX0_firstToEnd_13 : decode cX0_firstToEnd 13 = .ok (.iload_n 2, 1) := by decide +kernel
theorem dX0_firstToEnd_14 : decode cX0_firstToEnd 14 = .ok (.invokevirtual 30, 3) := by decide +kernel
theorem dX0_firstToEnd_17 : decode cX0_firstToEnd 17 = .ok (.ifCond .eq 24, 3) := by decide +kernel
theorem dX0_firstToEnd_20 : decode cX0_firstToEnd 20 = .ok (.iload_n 1, 1) := by decide +kernel
theorem dX0_firstToEnd_21 : decode cX0_firstToEnd 21 = .ok (.iconst (-1), 1) := by decide +kernel
theorem dX0_firstToEnd_22 : decode cX0_firstToEnd 22 = .ok (.if_icmp .eq 17, 3) := by decide +kernel
theorem dX0_firstToEnd_25 : decode cX0_firstToEnd 25 = .ok (.aload_n 0, 1) := by decide +kernel
theorem dX0_firstToEnd_26 : decode cX0_firstToEnd 26 = .ok (.getfield 19, 3) := by decide +kernel
theorem dX0_firstToEnd_29 : decode cX0_firstToEnd 29 = .ok (.iload_n 2, 1) := by decide +kernel
theorem dX0_firstToEnd_30 : decode cX0_firstToEnd 30 = .ok (.iaload, 1) := by decide +kernel
theorem dX0_firstToEnd_31 : decode cX0_firstToEnd 31 = .ok (.aload_n 0, 1) := by decide +kernel
theorem dX0_firstToEnd_32 : decode cX0_firstToEnd 32 = .ok (.iload_n 1, 1) := by decide +kernel
theorem dX0_firstToEnd_33 : decode cX0_firstToEnd 33 = .ok (.invokevirtual 33, 3) := by decide +kernel
theorem dX0_firstToEnd_36 : decode cX0_firstToEnd 36 = .ok (.if_icmp .ge 5, 3) := by decide +kernel
theorem dX0_firstToEnd_39 : decode cX0_firstToEnd 39 = .ok (.iload_n 2, 1) := by decide +kernel
theorem dX0_firstToEnd_40 : decode cX0_firstToEnd 40 = .ok (.istore_n 1, 1) := by decide +kernel
theorem dX0_firstToEnd_41 : decode cX0_firstToEnd 41 = .ok (.iinc 2 1, 3) := by decide +kernel
theorem dX0_firstToEnd_44 : decode cX0_firstToEnd 44 = .ok (.goto (-40), 3) := by decide +kernel
theorem dX0_firstToEnd_47 : decode cX0_firstToEnd 47 = .ok (.iload_n 1, 1) := by decide +kernel
theorem dX0_firstToEnd_48 : decode cX0_firstToEnd 48 = .ok (.ireturn, 1) := by decide +kernel
theorem dX1_init_0 : decode cX1_init 0 = .ok (.aload_n 0, 1) := by decide +kernel
theorem dX1_init_1 : decode cX1_init 1 = .ok (.invokespecial 3, 3) := by decide +kernel
theorem dX1_init_4 : decode cX1_init 4 = .ok (.aload_n 0, 1) := by decide +kernel
theorem dX1_init_5 : decode cX1_init 5 = .ok (.iconst 0, 1) := by decide +kernel
theorem dX1_init_6 : decode cX1_init 6 = .ok (.putfield 9, 3) := by decide +kernel
theorem dX1_init_9 : decode cX1_init 9 = .ok (.aload_n 0, 1) := by decide +kernel
theorem dX1_init_10 : decode cX1_init 10 = .ok (.iconst 0, 1) := by decide +kernel
theorem dX1_init_11 : decode cX1_init 11 = .ok (.putfield 15, 3) := by decide +kernel
theorem dX1_init_14 : decode cX1_init 14 = .ok (.aload_n 0, 1) := by decide +kernel
theorem dX1_init_15 : decode cX1_init 15 = .ok (.bipush 30, 2) := by decide +kernel
theorem dX1_init_17 : decode cX1_init 17 = .ok (.newarray .int, 2) := by decide +kernel
theorem dX1_init_19 : decode cX1_init 19 = .ok (.putfield 18, 3) := by decide +kernel
theorem dX1_init_22 : decode cX1_init 22 = .ok (.aload_n 0, 1) := by decide +kernel
theorem dX1_init_23 : decode cX1_init 23 = .ok (.bipush 30, 2) := by decide +kernel
theorem dX1_init_25 : decode cX1_init 25 = .ok (.newarray .int, 2) := by decide +kernel
theorem dX1_init_27 : decode cX1_init 27 = .ok (.putfield 22, 3) := by decide +kernel
theorem dX1_init_30 : decode cX1_init 30 = .ok (.aload_n 0, 1) := by decide +kernel
theorem dX1_init_31 : decode cX1_init 31 = .ok (.getfield 22, 3) := by decide +kernel
theorem dX1_init_34 : decode cX1_init 34 = .ok (.iconst (-1), 1) := by decide +kernel
theorem dX1_init_35 : decode cX1_init 35 = .ok (.invokestatic 25, 3) := by decide +kernel
theorem dX1_init_38 : decode cX1_init 38 = .ok (.aload_n 0, 1) := by decide +kernel
theorem dX1_init_39 : decode cX1_init 39 = .ok (.bipush 8, 2) := by decide +kernel
theorem dX1_init_41 : decode cX1_init 41 = .ok (.newarray .boolean, 2) := by decide +kernel
theorem dX1_init_43 : decode cX1_init 43 = .ok (.putfield 31, 3) := by decide +kernel
theorem dX1_init_46 : decode cX1_init 46 = .ok (.aload_n 0, 1) := by decide +kernel
theorem dX1_init_47 : decode cX1_init 47 = .ok (.sipush 320, 3) := by decide +kernel
theorem dX1_init_50 : decode cX1_init 50 = .ok (.newarray .boolean, 2) := by decide +kernel
theorem dX1_init_52 : decode cX1_init 52 = .ok (.putfield 35, 3) := by decide +kernel
theorem dX1_init_55 : decode cX1_init 55 = .ok (.aload_n 0, 1) := by decide +kernel
theorem dX1_init_56 : decode cX1_init 56 = .ok (.bipush 8, 2) := by decide +kernel
theorem dX1_init_58 : decode cX1_init 58 = .ok (.sipush 640, 3) := by decide +kernel
theorem dX1_init_61 : decode cX1_init 61 = .ok (.multianewarray 38 2, 4) := by decide +kernel
theorem dX1_init_65 : decode cX1_init 65 = .ok (.putfield 40, 3) := by decide +kernel
theorem dX1_init_68 : decode cX1_init 68 = .ok (.return_, 1) := by decide +kernel
theorem dX1_takenTotal_0 : decode cX1_takenTotal 0 = .ok (.aload_n 0, 1) := by decide +kernel
theorem dX1_takenTotal_1 : decode cX1_takenTotal 1 = .ok (.getfield 9, 3) := by decide +kernel
theorem dX1_takenTotal_4 : decode cX1_takenTotal 4 = .ok (.ireturn, 1) := by decide +kernel
theorem dX1_keptTotal_0 : decode cX1_keptTotal 0 = .ok (.aload_n 0, 1) := by decide +kernel
theorem dX1_keptTotal_1 : decode cX1_keptTotal 1 = .ok (.getfield 15, 3) := by decide +kernel
theorem dX1_keptTotal_4 : decode cX1_keptTotal 4 = .ok (.ireturn, 1) := by decide +kernel
theorem dX1_wasTaken_0 : decode cX1_wasTaken 0 = .ok (.iload_n 1, 1) := by decide +kernel
theorem dX1_wasTaken_1 : decode cX1_wasTaken 1 = .ok (.ifCond .lt 21, 3) := by decide +kernel
theorem dX1_wasTaken_4 : decode cX1_wasTaken 4 = .ok (.iload_n 1, 1) := by decide +kernel
theorem dX1_wasTaken_5 : decode cX1_wasTaken 5 = .ok (.aload_n 0, 1) := by decide +kernel
theorem dX1_wasTaken_6 : decode cX1_wasTaken 6 = .ok (.getfield 9, 3) := by decide +kernel
theorem dX1_wasTaken_9 : decode cX1_wasTaken 9 = .ok (.if_icmp .ge 13, 3) := by decide +kernel
theorem dX1_wasTaken_12 : decode cX1_wasTaken 12 = .ok (.iload_n 1, 1) := by decide +kernel
theorem dX1_wasTaken_13 : decode cX1_wasTaken 13 = .ok (.bipush 30, 2) := by decide +kernel
theorem dX1_wasTaken_15 : decode cX1_wasTaken 15 = .ok (.if_icmp .ge 7, 3) := by decide +kernel
theorem dX1_wasTaken_18 : decode cX1_wasTaken 18 = .ok (.iconst 1, 1) := by decide +kernel
theorem dX1_wasTaken_19 : decode cX1_wasTaken 19 = .ok (.goto 4, 3) := by decide +kernel
theorem dX1_wasTaken_22 : decode cX1_wasTaken 22 = .ok (.iconst 0, 1) := by decide +kernel
theorem dX1_wasTaken_23 : decode cX1_wasTaken 23 = .ok (.ireturn, 1) := by decide +kernel
theorem dX1_rowOf_0 : decode cX1_rowOf 0 = .ok (.aload_n 0, 1) := by decide +kernel
theorem dX1_rowOf_1 : decode cX1_rowOf 1 = .ok (.iload_n 1, 1) := by decide +kernel
theorem dX1_rowOf_2 : decode cX1_rowOf 2 = .ok (.invokevirtual 43, 3) := by decide +kernel
theorem dX1_rowOf_5 : decode cX1_rowOf 5 = .ok (.ifCond .eq 12, 3) := by decide +kernel
theorem dX1_rowOf_8 : decode cX1_rowOf 8 = .ok (.aload_n 0, 1) := by decide +kernel
theorem dX1_rowOf_9 : decode cX1_rowOf 9 = .ok (.getfield 22, 3) := by decide +kernel
theorem dX1_rowOf_12 : decode cX1_rowOf 12 = .ok (.iload_n 1, 1) := by decide +kernel
theorem dX1_rowOf_13 : decode cX1_rowOf 13 = .ok (.iaload, 1) := by decide +kernel
theorem dX1_rowOf_14 : decode cX1_rowOf 14 = .ok (.goto 4, 3) := by decide +kernel
theorem dX1_rowOf_17 : decode cX1_rowOf 17 = .ok (.iconst (-1), 1) := by decide +kernel
theorem dX1_rowOf_18 : decode cX1_rowOf 18 = .ok (.ireturn, 1) := by decide +kernel
theorem dX1_isRow_0 : decode cX1_isRow 0 = .ok (.iload_n 0, 1) := by decide +kernel
theorem dX1_isRow_1 : decode cX1_isRow 1 = .ok (.ifCond .lt 13, 3) := by decide +kernel
theorem dX1_isRow_4 : decode cX1_isRow 4 = .ok (.iload_n 0, 1) := by decide +kernel
theorem dX1_isRow_5 : decode cX1_isRow 5 = .ok (.bipush 8, 2) := by decide +kernel
theorem dX1_isRow_7 : decode cX1_isRow 7 = .ok (.if_icmp .ge 7, 3) := by decide +kernel
theorem dX1_isRow_10 : decode cX1_isRow 10 = .ok (.iconst 1, 1) := by decide +kernel
theorem dX1_isRow_11 : decode cX1_isRow 11 = .ok (.goto 4, 3) := by decide +kernel
theorem dX1_isRow_14 : decode cX1_isRow 14 = .ok (.iconst 0, 1) := by decide +kernel
theorem dX1_isRow_15 : decode cX1_isRow 15 = .ok (.ireturn, 1) := by decide +kernel
theorem dX1_add_0 : decode cX1_add 0 = .ok (.aload_n 0, 1) := by decide +kernel
theorem dX1_add_1 : decode cX1_add 1 = .ok (.invokevirtual 47, 3) := by decide +kernel
theorem dX1_add_4 : decode cX1_add 4 = .ok (.istore_n 3, 1) := by decide +kernel
theorem dX1_add_5 : decode cX1_add 5 = .ok (.aload_n 0, 1) := by decide +kernel
theorem dX1_add_6 : decode cX1_add 6 = .ok (.getfield 9, 3) := by decide +kernel
theorem dX1_add_9 : decode cX1_add 9 = .ok (.bipush 30, 2) := by decide +kernel
theorem dX1_add_11 : decode cX1_add 11 = .ok (.if_icmp .ge 10, 3) := by decide +kernel
theorem dX1_add_14 : decode cX1_add 14 = .ok (.iload_n 3, 1) := by decide +kernel
theorem dX1_add_15 : decode cX1_add 15 = .ok (.invokestatic 51, 3) := by decide +kernel
theorem dX1_add_18 : decode cX1_add 18 = .ok (.ifCond .ne 5, 3) := by decide +kernel
theorem dX1_add_21 : decode cX1_add 21 = .ok (.iconst (-1), 1) := by decide +kernel
theorem dX1_add_22 : decode cX1_add 22 = .ok (.ireturn, 1) := by decide +kernel
theorem dX1_add_23 : decode cX1_add 23 = .ok (.aload_n 0, 1) := by decide +kernel
theorem dX1_add_24 : decode cX1_add 24 = .ok (.getfield 9, 3) := by decide +kernel
theorem dX1_add_27 : decode cX1_add 27 = .ok (.istore 4, 2) := by decide +kernel
theorem dX1_add_29 : decode cX1_add 29 = .ok (.aload_n 0, 1) := by decide +kernel
theorem dX1_add_30 : decode cX1_add 30 = .ok (.getfield 18, 3) := by decide +kernel
theorem dX1_add_33 : decode cX1_add 33 = .ok (.iload 4, 2) := by decide +kernel
theorem dX1_add_35 : decode cX1_add 35 = .ok (.iload_n 1, 1) := by decide +kernel
theorem dX1_add_36 : decode cX1_add 36 = .ok (.iastore, 1) := by decide +kernel
theorem dX1_add_37 : decode cX1_add 37 = .ok (.aload_n 0, 1) := by decide +kernel
theorem dX1_add_38 : decode cX1_add 38 = .ok (.getfield 22, 3) := by decide +kernel
theorem dX1_add_41 : decode cX1_add 41 = .ok (.iload 4, 2) := by decide +kernel
theorem dX1_add_43 : decode cX1_add 43 = .ok (.iload_n 3, 1) := by decide +kernel
theorem dX1_add_44 : decode cX1_add 44 = .ok (.iastore, 1) := by decide +kernel
theorem dX1_add_45 : decode cX1_add 45 = .ok (.aload_n 0, 1) := by decide +kernel
theorem dX1_add_46 : decode cX1_add 46 = .ok (.getfield 31, 3) := by decide +kernel
theorem dX1_add_49 : decode cX1_add 49 = .ok (.iload_n 3, 1) := by decide +kernel
theorem dX1_add_50 : decode cX1_add 50 = .ok (.iconst 1, 1) := by decide +kernel
theorem dX1_add_51 : decode cX1_add 51 = .ok (.bastore, 1) := by decide +kernel
theorem dX1_add_52 : decode cX1_add 52 = .ok (.aload_n 0, 1) := by decide +kernel
theorem dX1_add_53 : decode cX1_add 53 = .ok (.dup, 1) := by decide +kernel
theorem dX1_add_54 : decode cX1_add 54 = .ok (.getfield 9, 3) := by decide +kernel
theorem dX1_add_57 : decode cX1_add 57 = .ok (.iconst 1, 1) := by decide +kernel
theorem dX1_add_58 : decode cX1_add 58 = .ok (.iadd, 1) := by decide +kernel
theorem dX1_add_59 : decode cX1_add 59 = .ok (.putfield 9, 3) := by decide +kernel
theorem dX1_add_62 : decode cX1_add 62 = .ok (.aload_n 0, 1) := by decide +kernel
theorem dX1_add_63 : decode cX1_add 63 = .ok (.dup, 1) := by decide +kernel
theorem dX1_add_64 : decode cX1_add 64 = .ok (.getfield 15, 3) := by decide +kernel
theorem dX1_add_67 : decode cX1_add 67 = .ok (.iconst 1, 1) := by decide +kernel
theorem dX1_add_68 : decode cX1_add 68 = .ok (.iadd, 1) := by decide +kernel
theorem dX1_add_69 : decode cX1_add 69 = .ok (.putfield 15, 3) := by decide +kernel
theorem dX1_add_72 : decode cX1_add 72 = .ok (.aload_n 0, 1) := by decide +kernel
theorem dX1_add_73 : decode cX1_add 73 = .ok (.iload_n 3, 1) := by decide +kernel
theorem dX1_add_74 : decode cX1_add 74 = .ok (.aload_n 2, 1) := by decide +kernel
theorem dX1_add_75 : decode cX1_add 75 = .ok (.invokevirtual 54, 3) := by decide +kernel
theorem dX1_add_78 : decode cX1_add 78 = .ok (.iload 4, 2) := by decide +kernel
theorem dX1_add_80 : decode cX1_add 80 = .ok (.ireturn, 1) := by decide +kernel
theorem dX1_unusedRow_0 : decode cX1_unusedRow 0 = .ok (.iconst 0, 1) := by decide +kernel
theorem dX1_unusedRow_1 : decode cX1_unusedRow 1 = .ok (.istore_n 1, 1) := by decide +kernel
theorem dX1_unusedRow_2 : decode cX1_unusedRow 2 = .ok (.iload_n 1, 1) := by decide +kernel
theorem dX1_unusedRow_3 : decode cX1_unusedRow 3 = .ok (.bipush 8, 2) := by decide +kernel
theorem dX1_unusedRow_5 : decode cX1_unusedRow 5 = .ok (.if_icmp .ge 20, 3) := by decide +kernel
theorem dX1_unusedRow_8 : decode cX1_unusedRow 8 = .ok (.aload_n 0, 1) := by decide +kernel
theorem dX1_unusedRow_9 : decode cX1_unusedRow 9 = .ok (.getfield 31, 3) := by decide +kernel
theorem dX1_unusedRow_12 : decode cX1_unusedRow 12 = .ok (.iload_n 1, 1) := by decide +kernel
theorem dX1_unusedRow_13 : decode cX1_unusedRow 13 = .ok (.baload, 1) := by decide +kernel
theorem dX1_unusedRow_14 : decode cX1_unusedRow 14 = .ok (.ifCond .ne 5, 3) := by decide +kernel
theorem dX1_unusedRow_17 : decode cX1_unusedRow 17 = .ok (.iload_n 1, 1) := by decide +kernel
theorem dX1_unusedRow_18 : decode cX1_unusedRow 18 = .ok (.ireturn, 1) := by decide +kernel
theorem dX1_unusedRow_19 : decode cX1_unusedRow 19 = .ok (.iinc 1 1, 3) := by decide +kernel
theorem dX1_unusedRow_22 : decode cX1_unusedRow 22 = .ok (.goto (-20), 3) := by decide +kernel
theorem dX1_unusedRow_25 : decode cX1_unusedRow 25 = .ok (.iconst (-1), 1) := by decide +kernel
theorem dX1_unusedRow_26 : decode cX1_unusedRow 26 = .ok (.ireturn, 1) := by decide +kernel
theorem dX1_fillRow_0 : decode cX1_fillRow 0 = .ok (.iload_n 1, 1) := by decide +kernel
theorem dX1_fillRow_1 : decode cX1_fillRow 1 = .ok (.invokestatic 51, 3) := by decide +kernel
theorem dX1_fillRow_4 : decode cX1_fillRow 4 = .ok (.ifCond .ne 4, 3) := by decide +kernel
theorem dX1_fillRow_7 : decode cX1_fillRow 7 = .ok (.return_, 1) := by decide +kernel
theorem dX1_fillRow_8 : decode cX1_fillRow 8 = .ok (.iconst 0, 1) := by decide +kernel
theorem dX1_fillRow_9 : decode cX1_fillRow 9 = .ok (.istore_n 3, 1) := by decide +kernel
theorem dX1_fillRow_10 : decode cX1_fillRow 10 = .ok (.iload_n 3, 1) := by decide +kernel
theorem dX1_fillRow_11 : decode cX1_fillRow 11 = .ok (.bipush 40, 2) := by decide +kernel
theorem dX1_fillRow_13 : decode cX1_fillRow 13 = .ok (.if_icmp .ge 80, 3) := by decide +kernel
theorem dX1_fillRow_16 : decode cX1_fillRow 16 = .ok (.aload_n 0, 1) := by decide +kernel
theorem dX1_fillRow_17 : decode cX1_fillRow 17 = .ok (.getfield 35, 3) := by decide +kernel
theorem dX1_fillRow_20 : decode cX1_fillRow 20 = .ok (.iload_n 1, 1) := by decide +kernel
theorem dX1_fillRow_21 : decode cX1_fillRow 21 = .ok (.bipush 40, 2) := by decide +kernel
theorem dX1_fillRow_23 : decode cX1_fillRow 23 = .ok (.imul, 1) := by decide +kernel
theorem dX1_fillRow_24 : decode cX1_fillRow 24 = .ok (.iload_n 3, 1) := by decide +kernel
theorem dX1_fillRow_25 : decode cX1_fillRow 25 = .ok (.iadd, 1) := by decide +kernel
theorem dX1_fillRow_26 : decode cX1_fillRow 26 = .ok (.aload_n 2, 1) := by decide +kernel
theorem dX1_fillRow_27 : decode cX1_fillRow 27 = .ok (.iload_n 3, 1) := by decide +kernel
theorem dX1_fillRow_28 : decode cX1_fillRow 28 = .ok (.invokevirtual 58, 3) := by decide +kernel
theorem dX1_fillRow_31 : decode cX1_fillRow 31 = .ok (.bastore, 1) := by decide +kernel
theorem dX1_fillRow_32 : decode cX1_fillRow 32 = .ok (.iconst 0, 1) := by decide +kernel
theorem dX1_fillRow_33 : decode cX1_fillRow 33 = .ok (.istore 4, 2) := by decide +kernel
theorem dX1_fillRow_35 : decode cX1_fillRow 35 = .ok (.iload 4, 2) := by decide +kernel
theorem dX1_fillRow_37 : decode cX1_fillRow 37 = .ok (.bipush 16, 2) := by decide +kernel
theorem dX1_fillRow_39 : decode cX1_fillRow 39 = .ok (.if_icmp .ge 48, 3) := by decide +kernel
theorem dX1_fillRow_42 : decode cX1_fillRow 42 = .ok (.aload_n 2, 1) := by decide +kernel
theorem dX1_fillRow_43 : decode cX1_fillRow 43 = .ok (.iload_n 3, 1) := by decide +kernel
theorem dX1_fillRow_44 : decode cX1_fillRow 44 = .ok (.invokevirtual 58, 3) := by decide +kernel
theorem dX1_fillRow_47 : decode cX1_fillRow 47 = .ok (.ifCond .eq 40, 3) := by decide +kernel
theorem dX1_fillRow_50 : decode cX1_fillRow 50 = .ok (.aload_n 2, 1) := by decide +kernel
theorem dX1_fillRow_51 : decode cX1_fillRow 51 = .ok (.iload_n 3, 1) := by decide +kernel
theorem dX1_fillRow_52 : decode cX1_fillRow 52 = .ok (.iload 4, 2) := by decide +kernel
theorem dX1_fillRow_54 : decode cX1_fillRow 54 = .ok (.invokevirtual 63, 3) := by decide +kernel
theorem dX1_fillRow_57 : decode cX1_fillRow 57 = .ok (.istore 5, 2) := by decide +kernel
theorem dX1_fillRow_59 : decode cX1_fillRow 59 = .ok (.aload_n 0, 1) := by decide +kernel
theorem dX1_fillRow_60 : decode cX1_fillRow 60 = .ok (.getfield 40, 3) := by decide +kernel
theorem dX1_fillRow_63 : decode cX1_fillRow 63 = .ok (.iload_n 1, 1) := by decide +kernel
theorem dX1_fillRow_64 : decode cX1_fillRow 64 = .ok (.aaload, 1) := by decide +kernel
theorem dX1_fillRow_65 : decode cX1_fillRow 65 = .ok (.iload_n 3, 1) := by decide +kernel
theorem dX1_fillRow_66 : decode cX1_fillRow 66 = .ok (.bipush 16, 2) := by decide +kernel
theorem dX1_fillRow_68 : decode cX1_fillRow 68 = .ok (.imul, 1) := by decide +kernel
theorem dX1_fillRow_69 : decode cX1_fillRow 69 = .ok (.iload 4, 2) := by decide +kernel
theorem dX1_fillRow_71 : decode cX1_fillRow 71 = .ok (.iadd, 1) := by decide +kernel
theorem dX1_fillRow_72 : decode cX1_fillRow 72 = .ok (.iload 5, 2) := by decide +kernel
theorem dX1_fillRow_74 : decode cX1_fillRow 74 = .ok (.iastore, 1) := by decide +kernel
theorem dX1_fillRow_75 : decode cX1_fillRow 75 = .ok (.aload_n 2, 1) := by decide +kernel
theorem dX1_fillRow_76 : decode cX1_fillRow 76 = .ok (.iload 5, 2) := by decide +kernel
theorem dX1_fillRow_78 : decode cX1_fillRow 78 = .ok (.invokevirtual 67, 3) := by decide +kernel
theorem dX1_fillRow_81 : decode cX1_fillRow 81 = .ok (.iinc 4 1, 3) := by decide +kernel
theorem dX1_fillRow_84 : decode cX1_fillRow 84 = .ok (.goto (-49), 3) := by decide +kernel
theorem dX1_fillRow_87 : decode cX1_fillRow 87 = .ok (.iinc 3 1, 3) := by decide +kernel
theorem dX1_fillRow_90 : decode cX1_fillRow 90 = .ok (.goto (-80), 3) := by decide +kernel
theorem dX1_fillRow_93 : decode cX1_fillRow 93 = .ok (.return_, 1) := by decide +kernel
theorem dX1_drop_0 : decode cX1_drop 0 = .ok (.aload_n 0, 1) := by decide +kernel
theorem dX1_drop_1 : decode cX1_drop 1 = .ok (.iload_n 1, 1) := by decide +kernel
theorem dX1_drop_2 : decode cX1_drop 2 = .ok (.invokevirtual 71, 3) := by decide +kernel
theorem dX1_drop_5 : decode cX1_drop 5 = .ok (.istore_n 3, 1) := by decide +kernel
theorem dX1_drop_6 : decode cX1_drop 6 = .ok (.iload_n 3, 1) := by decide +kernel
theorem dX1_drop_7 : decode cX1_drop 7 = .ok (.invokestatic 51, 3) := by decide +kernel
theorem dX1_drop_10 : decode cX1_drop 10 = .ok (.ifCond .ne 4, 3) := by decide +kernel
theorem dX1_drop_13 : decode cX1_drop 13 = .ok (.return_, 1) := by decide +kernel
theorem dX1_drop_14 : decode cX1_drop 14 = .ok (.iconst 0, 1) := by decide +kernel
theorem dX1_drop_15 : decode cX1_drop 15 = .ok (.istore 4, 2) := by decide +kernel
theorem dX1_drop_17 : decode cX1_drop 17 = .ok (.iload 4, 2) := by decide +kernel
theorem dX1_drop_19 : decode cX1_drop 19 = .ok (.bipush 40, 2) := by decide +kernel
theorem dX1_drop_21 : decode cX1_drop 21 = .ok (.if_icmp .ge 54, 3) := by decide +kernel
theorem dX1_drop_24 : decode cX1_drop 24 = .ok (.iconst 0, 1) := by decide +kernel
theorem dX1_drop_25 : decode cX1_drop 25 = .ok (.istore 5, 2) := by decide +kernel
theorem dX1_drop_27 : decode cX1_drop 27 = .ok (.iload 5, 2) := by decide +kernel
theorem dX1_drop_29 : decode cX1_drop 29 = .ok (.bipush 16, 2) := by decide +kernel
theorem dX1_drop_31 : decode cX1_drop 31 = .ok (.if_icmp .ge 38, 3) := by decide +kernel
theorem dX1_drop_34 : decode cX1_drop 34 = .ok (.aload_n 0, 1) := by decide +kernel
theorem dX1_drop_35 : decode cX1_drop 35 = .ok (.iload_n 3, 1) := by decide +kernel
theorem dX1_drop_36 : decode cX1_drop 36 = .ok (.iload 4, 2) := by decide +kernel
theorem dX1_drop_38 : decode cX1_drop 38 = .ok (.invokevirtual 75, 3) := by decide +kernel
theorem dX1_drop_41 : decode cX1_drop 41 = .ok (.ifCond .eq 28, 3) := by decide +kernel
theorem dX1_drop_44 : decode cX1_drop 44 = .ok (.aload_n 2, 1) := by decide +kernel
theorem dX1_drop_45 : decode cX1_drop 45 = .ok (.aload_n 0, 1) := by decide +kernel
theorem dX1_drop_46 : decode cX1_drop 46 = .ok (.getfield 40, 3) := by decide +kernel
theorem dX1_drop_49 : decode cX1_drop 49 = .ok (.iload_n 3, 1) := by decide +kernel
theorem dX1_drop_50 : decode cX1_drop 50 = .ok (.aaload, 1) := by decide +kernel
theorem dX1_drop_51 : decode cX1_drop 51 = .ok (.iload 4, 2) := by decide +kernel
theorem dX1_drop_53 : decode cX1_drop 53 = .ok (.bipush 16, 2) := by decide +kernel
theorem dX1_drop_55 : decode cX1_drop 55 = .ok (.imul, 1) := by decide +kernel
theorem dX1_drop_56 : decode cX1_drop 56 = .ok (.iload 5, 2) := by decide +kernel
theorem dX1_drop_58 : decode cX1_drop 58 = .ok (.iadd, 1) := by decide +kernel
theorem dX1_drop_59 : decode cX1_drop 59 = .ok (.iaload, 1) := by decide +kernel
theorem dX1_drop_60 : decode cX1_drop 60 = .ok (.invokevirtual 79, 3) := by decide +kernel
theorem dX1_drop_63 : decode cX1_drop 63 = .ok (.iinc 5 1, 3) := by decide +kernel
theorem dX1_drop_66 : decode cX1_drop 66 = .ok (.goto (-39), 3) := by decide +kernel
theorem dX1_drop_69 : decode cX1_drop 69 = .ok (.iinc 4 1, 3) := by decide +kernel
theorem dX1_drop_72 : decode cX1_drop 72 = .ok (.goto (-55), 3) := by decide +kernel
theorem dX1_drop_75 : decode cX1_drop 75 = .ok (.aload_n 0, 1) := by decide +kernel
theorem dX1_drop_76 : decode cX1_drop 76 = .ok (.getfield 22, 3) := by decide +kernel
theorem dX1_drop_79 : decode cX1_drop 79 = .ok (.iload_n 1, 1) := by decide +kernel
theorem dX1_drop_80 : decode cX1_drop 80 = .ok (.iconst (-1), 1) := by decide +kernel
theorem dX1_drop_81 : decode cX1_drop 81 = .ok (.iastore, 1) := by decide +kernel
theorem dX1_drop_82 : decode cX1_drop 82 = .ok (.aload_n 0, 1) := by decide +kernel
theorem dX1_drop_83 : decode cX1_drop 83 = .ok (.getfield 31, 3) := by decide +kernel
theorem dX1_drop_86 : decode cX1_drop 86 = .ok (.iload_n 3, 1) := by decide +kernel
theorem dX1_drop_87 : decode cX1_drop 87 = .ok (.iconst 0, 1) := by decide +kernel
theorem dX1_drop_88 : decode cX1_drop 88 = .ok (.bastore, 1) := by decide +kernel
theorem dX1_drop_89 : decode cX1_drop 89 = .ok (.aload_n 0, 1) := by decide +kernel
theorem dX1_drop_90 : decode cX1_drop 90 = .ok (.dup, 1) := by decide +kernel
theorem dX1_drop_91 : decode cX1_drop 91 = .ok (.getfield 15, 3) := by decide +kernel
theorem dX1_drop_94 : decode cX1_drop 94 = .ok (.iconst 1, 1) := by decide +kernel
theorem dX1_drop_95 : decode cX1_drop 95 = .ok (.isub, 1) := by decide +kernel
theorem dX1_drop_96 : decode cX1_drop 96 = .ok (.putfield 15, 3) := by decide +kernel
theorem dX1_drop_99 : decode cX1_drop 99 = .ok (.return_, 1) := by decide +kernel
theorem dX1_includes_0 : decode cX1_includes 0 = .ok (.aload_n 0, 1) := by decide +kernel
theorem dX1_includes_1 : decode cX1_includes 1 = .ok (.aload_n 0, 1) := by decide +kernel
theorem dX1_includes_2 : decode cX1_includes 2 = .ok (.iload_n 1, 1) := by decide +kernel
theorem dX1_includes_3 : decode cX1_includes 3 = .ok (.invokevirtual 71, 3) := by decide +kernel
theorem dX1_includes_6 : decode cX1_includes 6 = .ok (.iload_n 2, 1) := by decide +kernel
theorem dX1_includes_7 : decode cX1_includes 7 = .ok (.invokevirtual 75, 3) := by decide +kernel
theorem dX1_includes_10 : decode cX1_includes 10 = .ok (.ireturn, 1) := by decide +kernel
theorem dX1_isInRow_0 : decode cX1_isInRow 0 = .ok (.iload_n 1, 1) := by decide +kernel
theorem dX1_isInRow_1 : decode cX1_isInRow 1 = .ok (.invokestatic 51, 3) := by decide +kernel
theorem dX1_isInRow_4 : decode cX1_isInRow 4 = .ok (.ifCond .eq 31, 3) := by decide +kernel
theorem dX1_isInRow_7 : decode cX1_isInRow 7 = .ok (.iload_n 2, 1) := by decide +kernel
theorem dX1_isInRow_8 : decode cX1_isInRow 8 = .ok (.ifCond .lt 27, 3) := by decide +kernel
theorem dX1_isInRow_11 : decode cX1_isInRow 11 = .ok (.iload_n 2, 1) := by decide +kernel
theorem dX1_isInRow_12 : decode cX1_isInRow 12 = .ok (.bipush 40, 2) := by decide +kernel
theorem dX1_isInRow_14 : decode cX1_isInRow 14 = .ok (.if_icmp .ge 21, 3) := by decide +kernel
theorem dX1_isInRow_17 : decode cX1_isInRow 17 = .ok (.aload_n 0, 1) := by decide +kernel
theorem dX1_isInRow_18 : decode cX1_isInRow 18 = .ok (.getfield 35, 3) := by decide +kernel
theorem dX1_isInRow_21 : decode cX1_isInRow 21 = .ok (.iload_n 1, 1) := by decide +kernel
theorem dX1_isInRow_22 : decode cX1_isInRow 22 = .ok (.bipush 40, 2) := by decide +kernel
theorem dX1_isInRow_24 : decode cX1_isInRow 24 = .ok (.imul, 1) := by decide +kernel
theorem dX1_isInRow_25 : decode cX1_isInRow 25 = .ok (.iload_n 2, 1) := by decide +kernel
theorem dX1_isInRow_26 : decode cX1_isInRow 26 = .ok (.iadd, 1) := by decide +kernel
theorem dX1_isInRow_27 : decode cX1_isInRow 27 = .ok (.baload, 1) := by decide +kernel
theorem dX1_isInRow_28 : decode cX1_isInRow 28 = .ok (.ifCond .eq 7, 3) := by decide +kernel
theorem dX1_isInRow_31 : decode cX1_isInRow 31 = .ok (.iconst 1, 1) := by decide +kernel
theorem dX1_isInRow_32 : decode cX1_isInRow 32 = .ok (.goto 4, 3) := by decide +kernel
theorem dX1_isInRow_35 : decode cX1_isInRow 35 = .ok (.iconst 0, 1) := by decide +kernel
theorem dX1_isInRow_36 : decode cX1_isInRow 36 = .ok (.ireturn, 1) := by decide +kernel
theorem dX1_blockIn_0 : decode cX1_blockIn 0 = .ok (.aload_n 0, 1) := by decide +kernel
theorem dX1_blockIn_1 : decode cX1_blockIn 1 = .ok (.iload_n 1, 1) := by decide +kernel
theorem dX1_blockIn_2 : decode cX1_blockIn 2 = .ok (.invokevirtual 71, 3) := by decide +kernel
theorem dX1_blockIn_5 : decode cX1_blockIn 5 = .ok (.istore 4, 2) := by decide +kernel
theorem dX1_blockIn_7 : decode cX1_blockIn 7 = .ok (.aload_n 0, 1) := by decide +kernel
theorem dX1_blockIn_8 : decode cX1_blockIn 8 = .ok (.iload 4, 2) := by decide +kernel
theorem dX1_blockIn_10 : decode cX1_blockIn 10 = .ok (.iload_n 2, 1) := by decide +kernel
theorem dX1_blockIn_11 : decode cX1_blockIn 11 = .ok (.invokevirtual 75, 3) := by decide +kernel
theorem dX1_blockIn_14 : decode cX1_blockIn 14 = .ok (.ifCond .eq 10, 3) := by decide +kernel
theorem dX1_blockIn_17 : decode cX1_blockIn 17 = .ok (.iload_n 3, 1) := by decide +kernel
theorem dX1_blockIn_18 : decode cX1_blockIn 18 = .ok (.invokestatic 82, 3) := by decide +kernel
theorem dX1_blockIn_21 : decode cX1_blockIn 21 = .ok (.ifCond .ne 5, 3) := by decide +kernel
theorem dX1_blockIn_24 : decode cX1_blockIn 24 = .ok (.iconst (-1), 1) := by decide +kernel
theorem dX1_blockIn_25 : decode cX1_blockIn 25 = .ok (.ireturn, 1) := by decide +kernel
theorem dX1_blockIn_26 : decode cX1_blockIn 26 = .ok (.aload_n 0, 1) := by decide +kernel
theorem dX1_blockIn_27 : decode cX1_blockIn 27 = .ok (.getfield 40, 3) := by decide +kernel
theorem dX1_blockIn_30 : decode cX1_blockIn 30 = .ok (.iload 4, 2) := by decide +kernel
theorem dX1_blockIn_32 : decode cX1_blockIn 32 = .ok (.aaload, 1) := by decide +kernel
theorem dX1_blockIn_33 : decode cX1_blockIn 33 = .ok (.iload_n 2, 1) := by decide +kernel
theorem dX1_blockIn_34 : decode cX1_blockIn 34 = .ok (.bipush 16, 2) := by decide +kernel
theorem dX1_blockIn_36 : decode cX1_blockIn 36 = .ok (.imul, 1) := by decide +kernel
theorem dX1_blockIn_37 : decode cX1_blockIn 37 = .ok (.iload_n 3, 1) := by decide +kernel
theorem dX1_blockIn_38 : decode cX1_blockIn 38 = .ok (.iadd, 1) := by decide +kernel
theorem dX1_blockIn_39 : decode cX1_blockIn 39 = .ok (.iaload, 1) := by decide +kernel
theorem dX1_blockIn_40 : decode cX1_blockIn 40 = .ok (.ireturn, 1) := by decide +kernel
theorem dX1_blocksInFile_0 : decode cX1_blocksInFile 0 = .ok (.lconst 0, 1) := by decide +kernel
theorem dX1_blocksInFile_1 : decode cX1_blocksInFile 1 = .ok (.lstore_n 3, 1) := by decide +kernel
theorem dX1_blocksInFile_2 : decode cX1_blocksInFile 2 = .ok (.iconst 0, 1) := by decide +kernel
theorem dX1_blocksInFile_3 : decode cX1_blocksInFile 3 = .ok (.istore 5, 2) := by decide +kernel
theorem dX1_blocksInFile_5 : decode cX1_blocksInFile 5 = .ok (.iload 5, 2) := by decide +kernel
theorem dX1_blocksInFile_7 : decode cX1_blocksInFile 7 = .ok (.bipush 16, 2) := by decide +kernel
theorem dX1_blocksInFile_9 : decode cX1_blocksInFile 9 = .ok (.if_icmp .ge 32, 3) := by decide +kernel
theorem dX1_blocksInFile_12 : decode cX1_blocksInFile 12 = .ok (.aload_n 0, 1) := by decide +kernel
theorem dX1_blocksInFile_13 : decode cX1_blocksInFile 13 = .ok (.iload_n 1, 1) := by decide +kernel
theorem dX1_blocksInFile_14 : decode cX1_blocksInFile 14 = .ok (.iload_n 2, 1) := by decide +kernel
theorem dX1_blocksInFile_15 : decode cX1_blocksInFile 15 = .ok (.iload 5, 2) := by decide +kernel
theorem dX1_blocksInFile_17 : decode cX1_blocksInFile 17 = .ok (.invokevirtual 85, 3) := by decide +kernel
theorem dX1_blocksInFile_20 : decode cX1_blocksInFile 20 = .ok (.istore 6, 2) := by decide +kernel
theorem dX1_blocksInFile_22 : decode cX1_blocksInFile 22 = .ok (.iload 6, 2) := by decide +kernel
theorem dX1_blocksInFile_24 : decode cX1_blocksInFile 24 = .ok (.iconst (-1), 1) := by decide +kernel
theorem dX1_blocksInFile_25 : decode cX1_blocksInFile 25 = .ok (.if_icmp .eq 10, 3) := by decide +kernel
theorem dX1_blocksInFile_28 : decode cX1_blocksInFile 28 = .ok (.lload_n 3, 1) := by decide +kernel
theorem dX1_blocksInFile_29 : decode cX1_blocksInFile 29 = .ok (.lconst 1, 1) := by decide +kernel
theorem dX1_blocksInFile_30 : decode cX1_blocksInFile 30 = .ok (.iload 6, 2) := by decide +kernel
theorem dX1_blocksInFile_32 : decode cX1_blocksInFile 32 = .ok (.lshl, 1) := by decide +kernel
theorem dX1_blocksInFile_33 : decode cX1_blocksInFile 33 = .ok (.lor, 1) := by decide +kernel
theorem dX1_blocksInFile_34 : decode cX1_blocksInFile 34 = .ok (.lstore_n 3, 1) := by decide +kernel
theorem dX1_blocksInFile_35 : decode cX1_blocksInFile 35 = .ok (.iinc 5 1, 3) := by decide +kernel
theorem dX1_blocksInFile_38 : decode cX1_blocksInFile 38 = .ok (.goto (-33), 3) := by decide +kernel
theorem dX1_blocksInFile_41 : decode cX1_blocksInFile 41 = .ok (.lload_n 3, 1) := by decide +kernel
theorem dX1_blocksInFile_42 : decode cX1_blocksInFile 42 = .ok (.lreturn, 1) := by decide +kernel
theorem dX1_leastKept_0 : decode cX1_leastKept 0 = .ok (.iconst (-1), 1) := by decide +kernel
theorem dX1_leastKept_1 : decode cX1_leastKept 1 = .ok (.istore_n 1, 1) := by decide +kernel
theorem dX1_leastKept_2 : decode cX1_leastKept 2 = .ok (.iconst 0, 1) := by decide +kernel
theorem dX1_leastKept_3 : decode cX1_leastKept 3 = .ok (.istore_n 2, 1) := by decide +kernel
theorem dX1_leastKept_4 : decode cX1_leastKept 4 = .ok (.iload_n 2, 1) := by decide +kernel
theorem dX1_leastKept_5 : decode cX1_leastKept 5 = .ok (.bipush 30, 2) := by decide +kernel
theorem dX1_leastKept_7 : decode cX1_leastKept 7 = .ok (.if_icmp .ge 51, 3) := by decide +kernel
theorem dX1_leastKept_10 : decode cX1_leastKept 10 = .ok (.iload_n 1, 1) := by decide +kernel
theorem dX1_leastKept_11 : decode cX1_leastKept 11 = .ok (.iconst (-1), 1) := by decide +kernel
theorem dX1_leastKept_12 : decode cX1_leastKept 12 = .ok (.if_icmp .eq 18, 3) := by decide +kernel
theorem dX1_leastKept_15 : decode cX1_leastKept 15 = .ok (.aload_n 0, 1) := by decide +kernel
theorem dX1_leastKept_16 : decode cX1_leastKept 16 = .ok (.getfield 18, 3) := by decide +kernel
theorem dX1_leastKept_19 : decode cX1_leastKept 19 = .ok (.iload_n 2, 1) := by decide +kernel
theorem dX1_leastKept_20 : decode cX1_leastKept 20 = .ok (.iaload, 1) := by decide +kernel
theorem dX1_leastKept_21 : decode cX1_leastKept 21 = .ok (.aload_n 0, 1) := by decide +kernel
theorem dX1_leastKept_22 : decode cX1_leastKept 22 = .ok (.getfield 18, 3) := by decide +kernel
theorem dX1_leastKept_25 : decode cX1_leastKept 25 = .ok (.iload_n 1, 1) := by decide +kernel
theorem dX1_leastKept_26 : decode cX1_leastKept 26 = .ok (.iaload, 1) := by decide +kernel
theorem dX1_leastKept_27 : decode cX1_leastKept 27 = .ok (.if_icmp .ge 7, 3) := by decide +kernel
theorem dX1_leastKept_30 : decode cX1_leastKept 30 = .ok (.iconst 1, 1) := by decide +kernel
theorem dX1_leastKept_31 : decode cX1_leastKept 31 = .ok (.goto 4, 3) := by decide +kernel
theorem dX1_leastKept_34 : decode cX1_leastKept 34 = .ok (.iconst 0, 1) := by decide +kernel
theorem dX1_leastKept_35 : decode cX1_leastKept 35 = .ok (.istore_n 3, 1) := by decide +kernel
theorem dX1_leastKept_36 : decode cX1_leastKept 36 = .ok (.aload_n 0, 1) := by decide +kernel
theorem dX1_leastKept_37 : decode cX1_leastKept 37 = .ok (.getfield 22, 3) := by decide +kernel
theorem dX1_leastKept_40 : decode cX1_leastKept 40 = .ok (.iload_n 2, 1) := by decide +kernel
theorem dX1_leastKept_41 : decode cX1_leastKept 41 = .ok (.iaload, 1) := by decide +kernel
theorem dX1_leastKept_42 : decode cX1_leastKept 42 = .ok (.iconst (-1), 1) := by decide +kernel
theorem dX1_leastKept_43 : decode cX1_leastKept 43 = .ok (.if_icmp .eq 9, 3) := by decide +kernel
theorem dX1_leastKept_46 : decode cX1_leastKept 46 = .ok (.iload_n 3, 1) := by decide +kernel
theorem dX1_leastKept_47 : decode cX1_leastKept 47 = .ok (.ifCond .eq 5, 3) := by decide +kernel
theorem dX1_leastKept_50 : decode cX1_leastKept 50 = .ok (.iload_n 2, 1) := by decide +kernel
theorem dX1_leastKept_51 : decode cX1_leastKept 51 = .ok (.istore_n 1, 1) := by decide +kernel
theorem dX1_leastKept_52 : decode cX1_leastKept 52 = .ok (.iinc 2 1, 3) := by decide +kernel
theorem dX1_leastKept_55 : decode cX1_leastKept 55 = .ok (.goto (-51), 3) := by decide +kernel
theorem dX1_leastKept_58 : decode cX1_leastKept 58 = .ok (.iload_n 1, 1) := by decide +kernel
theorem dX1_leastKept_59 : decode cX1_leastKept 59 = .ok (.ireturn, 1) := by decide +kernel
theorem dX1_walkKept_0 : decode cX1_walkKept 0 = .ok (.iconst 0, 1) := by decide +kernel
theorem dX1_walkKept_1 : decode cX1_walkKept 1 = .ok (.istore_n 2, 1) := by decide +kernel
theorem dX1_walkKept_2 : decode cX1_walkKept 2 = .ok (.iload_n 2, 1) := by decide +kernel
theorem dX1_walkKept_3 : decode cX1_walkKept 3 = .ok (.bipush 8, 2) := by decide +kernel
theorem dX1_walkKept_5 : decode cX1_walkKept 5 = .ok (.if_icmp .ge 75, 3) := by decide +kernel
theorem dX1_walkKept_8 : decode cX1_walkKept 8 = .ok (.iconst 0, 1) := by decide +kernel
theorem dX1_walkKept_9 : decode cX1_walkKept 9 = .ok (.istore_n 3, 1) := by decide +kernel
theorem dX1_walkKept_10 : decode cX1_walkKept 10 = .ok (.iload_n 3, 1) := by decide +kernel
theorem dX1_walkKept_11 : decode cX1_walkKept 11 = .ok (.bipush 40, 2) := by decide +kernel
theorem dX1_walkKept_13 : decode cX1_walkKept 13 = .ok (.if_icmp .ge 61, 3) := by decide +kernel
theorem dX1_walkKept_16 : decode cX1_walkKept 16 = .ok (.aload_n 0, 1) := by decide +kernel
theorem dX1_walkKept_17 : decode cX1_walkKept 17 = .ok (.getfield 31, 3) := by decide +kernel
theorem dX1_walkKept_20 : decode cX1_walkKept 20 = .ok (.iload_n 2, 1) := by decide +kernel
theorem dX1_walkKept_21 : decode cX1_walkKept 21 = .ok (.baload, 1) := by decide +kernel
theorem dX1_walkKept_22 : decode cX1_walkKept 22 = .ok (.ifCond .eq 52, 3) := by decide +kernel
theorem dX1_walkKept_25 : decode cX1_walkKept 25 = .ok (.iconst 0, 1) := by decide +kernel
theorem dX1_walkKept_26 : decode cX1_walkKept 26 = .ok (.istore 4, 2) := by decide +kernel
theorem dX1_walkKept_28 : decode cX1_walkKept 28 = .ok (.iload 4, 2) := by decide +kernel
theorem dX1_walkKept_30 : decode cX1_walkKept 30 = .ok (.bipush 16, 2) := by decide +kernel
theorem dX1_walkKept_32 : decode cX1_walkKept 32 = .ok (.if_icmp .ge 36, 3) := by decide +kernel
theorem dX1_walkKept_35 : decode cX1_walkKept 35 = .ok (.aload_n 0, 1) := by decide +kernel
theorem dX1_walkKept_36 : decode cX1_walkKept 36 = .ok (.iload_n 2, 1) := by decide +kernel
theorem dX1_walkKept_37 : decode cX1_walkKept 37 = .ok (.iload_n 3, 1) := by decide +kernel
theorem dX1_walkKept_38 : decode cX1_walkKept 38 = .ok (.invokevirtual 75, 3) := by decide +kernel
theorem dX1_walkKept_41 : decode cX1_walkKept 41 = .ok (.ifCond .eq 27, 3) := by decide +kernel
theorem dX1_walkKept_44 : decode cX1_walkKept 44 = .ok (.aload_n 1, 1) := by decide +kernel
theorem dX1_walkKept_45 : decode cX1_walkKept 45 = .ok (.aload_n 0, 1) := by decide +kernel
theorem dX1_walkKept_46 : decode cX1_walkKept 46 = .ok (.getfield 40, 3) := by decide +kernel
theorem dX1_walkKept_49 : decode cX1_walkKept 49 = .ok (.iload_n 2, 1) := by decide +kernel
theorem dX1_walkKept_50 : decode cX1_walkKept 50 = .ok (.aaload, 1) := by decide +kernel
theorem dX1_walkKept_51 : decode cX1_walkKept 51 = .ok (.iload_n 3, 1) := by decide +kernel
theorem dX1_walkKept_52 : decode cX1_walkKept 52 = .ok (.bipush 16, 2) := by decide +kernel
theorem dX1_walkKept_54 : decode cX1_walkKept 54 = .ok (.imul, 1) := by decide +kernel
theorem dX1_walkKept_55 : decode cX1_walkKept 55 = .ok (.iload 4, 2) := by decide +kernel
theorem dX1_walkKept_57 : decode cX1_walkKept 57 = .ok (.iadd, 1) := by decide +kernel
theorem dX1_walkKept_58 : decode cX1_walkKept 58 = .ok (.iaload, 1) := by decide +kernel
theorem dX1_walkKept_59 : decode cX1_walkKept 59 = .ok (.invokestatic 88, 3) := by decide +kernel
theorem dX1_walkKept_62 : decode cX1_walkKept 62 = .ok (.iinc 4 1, 3) := by decide +kernel
theorem dX1_walkKept_65 : decode cX1_walkKept 65 = .ok (.goto (-37), 3) := by decide +kernel
theorem dX1_walkKept_68 : decode cX1_walkKept 68 = .ok (.iinc 3 1, 3) := by decide +kernel
theorem dX1_walkKept_71 : decode cX1_walkKept 71 = .ok (.goto (-61), 3) := by decide +kernel
theorem dX1_walkKept_74 : decode cX1_walkKept 74 = .ok (.iinc 2 1, 3) := by decide +kernel
theorem dX1_walkKept_77 : decode cX1_walkKept 77 = .ok (.goto (-75), 3) := by decide +kernel
theorem dX1_walkKept_80 : decode cX1_walkKept 80 = .ok (.return_, 1) := by decide +kernel
theorem dX2_init_0 : decode cX2_init 0 = .ok (.aload_n 0, 1) := by decide +kernel
theorem dX2_init_1 : decode cX2_init 1 = .ok (.invokespecial 3, 3) := by decide +kernel
theorem dX2_init_4 : decode cX2_init 4 = .ok (.aload_n 0, 1) := by decide +kernel
theorem dX2_init_5 : decode cX2_init 5 = .ok (.iconst 0, 1) := by decide +kernel
theorem dX2_init_6 : decode cX2_init 6 = .ok (.putfield 9, 3) := by decide +kernel
theorem dX2_init_9 : decode cX2_init 9 = .ok (.aload_n 0, 1) := by decide +kernel
theorem dX2_init_10 : decode cX2_init 10 = .ok (.bipush 40, 2) := by decide +kernel
theorem dX2_init_12 : decode cX2_init 12 = .ok (.newarray .int, 2) := by decide +kernel
theorem dX2_init_14 : decode cX2_init 14 = .ok (.putfield 15, 3) := by decide +kernel
theorem dX2_init_17 : decode cX2_init 17 = .ok (.aload_n 0, 1) := by decide +kernel
theorem dX2_init_18 : decode cX2_init 18 = .ok (.bipush 40, 2) := by decide +kernel
theorem dX2_init_20 : decode cX2_init 20 = .ok (.newarray .int, 2) := by decide +kernel
theorem dX2_init_22 : decode cX2_init 22 = .ok (.putfield 19, 3) := by decide +kernel
theorem dX2_init_25 : decode cX2_init 25 = .ok (.aload_n 0, 1) := by decide +kernel
theorem dX2_init_26 : decode cX2_init 26 = .ok (.bipush 40, 2) := by decide +kernel
theorem dX2_init_28 : decode cX2_init 28 = .ok (.newarray .boolean, 2) := by decide +kernel
theorem dX2_init_30 : decode cX2_init 30 = .ok (.putfield 22, 3) := by decide +kernel
theorem dX2_init_33 : decode cX2_init 33 = .ok (.aload_n 0, 1) := by decide +kernel
theorem dX2_init_34 : decode cX2_init 34 = .ok (.sipush 640, 3) := by decide +kernel
theorem dX2_init_37 : decode cX2_init 37 = .ok (.newarray .int, 2) := by decide +kernel
theorem dX2_init_39 : decode cX2_init 39 = .ok (.putfield 26, 3) := by decide +kernel
theorem dX2_init_42 : decode cX2_init 42 = .ok (.aload_n 0, 1) := by decide +kernel
theorem dX2_init_43 : decode cX2_init 43 = .ok (.getfield 26, 3) := by decide +kernel
theorem dX2_init_46 : decode cX2_init 46 = .ok (.iconst (-1), 1) := by decide +kernel
theorem dX2_init_47 : decode cX2_init 47 = .ok (.invokestatic 29, 3) := by decide +kernel
theorem dX2_init_50 : decode cX2_init 50 = .ok (.aload_n 0, 1) := by decide +kernel
theorem dX2_init_51 : decode cX2_init 51 = .ok (.bipush 64, 2) := by decide +kernel
theorem dX2_init_53 : decode cX2_init 53 = .ok (.newarray .int, 2) := by decide +kernel
theorem dX2_init_55 : decode cX2_init 55 = .ok (.putfield 35, 3) := by decide +kernel
theorem dX2_init_58 : decode cX2_init 58 = .ok (.aload_n 0, 1) := by decide +kernel
theorem dX2_init_59 : decode cX2_init 59 = .ok (.bipush 64, 2) := by decide +kernel
theorem dX2_init_61 : decode cX2_init 61 = .ok (.newarray .int, 2) := by decide +kernel
theorem dX2_init_63 : decode cX2_init 63 = .ok (.putfield 38, 3) := by decide +kernel
theorem dX2_init_66 : decode cX2_init 66 = .ok (.aload_n 0, 1) := by decide +kernel
theorem dX2_init_67 : decode cX2_init 67 = .ok (.iconst 4, 1) := by decide +kernel
theorem dX2_init_68 : decode cX2_init 68 = .ok (.newarray .int, 2) := by decide +kernel
theorem dX2_init_70 : decode cX2_init 70 = .ok (.putfield 41, 3) := by decide +kernel
theorem dX2_init_73 : decode cX2_init 73 = .ok (.aload_n 0, 1) := by decide +kernel
theorem dX2_init_74 : decode cX2_init 74 = .ok (.iconst 0, 1) := by decide +kernel
theorem dX2_init_75 : decode cX2_init 75 = .ok (.putfield 44, 3) := by decide +kernel
theorem dX2_init_78 : decode cX2_init 78 = .ok (.return_, 1) := by decide +kernel
theorem dX2_copyFrom_0 : decode cX2_copyFrom 0 = .ok (.aload_n 0, 1) := by decide +kernel
theorem dX2_copyFrom_1 : decode cX2_copyFrom 1 = .ok (.aload_n 1, 1) := by decide +kernel
theorem dX2_copyFrom_2 : decode cX2_copyFrom 2 = .ok (.getfield 9, 3) := by decide +kernel
theorem dX2_copyFrom_5 : decode cX2_copyFrom 5 = .ok (.putfield 9, 3) := by decide +kernel
theorem dX2_copyFrom_8 : decode cX2_copyFrom 8 = .ok (.aload_n 1, 1) := by decide +kernel
theorem dX2_copyFrom_9 : decode cX2_copyFrom 9 = .ok (.getfield 15, 3) := by decide +kernel
theorem dX2_copyFrom_12 : decode cX2_copyFrom 12 = .ok (.iconst 0, 1) := by decide +kernel
theorem dX2_copyFrom_13 : decode cX2_copyFrom 13 = .ok (.aload_n 0, 1) := by decide +kernel
theorem dX2_copyFrom_14 : decode cX2_copyFrom 14 = .ok (.getfield 15, 3) := by decide +kernel
theorem dX2_copyFrom_17 : decode cX2_copyFrom 17 = .ok (.iconst 0, 1) := by decide +kernel
theorem dX2_copyFrom_18 : decode cX2_copyFrom 18 = .ok (.bipush 40, 2) := by decide +kernel
theorem dX2_copyFrom_20 : decode cX2_copyFrom 20 = .ok (.invokestatic 47, 3) := by decide +kernel
theorem dX2_copyFrom_23 : decode cX2_copyFrom 23 = .ok (.aload_n 1, 1) := by decide +kernel
theorem dX2_copyFrom_24 : decode cX2_copyFrom 24 = .ok (.getfield 19, 3) := by decide +kernel
theorem dX2_copyFrom_27 : decode cX2_copyFrom 27 = .ok (.iconst 0, 1) := by decide +kernel
theorem dX2_copyFrom_28 : decode cX2_copyFrom 28 = .ok (.aload_n 0, 1) := by decide +kernel
theorem dX2_copyFrom_29 : decode cX2_copyFrom 29 = .ok (.getfield 19, 3) := by decide +kernel
theorem dX2_copyFrom_32 : decode cX2_copyFrom 32 = .ok (.iconst 0, 1) := by decide +kernel
theorem dX2_copyFrom_33 : decode cX2_copyFrom 33 = .ok (.bipush 40, 2) := by decide +kernel
theorem dX2_copyFrom_35 : decode cX2_copyFrom 35 = .ok (.invokestatic 47, 3) := by decide +kernel
theorem dX2_copyFrom_38 : decode cX2_copyFrom 38 = .ok (.iconst 0, 1) := by decide +kernel
theorem dX2_copyFrom_39 : decode cX2_copyFrom 39 = .ok (.istore_n 2, 1) := by decide +kernel
theorem dX2_copyFrom_40 : decode cX2_copyFrom 40 = .ok (.iload_n 2, 1) := by decide +kernel
theorem dX2_copyFrom_41 : decode cX2_copyFrom 41 = .ok (.bipush 40, 2) := by decide +kernel
theorem dX2_copyFrom_43 : decode cX2_copyFrom 43 = .ok (.if_icmp .ge 21, 3) := by decide +kernel
theorem dX2_copyFrom_46 : decode cX2_copyFrom 46 = .ok (.aload_n 0, 1) := by decide +kernel
theorem dX2_copyFrom_47 : decode cX2_copyFrom 47 = .ok (.getfield 22, 3) := by decide +kernel
theorem dX2_copyFrom_50 : decode cX2_copyFrom 50 = .ok (.iload_n 2, 1) := by decide +kernel
theorem dX2_copyFrom_51 : decode cX2_copyFrom 51 = .ok (.aload_n 1, 1) := by decide +kernel
theorem dX2_copyFrom_52 : decode cX2_copyFrom 52 = .ok (.getfield 22, 3) := by decide +kernel
theorem dX2_copyFrom_55 : decode cX2_copyFrom 55 = .ok (.iload_n 2, 1) := by decide +kernel
theorem dX2_copyFrom_56 : decode cX2_copyFrom 56 = .ok (.baload, 1) := by decide +kernel
theorem dX2_copyFrom_57 : decode cX2_copyFrom 57 = .ok (.bastore, 1) := by decide +kernel
theorem dX2_copyFrom_58 : decode cX2_copyFrom 58 = .ok (.iinc 2 1, 3) := by decide +kernel
theorem dX2_copyFrom_61 : decode cX2_copyFrom 61 = .ok (.goto (-21), 3) := by decide +kernel
theorem dX2_copyFrom_64 : decode cX2_copyFrom 64 = .ok (.aload_n 1, 1) := by decide +kernel
theorem dX2_copyFrom_65 : decode cX2_copyFrom 65 = .ok (.getfield 26, 3) := by decide +kernel
theorem dX2_copyFrom_68 : decode cX2_copyFrom 68 = .ok (.iconst 0, 1) := by decide +kernel
theorem dX2_copyFrom_69 : decode cX2_copyFrom 69 = .ok (.aload_n 0, 1) := by decide +kernel
theorem dX2_copyFrom_70 : decode cX2_copyFrom 70 = .ok (.getfield 26, 3) := by decide +kernel
theorem dX2_copyFrom_73 : decode cX2_copyFrom 73 = .ok (.iconst 0, 1) := by decide +kernel
theorem dX2_copyFrom_74 : decode cX2_copyFrom 74 = .ok (.sipush 640, 3) := by decide +kernel
theorem dX2_copyFrom_77 : decode cX2_copyFrom 77 = .ok (.invokestatic 47, 3) := by decide +kernel
theorem dX2_copyFrom_80 : decode cX2_copyFrom 80 = .ok (.aload_n 1, 1) := by decide +kernel
theorem dX2_copyFrom_81 : decode cX2_copyFrom 81 = .ok (.getfield 35, 3) := by decide +kernel
theorem dX2_copyFrom_84 : decode cX2_copyFrom 84 = .ok (.iconst 0, 1) := by decide +kernel
theorem dX2_copyFrom_85 : decode cX2_copyFrom 85 = .ok (.aload_n 0, 1) := by decide +kernel
theorem dX2_copyFrom_86 : decode cX2_copyFrom 86 = .ok (.getfield 35, 3) := by decide +kernel
theorem dX2_copyFrom_89 : decode cX2_copyFrom 89 = .ok (.iconst 0, 1) := by decide +kernel
theorem dX2_copyFrom_90 : decode cX2_copyFrom 90 = .ok (.bipush 64, 2) := by decide +kernel
theorem dX2_copyFrom_92 : decode cX2_copyFrom 92 = .ok (.invokestatic 47, 3) := by decide +kernel
theorem dX2_copyFrom_95 : decode cX2_copyFrom 95 = .ok (.aload_n 1, 1) := by decide +kernel
theorem dX2_copyFrom_96 : decode cX2_copyFrom 96 = .ok (.getfield 38, 3) := by decide +kernel
theorem dX2_copyFrom_99 : decode cX2_copyFrom 99 = .ok (.iconst 0, 1) := by decide +kernel
theorem dX2_copyFrom_100 : decode cX2_copyFrom 100 = .ok (.aload_n 0, 1) := by decide +kernel
theorem dX2_copyFrom_101 : decode cX2_copyFrom 101 = .ok (.getfield 38, 3) := by decide +kernel
theorem dX2_copyFrom_104 : decode cX2_copyFrom 104 = .ok (.iconst 0, 1) := by decide +kernel
theorem dX2_copyFrom_105 : decode cX2_copyFrom 105 = .ok (.bipush 64, 2) := by decide +kernel
theorem dX2_copyFrom_107 : decode cX2_copyFrom 107 = .ok (.invokestatic 47, 3) := by decide +kernel
theorem dX2_copyFrom_110 : decode cX2_copyFrom 110 = .ok (.aload_n 1, 1) := by decide +kernel
theorem dX2_copyFrom_111 : decode cX2_copyFrom 111 = .ok (.getfield 41, 3) := by decide +kernel
theorem dX2_copyFrom_114 : decode cX2_copyFrom 114 = .ok (.iconst 0, 1) := by decide +kernel
theorem dX2_copyFrom_115 : decode cX2_copyFrom 115 = .ok (.aload_n 0, 1) := by decide +kernel
theorem dX2_copyFrom_116 : decode cX2_copyFrom 116 = .ok (.getfield 41, 3) := by decide +kernel
theorem dX2_copyFrom_119 : decode cX2_copyFrom 119 = .ok (.iconst 0, 1) := by decide +kernel
theorem dX2_copyFrom_120 : decode cX2_copyFrom 120 = .ok (.iconst 4, 1) := by decide +kernel
theorem dX2_copyFrom_121 : decode cX2_copyFrom 121 = .ok (.invokestatic 47, 3) := by decide +kernel
theorem dX2_copyFrom_124 : decode cX2_copyFrom 124 = .ok (.aload_n 0, 1) := by decide +kernel
theorem dX2_copyFrom_125 : decode cX2_copyFrom 125 = .ok (.aload_n 1, 1) := by decide +kernel
theorem dX2_copyFrom_126 : decode cX2_copyFrom 126 = .ok (.getfield 44, 3) := by decide +kernel
theorem dX2_copyFrom_129 : decode cX2_copyFrom 129 = .ok (.putfield 44, 3) := by decide +kernel
theorem dX2_copyFrom_132 : decode cX2_copyFrom 132 = .ok (.return_, 1) := by decide +kernel
theorem dX2_entryTotal_0 : decode cX2_entryTotal 0 = .ok (.aload_n 0, 1) := by decide +kernel
theorem dX2_entryTotal_1 : decode cX2_entryTotal 1 = .ok (.getfield 44, 3) := by decide +kernel
theorem dX2_entryTotal_4 : decode cX2_entryTotal 4 = .ok (.ireturn, 1) := by decide +kernel
theorem dX2_setEntries_0 : decode cX2_setEntries 0 = .ok (.aload_n 0, 1) := by decide +kernel
theorem dX2_setEntries_1 : decode cX2_setEntries 1 = .ok (.iload_n 1, 1) := by decide +kernel
theorem dX2_setEntries_2 : decode cX2_setEntries 2 = .ok (.putfield 44, 3) := by decide +kernel
theorem dX2_setEntries_5 : decode cX2_setEntries 5 = .ok (.return_, 1) := by decide +kernel
theorem dX2_fileTotal_0 : decode cX2_fileTotal 0 = .ok (.aload_n 0, 1) := by decide +kernel
theorem dX2_fileTotal_1 : decode cX2_fileTotal 1 = .ok (.getfield 9, 3) := by decide +kernel
theorem dX2_fileTotal_4 : decode cX2_fileTotal 4 = .ok (.ireturn, 1) := by decide +kernel
theorem dX2_hasFile_0 : decode cX2_hasFile 0 = .ok (.iload_n 1, 1) := by decide +kernel
theorem dX2_hasFile_1 : decode cX2_hasFile 1 = .ok (.ifCond .lt 21, 3) := by decide +kernel
theorem dX2_hasFile_4 : decode cX2_hasFile 4 = .ok (.iload_n 1, 1) := by decide +kernel
theorem dX2_hasFile_5 : decode cX2_hasFile 5 = .ok (.aload_n 0, 1) := by decide +kernel
theorem dX2_hasFile_6 : decode cX2_hasFile 6 = .ok (.getfield 9, 3) := by decide +kernel
theorem dX2_hasFile_9 : decode cX2_hasFile 9 = .ok (.if_icmp .ge 13, 3) := by decide +kernel
theorem dX2_hasFile_12 : decode cX2_hasFile 12 = .ok (.iload_n 1, 1) := by decide +kernel
theorem dX2_hasFile_13 : decode cX2_hasFile 13 = .ok (.bipush 40, 2) := by decide +kernel
theorem dX2_hasFile_15 : decode cX2_hasFile 15 = .ok (.if_icmp .ge 7, 3) := by decide +kernel
theorem dX2_hasFile_18 : decode cX2_hasFile 18 = .ok (.iconst 1, 1) := by decide +kernel
theorem dX2_hasFile_19 : decode cX2_hasFile 19 = .ok (.goto 4, 3) := by decide +kernel
theorem dX2_hasFile_22 : decode cX2_hasFile 22 = .ok (.iconst 0, 1) := by decide +kernel
theorem dX2_hasFile_23 : decode cX2_hasFile 23 = .ok (.ireturn, 1) := by decide +kernel
theorem dX2_addFile_0 : decode cX2_addFile 0 = .ok (.aload_n 0, 1) := by decide +kernel
theorem dX2_addFile_1 : decode cX2_addFile 1 = .ok (.getfield 9, 3) := by decide +kernel
theorem dX2_addFile_4 : decode cX2_addFile 4 = .ok (.bipush 40, 2) := by decide +kernel
theorem dX2_addFile_6 : decode cX2_addFile 6 = .ok (.if_icmp .lt 5, 3) := by decide +kernel
theorem dX2_addFile_9 : decode cX2_addFile 9 = .ok (.iconst (-1), 1) := by decide +kernel
theorem dX2_addFile_10 : decode cX2_addFile 10 = .ok (.ireturn, 1) := by decide +kernel
theorem dX2_addFile_11 : decode cX2_addFile 11 = .ok (.aload_n 0, 1) := by decide +kernel
theorem dX2_addFile_12 : decode cX2_addFile 12 = .ok (.getfield 9, 3) := by decide +kernel
theorem dX2_addFile_15 : decode cX2_addFile 15 = .ok (.istore_n 2, 1) := by decide +kernel
theorem dX2_addFile_16 : decode cX2_addFile 16 = .ok (.aload_n 0, 1) := by decide +kernel
theorem dX2_addFile_17 : decode cX2_addFile 17 = .ok (.getfield 15, 3) := by decide +kernel
theorem dX2_addFile_20 : decode cX2_addFile 20 = .ok (.iload_n 2, 1) := by decide +kernel
theorem dX2_addFile_21 : decode cX2_addFile 21 = .ok (.iload_n 1, 1) := by decide +kernel
theorem dX2_addFile_22 : decode cX2_addFile 22 = .ok (.iastore, 1) := by decide +kernel
theorem dX2_addFile_23 : decode cX2_addFile 23 = .ok (.aload_n 0, 1) := by decide +kernel
theorem dX2_addFile_24 : decode cX2_addFile 24 = .ok (.getfield 19, 3) := by decide +kernel
theorem dX2_addFile_27 : decode cX2_addFile 27 = .ok (.iload_n 2, 1) := by decide +kernel
theorem dX2_addFile_28 : decode cX2_addFile 28 = .ok (.iconst 1, 1) := by decide +kernel
theorem dX2_addFile_29 : decode cX2_addFile 29 = .ok (.iastore, 1) := by decide +kernel
theorem dX2_addFile_30 : decode cX2_addFile 30 = .ok (.aload_n 0, 1) := by decide +kernel
theorem dX2_addFile_31 : decode cX2_addFile 31 = .ok (.getfield 22, 3) := by decide +kernel
theorem dX2_addFile_34 : decode cX2_addFile 34 = .ok (.iload_n 2, 1) := by decide +kernel
theorem dX2_addFile_35 : decode cX2_addFile 35 = .ok (.iconst 1, 1) := by decide +kernel
theorem dX2_addFile_36 : decode cX2_addFile 36 = .ok (.bastore, 1) := by decide +kernel
theorem dX2_addFile_37 : decode cX2_addFile 37 = .ok (.aload_n 0, 1) := by decide +kernel
theorem dX2_addFile_38 : decode cX2_addFile 38 = .ok (.iload_n 2, 1) := by decide +kernel
theorem dX2_addFile_39 : decode cX2_addFile 39 = .ok (.iconst 1, 1) := by decide +kernel
theorem dX2_addFile_40 : decode cX2_addFile 40 = .ok (.iadd, 1) := by decide +kernel
theorem dX2_addFile_41 : decode cX2_addFile 41 = .ok (.putfield 9, 3) := by decide +kernel
theorem dX2_addFile_44 : decode cX2_addFile 44 = .ok (.iload_n 2, 1) := by decide +kernel
theorem dX2_addFile_45 : decode cX2_addFile 45 = .ok (.ireturn, 1) := by decide +kernel
theorem dX2_removeFile_0 : decode cX2_removeFile 0 = .ok (.aload_n 0, 1) := by decide +kernel
theorem dX2_removeFile_1 : decode cX2_removeFile 1 = .ok (.iload_n 1, 1) := by decide +kernel
theorem dX2_removeFile_2 : decode cX2_removeFile 2 = .ok (.invokevirtual 53, 3) := by decide +kernel
theorem dX2_removeFile_5 : decode cX2_removeFile 5 = .ok (.ifCond .eq 31, 3) := by decide +kernel
theorem dX2_removeFile_8 : decode cX2_removeFile 8 = .ok (.aload_n 0, 1) := by decide +kernel
theorem dX2_removeFile_9 : decode cX2_removeFile 9 = .ok (.getfield 22, 3) := by decide +kernel
theorem dX2_removeFile_12 : decode cX2_removeFile 12 = .ok (.iload_n 1, 1) := by decide +kernel
theorem dX2_removeFile_13 : decode cX2_removeFile 13 = .ok (.iconst 0, 1) := by decide +kernel
theorem dX2_removeFile_14 : decode cX2_removeFile 14 = .ok (.bastore, 1) := by decide +kernel
theorem dX2_removeFile_15 : decode cX2_removeFile 15 = .ok (.iconst 0, 1) := by decide +kernel
theorem dX2_removeFile_16 : decode cX2_removeFile 16 = .ok (.istore_n 2, 1) := by decide +kernel
theorem dX2_removeFile_17 : decode cX2_removeFile 17 = .ok (.iload_n 2, 1) := by decide +kernel
theorem dX2_removeFile_18 : decode cX2_removeFile 18 = .ok (.bipush 16, 2) := by decide +kernel
theorem dX2_removeFile_20 : decode cX2_removeFile 20 = .ok (.if_icmp .ge 16, 3) := by decide +kernel
theorem dX2_removeFile_23 : decode cX2_removeFile 23 = .ok (.aload_n 0, 1) := by decide +kernel
theorem dX2_removeFile_24 : decode cX2_removeFile 24 = .ok (.iload_n 1, 1) := by decide +kernel
theorem dX2_removeFile_25 : decode cX2_removeFile 25 = .ok (.iload_n 2, 1) := by decide +kernel
theorem dX2_removeFile_26 : decode cX2_removeFile 26 = .ok (.iconst (-1), 1) := by decide +kernel
theorem dX2_removeFile_27 : decode cX2_removeFile 27 = .ok (.invokevirtual 57, 3) := by decide +kernel
theorem dX2_removeFile_30 : decode cX2_removeFile 30 = .ok (.iinc 2 1, 3) := by decide +kernel
theorem dX2_removeFile_33 : decode cX2_removeFile 33 = .ok (.goto (-16), 3) := by decide +kernel
theorem dX2_removeFile_36 : decode cX2_removeFile 36 = .ok (.return_, 1) := by decide +kernel
theorem dX2_isAlive_0 : decode cX2_isAlive 0 = .ok (.aload_n 0, 1) := by decide +kernel
theorem dX2_isAlive_1 : decode cX2_isAlive 1 = .ok (.iload_n 1, 1) := by decide +kernel
theorem dX2_isAlive_2 : decode cX2_isAlive 2 = .ok (.invokevirtual 53, 3) := by decide +kernel
theorem dX2_isAlive_5 : decode cX2_isAlive 5 = .ok (.ifCond .eq 16, 3) := by decide +kernel
theorem dX2_isAlive_8 : decode cX2_isAlive 8 = .ok (.aload_n 0, 1) := by decide +kernel
theorem dX2_isAlive_9 : decode cX2_isAlive 9 = .ok (.getfield 22, 3) := by decide +kernel
theorem dX2_isAlive_12 : decode cX2_isAlive 12 = .ok (.iload_n 1, 1) := by decide +kernel
theorem dX2_isAlive_13 : decode cX2_isAlive 13 = .ok (.baload, 1) := by decide +kernel
theorem dX2_isAlive_14 : decode cX2_isAlive 14 = .ok (.ifCond .eq 7, 3) := by decide +kernel
theorem dX2_isAlive_17 : decode cX2_isAlive 17 = .ok (.iconst 1, 1) := by decide +kernel
theorem dX2_isAlive_18 : decode cX2_isAlive 18 = .ok (.goto 4, 3) := by decide +kernel
theorem dX2_isAlive_21 : decode cX2_isAlive 21 = .ok (.iconst 0, 1) := by decide +kernel
theorem dX2_isAlive_22 : decode cX2_isAlive 22 = .ok (.ireturn, 1) := by decide +kernel
theorem dX2_ownerIn_0 : decode cX2_ownerIn 0 = .ok (.aload_n 0, 1) := by decide +kernel
theorem dX2_ownerIn_1 : decode cX2_ownerIn 1 = .ok (.iload_n 1, 1) := by decide +kernel
theorem dX2_ownerIn_2 : decode cX2_ownerIn 2 = .ok (.invokevirtual 53, 3) := by decide +kernel
theorem dX2_ownerIn_5 : decode cX2_ownerIn 5 = .ok (.ifCond .eq 12, 3) := by decide +kernel
theorem dX2_ownerIn_8 : decode cX2_ownerIn 8 = .ok (.aload_n 0, 1) := by decide +kernel
theorem dX2_ownerIn_9 : decode cX2_ownerIn 9 = .ok (.getfield 15, 3) := by decide +kernel
theorem dX2_ownerIn_12 : decode cX2_ownerIn 12 = .ok (.iload_n 1, 1) := by decide +kernel
theorem dX2_ownerIn_13 : decode cX2_ownerIn 13 = .ok (.iaload, 1) := by decide +kernel
theorem dX2_ownerIn_14 : decode cX2_ownerIn 14 = .ok (.goto 4, 3) := by decide +kernel
theorem dX2_ownerIn_17 : decode cX2_ownerIn 17 = .ok (.iconst (-1), 1) := by decide +kernel
theorem dX2_ownerIn_18 : decode cX2_ownerIn 18 = .ok (.ireturn, 1) := by decide +kernel
theorem dX2_linkTotal_0 : decode cX2_linkTotal 0 = .ok (.aload_n 0, 1) := by decide +kernel
theorem dX2_linkTotal_1 : decode cX2_linkTotal 1 = .ok (.iload_n 1, 1) := by decide +kernel
theorem dX2_linkTotal_2 : decode cX2_linkTotal 2 = .ok (.invokevirtual 53, 3) := by decide +kernel
theorem dX2_linkTotal_5 : decode cX2_linkTotal 5 = .ok (.ifCond .eq 12, 3) := by decide +kernel
theorem dX2_linkTotal_8 : decode cX2_linkTotal 8 = .ok (.aload_n 0, 1) := by decide +kernel
theorem dX2_linkTotal_9 : decode cX2_linkTotal 9 = .ok (.getfield 19, 3) := by decide +kernel
theorem dX2_linkTotal_12 : decode cX2_linkTotal 12 = .ok (.iload_n 1, 1) := by decide +kernel
theorem dX2_linkTotal_13 : decode cX2_linkTotal 13 = .ok (.iaload, 1) := by decide +kernel
theorem dX2_linkTotal_14 : decode cX2_linkTotal 14 = .ok (.goto 4, 3) := by decide +kernel
theorem dX2_linkTotal_17 : decode cX2_linkTotal 17 = .ok (.iconst 0, 1) := by decide +kernel
theorem dX2_linkTotal_18 : decode cX2_linkTotal 18 = .ok (.ireturn, 1) := by decide +kernel
theorem dX2_setLinks_0 : decode cX2_setLinks 0 = .ok (.aload_n 0, 1) := by decide +kernel
theorem dX2_setLinks_1 : decode cX2_setLinks 1 = .ok (.iload_n 1, 1) := by decide +kernel
theorem dX2_setLinks_2 : decode cX2_setLinks 2 = .ok (.invokevirtual 53, 3) := by decide +kernel
theorem dX2_setLinks_5 : decode cX2_setLinks 5 = .ok (.ifCond .eq 10, 3) := by decide +kernel
theorem dX2_setLinks_8 : decode cX2_setLinks 8 = .ok (.aload_n 0, 1) := by decide +kernel
theorem dX2_setLinks_9 : decode cX2_setLinks 9 = .ok (.getfield 19, 3) := by decide +kernel
theorem dX2_setLinks_12 : decode cX2_setLinks 12 = .ok (.iload_n 1, 1) := by decide +kernel
theorem dX2_setLinks_13 : decode cX2_setLinks 13 = .ok (.iload_n 2, 1) := by decide +kernel
theorem dX2_setLinks_14 : decode cX2_setLinks 14 = .ok (.iastore, 1) := by decide +kernel
theorem dX2_setLinks_15 : decode cX2_setLinks 15 = .ok (.return_, 1) := by decide +kernel
theorem dX2_blockIn_0 : decode cX2_blockIn 0 = .ok (.aload_n 0, 1) := by decide +kernel
theorem dX2_blockIn_1 : decode cX2_blockIn 1 = .ok (.iload_n 1, 1) := by decide +kernel
theorem dX2_blockIn_2 : decode cX2_blockIn 2 = .ok (.invokevirtual 53, 3) := by decide +kernel
theorem dX2_blockIn_5 : decode cX2_blockIn 5 = .ok (.ifCond .eq 24, 3) := by decide +kernel
theorem dX2_blockIn_8 : decode cX2_blockIn 8 = .ok (.iload_n 2, 1) := by decide +kernel
theorem dX2_blockIn_9 : decode cX2_blockIn 9 = .ok (.invokestatic 61, 3) := by decide +kernel
theorem dX2_blockIn_12 : decode cX2_blockIn 12 = .ok (.ifCond .eq 17, 3) := by decide +kernel
theorem dX2_blockIn_15 : decode cX2_blockIn 15 = .ok (.aload_n 0, 1) := by decide +kernel
theorem dX2_blockIn_16 : decode cX2_blockIn 16 = .ok (.getfield 26, 3) := by decide +kernel
theorem dX2_blockIn_19 : decode cX2_blockIn 19 = .ok (.iload_n 1, 1) := by decide +kernel
theorem dX2_blockIn_20 : decode cX2_blockIn 20 = .ok (.bipush 16, 2) := by decide +kernel
theorem dX2_blockIn_22 : decode cX2_blockIn 22 = .ok (.imul, 1) := by decide +kernel
theorem dX2_blockIn_23 : decode cX2_blockIn 23 = .ok (.iload_n 2, 1) := by decide +kernel
theorem dX2_blockIn_24 : decode cX2_blockIn 24 = .ok (.iadd, 1) := by decide +kernel
theorem dX2_blockIn_25 : decode cX2_blockIn 25 = .ok (.iaload, 1) := by decide +kernel
theorem dX2_blockIn_26 : decode cX2_blockIn 26 = .ok (.goto 4, 3) := by decide +kernel
theorem dX2_blockIn_29 : decode cX2_blockIn 29 = .ok (.iconst (-1), 1) := by decide +kernel
theorem dX2_blockIn_30 : decode cX2_blockIn 30 = .ok (.ireturn, 1) := by decide +kernel
theorem dX2_setBlock_0 : decode cX2_setBlock 0 = .ok (.aload_n 0, 1) := by decide +kernel
theorem dX2_setBlock_1 : decode cX2_setBlock 1 = .ok (.iload_n 1, 1) := by decide +kernel
theorem dX2_setBlock_2 : decode cX2_setBlock 2 = .ok (.invokevirtual 53, 3) := by decide +kernel
theorem dX2_setBlock_5 : decode cX2_setBlock 5 = .ok (.ifCond .eq 42, 3) := by decide +kernel
theorem dX2_setBlock_8 : decode cX2_setBlock 8 = .ok (.iload_n 2, 1) := by decide +kernel
theorem dX2_setBlock_9 : decode cX2_setBlock 9 = .ok (.invokestatic 61, 3) := by decide +kernel
theorem dX2_setBlock_12 : decode cX2_setBlock 12 = .ok (.ifCond .eq 35, 3) := by decide +kernel
theorem dX2_setBlock_15 : decode cX2_setBlock 15 = .ok (.iload_n 1, 1) := by decide +kernel
theorem dX2_setBlock_16 : decode cX2_setBlock 16 = .ok (.bipush 16, 2) := by decide +kernel
theorem dX2_setBlock_18 : decode cX2_setBlock 18 = .ok (.imul, 1) := by decide +kernel
theorem dX2_setBlock_19 : decode cX2_setBlock 19 = .ok (.iload_n 2, 1) := by decide +kernel
theorem dX2_setBlock_20 : decode cX2_setBlock 20 = .ok (.iadd, 1) := by decide +kernel
theorem dX2_setBlock_21 : decode cX2_setBlock 21 = .ok (.istore 4, 2) := by decide +kernel
theorem dX2_setBlock_23 : decode cX2_setBlock 23 = .ok (.aload_n 0, 1) := by decide +kernel
theorem dX2_setBlock_24 : decode cX2_setBlock 24 = .ok (.aload_n 0, 1) := by decide +kernel
theorem dX2_setBlock_25 : decode cX2_setBlock 25 = .ok (.getfield 26, 3) := by decide +kernel
theorem dX2_setBlock_28 : decode cX2_setBlock 28 = .ok (.iload 4, 2) := by decide +kernel
theorem dX2_setBlock_30 : decode cX2_setBlock 30 = .ok (.iaload, 1) := by decide +kernel
theorem dX2_setBlock_31 : decode cX2_setBlock 31 = .ok (.invokevirtual 64, 3) := by decide +kernel
theorem dX2_setBlock_34 : decode cX2_setBlock 34 = .ok (.aload_n 0, 1) := by decide +kernel
theorem dX2_setBlock_35 : decode cX2_setBlock 35 = .ok (.iload_n 3, 1) := by decide +kernel
theorem dX2_setBlock_36 : decode cX2_setBlock 36 = .ok (.invokevirtual 68, 3) := by decide +kernel
theorem dX2_setBlock_39 : decode cX2_setBlock 39 = .ok (.aload_n 0, 1) := by decide +kernel
theorem dX2_setBlock_40 : decode cX2_setBlock 40 = .ok (.getfield 26, 3) := by decide +kernel
theorem dX2_setBlock_43 : decode cX2_setBlock 43 = .ok (.iload 4, 2) := by decide +kernel
theorem dX2_setBlock_45 : decode cX2_setBlock 45 = .ok (.iload_n 3, 1) := by decide +kernel
theorem dX2_setBlock_46 : decode cX2_setBlock 46 = .ok (.iastore, 1) := by decide +kernel
theorem dX2_setBlock_47 : decode cX2_setBlock 47 = .ok (.return_, 1) := by decide +kernel
theorem dX2_blocksInFile_0 : decode cX2_blocksInFile 0 = .ok (.lconst 0, 1) := by decide +kernel
theorem dX2_blocksInFile_1 : decode cX2_blocksInFile 1 = .ok (.lstore_n 3, 1) := by decide +kernel
theorem dX2_blocksInFile_2 : decode cX2_blocksInFile 2 = .ok (.iconst 0, 1) := by decide +kernel
theorem dX2_blocksInFile_3 : decode cX2_blocksInFile 3 = .ok (.istore 5, 2) := by decide +kernel
theorem dX2_blocksInFile_5 : decode cX2_blocksInFile 5 = .ok (.iload 5, 2) := by decide +kernel
theorem dX2_blocksInFile_7 : decode cX2_blocksInFile 7 = .ok (.bipush 16, 2) := by decide +kernel
theorem dX2_blocksInFile_9 : decode cX2_blocksInFile 9 = .ok (.if_icmp .ge 37, 3) := by decide +kernel
theorem dX2_blocksInFile_12 : decode cX2_blocksInFile 12 = .ok (.aload_n 0, 1) := by decide +kernel
theorem dX2_blocksInFile_13 : decode cX2_blocksInFile 13 = .ok (.iload_n 1, 1) := by decide +kernel
theorem dX2_blocksInFile_14 : decode cX2_blocksInFile 14 = .ok (.iload 5, 2) := by decide +kernel
theorem dX2_blocksInFile_16 : decode cX2_blocksInFile 16 = .ok (.invokevirtual 71, 3) := by decide +kernel
theorem dX2_blocksInFile_19 : decode cX2_blocksInFile 19 = .ok (.istore 6, 2) := by decide +kernel
theorem dX2_blocksInFile_21 : decode cX2_blocksInFile 21 = .ok (.iload 5, 2) := by decide +kernel
theorem dX2_blocksInFile_23 : decode cX2_blocksInFile 23 = .ok (.iload_n 2, 1) := by decide +kernel
theorem dX2_blocksInFile_24 : decode cX2_blocksInFile 24 = .ok (.if_icmp .eq 16, 3) := by decide +kernel
theorem dX2_blocksInFile_27 : decode cX2_blocksInFile 27 = .ok (.iload 6, 2) := by decide +kernel
theorem dX2_blocksInFile_29 : decode cX2_blocksInFile 29 = .ok (.iconst (-1), 1) := by decide +kernel
theorem dX2_blocksInFile_30 : decode cX2_blocksInFile 30 = .ok (.if_icmp .eq 10, 3) := by decide +kernel
theorem dX2_blocksInFile_33 : decode cX2_blocksInFile 33 = .ok (.lload_n 3, 1) := by decide +kernel
theorem dX2_blocksInFile_34 : decode cX2_blocksInFile 34 = .ok (.lconst 1, 1) := by decide +kernel
theorem dX2_blocksInFile_35 : decode cX2_blocksInFile 35 = .ok (.iload 6, 2) := by decide +kernel
theorem dX2_blocksInFile_37 : decode cX2_blocksInFile 37 = .ok (.lshl, 1) := by decide +kernel
theorem dX2_blocksInFile_38 : decode cX2_blocksInFile 38 = .ok (.lor, 1) := by decide +kernel
theorem dX2_blocksInFile_39 : decode cX2_blocksInFile 39 = .ok (.lstore_n 3, 1) := by decide +kernel
theorem dX2_blocksInFile_40 : decode cX2_blocksInFile 40 = .ok (.iinc 5 1, 3) := by decide +kernel
theorem dX2_blocksInFile_43 : decode cX2_blocksInFile 43 = .ok (.goto (-38), 3) := by decide +kernel
theorem dX2_blocksInFile_46 : decode cX2_blocksInFile 46 = .ok (.lload_n 3, 1) := by decide +kernel
theorem dX2_blocksInFile_47 : decode cX2_blocksInFile 47 = .ok (.lreturn, 1) := by decide +kernel
theorem dX2_blocksOfOwner_0 : decode cX2_blocksOfOwner 0 = .ok (.lconst 0, 1) := by decide +kernel
theorem dX2_blocksOfOwner_1 : decode cX2_blocksOfOwner 1 = .ok (.lstore_n 3, 1) := by decide +kernel
theorem dX2_blocksOfOwner_2 : decode cX2_blocksOfOwner 2 = .ok (.iconst 0, 1) := by decide +kernel
theorem dX2_blocksOfOwner_3 : decode cX2_blocksOfOwner 3 = .ok (.istore 5, 2) := by decide +kernel
theorem dX2_blocksOfOwner_5 : decode cX2_blocksOfOwner 5 = .ok (.iload 5, 2) := by decide +kernel
theorem dX2_blocksOfOwner_7 : decode cX2_blocksOfOwner 7 = .ok (.aload_n 0, 1) := by decide +kernel
theorem dX2_blocksOfOwner_8 : decode cX2_blocksOfOwner 8 = .ok (.getfield 9, 3) := by decide +kernel
theorem dX2_blocksOfOwner_11 : decode cX2_blocksOfOwner 11 = .ok (.if_icmp .ge 35, 3) := by decide +kernel
theorem dX2_blocksOfOwner_14 : decode cX2_blocksOfOwner 14 = .ok (.iload 5, 2) := by decide +kernel
theorem dX2_blocksOfOwner_16 : decode cX2_blocksOfOwner 16 = .ok (.iload_n 2, 1) := by decide +kernel
theorem dX2_blocksOfOwner_17 : decode cX2_blocksOfOwner 17 = .ok (.if_icmp .eq 23, 3) := by decide +kernel
theorem dX2_blocksOfOwner_20 : decode cX2_blocksOfOwner 20 = .ok (.aload_n 0, 1) := by decide +kernel
theorem dX2_blocksOfOwner_21 : decode cX2_blocksOfOwner 21 = .ok (.iload 5, 2) := by decide +kernel
theorem dX2_blocksOfOwner_23 : decode cX2_blocksOfOwner 23 = .ok (.invokevirtual 75, 3) := by decide +kernel
theorem dX2_blocksOfOwner_26 : decode cX2_blocksOfOwner 26 = .ok (.iload_n 1, 1) := by decide +kernel
theorem dX2_blocksOfOwner_27 : decode cX2_blocksOfOwner 27 = .ok (.if_icmp .ne 13, 3) := by decide +kernel
theorem dX2_blocksOfOwner_30 : decode cX2_blocksOfOwner 30 = .ok (.lload_n 3, 1) := by decide +kernel
theorem dX2_blocksOfOwner_31 : decode cX2_blocksOfOwner 31 = .ok (.aload_n 0, 1) := by decide +kernel
theorem dX2_blocksOfOwner_32 : decode cX2_blocksOfOwner 32 = .ok (.iload 5, 2) := by decide +kernel
theorem dX2_blocksOfOwner_34 : decode cX2_blocksOfOwner 34 = .ok (.iconst (-1), 1) := by decide +kernel
theorem dX2_blocksOfOwner_35 : decode cX2_blocksOfOwner 35 = .ok (.invokevirtual 79, 3) := by decide +kernel
theorem dX2_blocksOfOwner_38 : decode cX2_blocksOfOwner 38 = .ok (.lor, 1) := by decide +kernel
theorem dX2_blocksOfOwner_39 : decode cX2_blocksOfOwner 39 = .ok (.lstore_n 3, 1) := by decide +kernel
theorem dX2_blocksOfOwner_40 : decode cX2_blocksOfOwner 40 = .ok (.iinc 5 1, 3) := by decide +kernel
theorem dX2_blocksOfOwner_43 : decode cX2_blocksOfOwner 43 = .ok (.goto (-38), 3) := by decide +kernel
theorem dX2_blocksOfOwner_46 : decode cX2_blocksOfOwner 46 = .ok (.lload_n 3, 1) := by decide +kernel
theorem dX2_blocksOfOwner_47 : decode cX2_blocksOfOwner 47 = .ok (.lreturn, 1) := by decide +kernel
theorem dX2_walkFiles_0 : decode cX2_walkFiles 0 = .ok (.iconst 0, 1) := by decide +kernel
theorem dX2_walkFiles_1 : decode cX2_walkFiles 1 = .ok (.istore_n 2, 1) := by decide +kernel
theorem dX2_walkFiles_2 : decode cX2_walkFiles 2 = .ok (.iload_n 2, 1) := by decide +kernel
theorem dX2_walkFiles_3 : decode cX2_walkFiles 3 = .ok (.aload_n 0, 1) := by decide +kernel
theorem dX2_walkFiles_4 : decode cX2_walkFiles 4 = .ok (.getfield 9, 3) := by decide +kernel
theorem dX2_walkFiles_7 : decode cX2_walkFiles 7 = .ok (.if_icmp .ge 33, 3) := by decide +kernel
theorem dX2_walkFiles_10 : decode cX2_walkFiles 10 = .ok (.iconst 0, 1) := by decide +kernel
theorem dX2_walkFiles_11 : decode cX2_walkFiles 11 = .ok (.istore_n 3, 1) := by decide +kernel
theorem dX2_walkFiles_12 : decode cX2_walkFiles 12 = .ok (.iload_n 3, 1) := by decide +kernel
theorem dX2_walkFiles_13 : decode cX2_walkFiles 13 = .ok (.bipush 16, 2) := by decide +kernel
theorem dX2_walkFiles_15 : decode cX2_walkFiles 15 = .ok (.if_icmp .ge 19, 3) := by decide +kernel
theorem dX2_walkFiles_18 : decode cX2_walkFiles 18 = .ok (.aload_n 1, 1) := by decide +kernel
theorem dX2_walkFiles_19 : decode cX2_walkFiles 19 = .ok (.aload_n 0, 1) := by decide +kernel
theorem dX2_walkFiles_20 : decode cX2_walkFiles 20 = .ok (.iload_n 2, 1) := by decide +kernel
theorem dX2_walkFiles_21 : decode cX2_walkFiles 21 = .ok (.iload_n 3, 1) := by decide +kernel
theorem dX2_walkFiles_22 : decode cX2_walkFiles 22 = .ok (.invokevirtual 71, 3) := by decide +kernel
theorem dX2_walkFiles_25 : decode cX2_walkFiles 25 = .ok (.invokestatic 83, 3) := by decide +kernel
theorem dX2_walkFiles_28 : decode cX2_walkFiles 28 = .ok (.iinc 3 1, 3) := by decide +kernel
theorem dX2_walkFiles_31 : decode cX2_walkFiles 31 = .ok (.goto (-19), 3) := by decide +kernel
theorem dX2_walkFiles_34 : decode cX2_walkFiles 34 = .ok (.iinc 2 1, 3) := by decide +kernel
theorem dX2_walkFiles_37 : decode cX2_walkFiles 37 = .ok (.goto (-35), 3) := by decide +kernel
theorem dX2_walkFiles_40 : decode cX2_walkFiles 40 = .ok (.return_, 1) := by decide +kernel
theorem dX2_userTotal_0 : decode cX2_userTotal 0 = .ok (.iload_n 1, 1) := by decide +kernel
theorem dX2_userTotal_1 : decode cX2_userTotal 1 = .ok (.invokestatic 86, 3) := by decide +kernel
theorem dX2_userTotal_4 : decode cX2_userTotal 4 = .ok (.ifCond .eq 12, 3) := by decide +kernel
theorem dX2_userTotal_7 : decode cX2_userTotal 7 = .ok (.aload_n 0, 1) := by decide +kernel
theorem dX2_userTotal_8 : decode cX2_userTotal 8 = .ok (.getfield 38, 3) := by decide +kernel
theorem dX2_userTotal_11 : decode cX2_userTotal 11 = .ok (.iload_n 1, 1) := by decide +kernel
theorem dX2_userTotal_12 : decode cX2_userTotal 12 = .ok (.iaload, 1) := by decide +kernel
theorem dX2_userTotal_13 : decode cX2_userTotal 13 = .ok (.goto 4, 3) := by decide +kernel
theorem dX2_userTotal_16 : decode cX2_userTotal 16 = .ok (.iconst 0, 1) := by decide +kernel
theorem dX2_userTotal_17 : decode cX2_userTotal 17 = .ok (.ireturn, 1) := by decide +kernel
theorem dX2_addUser_0 : decode cX2_addUser 0 = .ok (.iload_n 1, 1) := by decide +kernel
theorem dX2_addUser_1 : decode cX2_addUser 1 = .ok (.invokestatic 86, 3) := by decide +kernel
theorem dX2_addUser_4 : decode cX2_addUser 4 = .ok (.ifCond .eq 13, 3) := by decide +kernel
theorem dX2_addUser_7 : decode cX2_addUser 7 = .ok (.aload_n 0, 1) := by decide +kernel
theorem dX2_addUser_8 : decode cX2_addUser 8 = .ok (.getfield 38, 3) := by decide +kernel
theorem dX2_addUser_11 : decode cX2_addUser 11 = .ok (.iload_n 1, 1) := by decide +kernel
theorem dX2_addUser_12 : decode cX2_addUser 12 = .ok (.dup2, 1) := by decide +kernel
theorem dX2_addUser_13 : decode cX2_addUser 13 = .ok (.iaload, 1) := by decide +kernel
theorem dX2_addUser_14 : decode cX2_addUser 14 = .ok (.iconst 1, 1) := by decide +kernel
theorem dX2_addUser_15 : decode cX2_addUser 15 = .ok (.iadd, 1) := by decide +kernel
theorem dX2_addUser_16 : decode cX2_addUser 16 = .ok (.iastore, 1) := by decide +kernel
theorem dX2_addUser_17 : decode cX2_addUser 17 = .ok (.return_, 1) := by decide +kernel
theorem dX2_removeUser_0 : decode cX2_removeUser 0 = .ok (.iload_n 1, 1) := by decide +kernel
theorem dX2_removeUser_1 : decode cX2_removeUser 1 = .ok (.invokestatic 86, 3) := by decide +kernel
theorem dX2_removeUser_4 : decode cX2_removeUser 4 = .ok (.ifCond .eq 13, 3) := by decide +kernel
theorem dX2_removeUser_7 : decode cX2_removeUser 7 = .ok (.aload_n 0, 1) := by decide +kernel
theorem dX2_removeUser_8 : decode cX2_removeUser 8 = .ok (.getfield 38, 3) := by decide +kernel
theorem dX2_removeUser_11 : decode cX2_removeUser 11 = .ok (.iload_n 1, 1) := by decide +kernel
theorem dX2_removeUser_12 : decode cX2_removeUser 12 = .ok (.dup2, 1) := by decide +kernel
theorem dX2_removeUser_13 : decode cX2_removeUser 13 = .ok (.iaload, 1) := by decide +kernel
theorem dX2_removeUser_14 : decode cX2_removeUser 14 = .ok (.iconst 1, 1) := by decide +kernel
theorem dX2_removeUser_15 : decode cX2_removeUser 15 = .ok (.isub, 1) := by decide +kernel
theorem dX2_removeUser_16 : decode cX2_removeUser 16 = .ok (.iastore, 1) := by decide +kernel
theorem dX2_removeUser_17 : decode cX2_removeUser 17 = .ok (.return_, 1) := by decide +kernel
theorem dX2_valueIn_0 : decode cX2_valueIn 0 = .ok (.iload_n 1, 1) := by decide +kernel
theorem dX2_valueIn_1 : decode cX2_valueIn 1 = .ok (.invokestatic 86, 3) := by decide +kernel
theorem dX2_valueIn_4 : decode cX2_valueIn 4 = .ok (.ifCond .eq 12, 3) := by decide +kernel
theorem dX2_valueIn_7 : decode cX2_valueIn 7 = .ok (.aload_n 0, 1) := by decide +kernel
theorem dX2_valueIn_8 : decode cX2_valueIn 8 = .ok (.getfield 35, 3) := by decide +kernel
theorem dX2_valueIn_11 : decode cX2_valueIn 11 = .ok (.iload_n 1, 1) := by decide +kernel
theorem dX2_valueIn_12 : decode cX2_valueIn 12 = .ok (.iaload, 1) := by decide +kernel
theorem dX2_valueIn_13 : decode cX2_valueIn 13 = .ok (.goto 4, 3) := by decide +kernel
theorem dX2_valueIn_16 : decode cX2_valueIn 16 = .ok (.iconst 0, 1) := by decide +kernel
theorem dX2_valueIn_17 : decode cX2_valueIn 17 = .ok (.ireturn, 1) := by decide +kernel
theorem dX2_setValue_0 : decode cX2_setValue 0 = .ok (.iload_n 1, 1) := by decide +kernel
theorem dX2_setValue_1 : decode cX2_setValue 1 = .ok (.invokestatic 86, 3) := by decide +kernel
theorem dX2_setValue_4 : decode cX2_setValue 4 = .ok (.ifCond .eq 10, 3) := by decide +kernel
theorem dX2_setValue_7 : decode cX2_setValue 7 = .ok (.aload_n 0, 1) := by decide +kernel
theorem dX2_setValue_8 : decode cX2_setValue 8 = .ok (.getfield 35, 3) := by decide +kernel
theorem dX2_setValue_11 : decode cX2_setValue 11 = .ok (.iload_n 1, 1) := by decide +kernel
theorem dX2_setValue_12 : decode cX2_setValue 12 = .ok (.iload_n 2, 1) := by decide +kernel
theorem dX2_setValue_13 : decode cX2_setValue 13 = .ok (.iastore, 1) := by decide +kernel
theorem dX2_setValue_14 : decode cX2_setValue 14 = .ok (.return_, 1) := by decide +kernel
theorem dX2_freeTotal_0 : decode cX2_freeTotal 0 = .ok (.iconst 0, 1) := by decide +kernel
theorem dX2_freeTotal_1 : decode cX2_freeTotal 1 = .ok (.istore_n 1, 1) := by decide +kernel
theorem dX2_freeTotal_2 : decode cX2_freeTotal 2 = .ok (.iconst 0, 1) := by decide +kernel
theorem dX2_freeTotal_3 : decode cX2_freeTotal 3 = .ok (.istore_n 2, 1) := by decide +kernel
theorem dX2_freeTotal_4 : decode cX2_freeTotal 4 = .ok (.iload_n 2, 1) := by decide +kernel
theorem dX2_freeTotal_5 : decode cX2_freeTotal 5 = .ok (.bipush 64, 2) := by decide +kernel
theorem dX2_freeTotal_7 : decode cX2_freeTotal 7 = .ok (.if_icmp .ge 21, 3) := by decide +kernel
theorem dX2_freeTotal_10 : decode cX2_freeTotal 10 = .ok (.aload_n 0, 1) := by decide +kernel
theorem dX2_freeTotal_11 : decode cX2_freeTotal 11 = .ok (.getfield 38, 3) := by decide +kernel
theorem dX2_freeTotal_14 : decode cX2_freeTotal 14 = .ok (.iload_n 2, 1) := by decide +kernel
theorem dX2_freeTotal_15 : decode cX2_freeTotal 15 = .ok (.iaload, 1) := by decide +kernel
theorem dX2_freeTotal_16 : decode cX2_freeTotal 16 = .ok (.ifCond .ne 6, 3) := by decide +kernel
theorem dX2_freeTotal_19 : decode cX2_freeTotal 19 = .ok (.iinc 1 1, 3) := by decide +kernel
theorem dX2_freeTotal_22 : decode cX2_freeTotal 22 = .ok (.iinc 2 1, 3) := by decide +kernel
theorem dX2_freeTotal_25 : decode cX2_freeTotal 25 = .ok (.goto (-21), 3) := by decide +kernel
theorem dX2_freeTotal_28 : decode cX2_freeTotal 28 = .ok (.iload_n 1, 1) := by decide +kernel
theorem dX2_freeTotal_29 : decode cX2_freeTotal 29 = .ok (.ireturn, 1) := by decide +kernel
theorem dX2_takeBlock_0 : decode cX2_takeBlock 0 = .ok (.iconst 0, 1) := by decide +kernel
theorem dX2_takeBlock_1 : decode cX2_takeBlock 1 = .ok (.istore_n 2, 1) := by decide +kernel
theorem dX2_takeBlock_2 : decode cX2_takeBlock 2 = .ok (.iload_n 2, 1) := by decide +kernel
theorem dX2_takeBlock_3 : decode cX2_takeBlock 3 = .ok (.bipush 64, 2) := by decide +kernel
theorem dX2_takeBlock_5 : decode cX2_takeBlock 5 = .ok (.if_icmp .ge 36, 3) := by decide +kernel
theorem dX2_takeBlock_8 : decode cX2_takeBlock 8 = .ok (.aload_n 0, 1) := by decide +kernel
theorem dX2_takeBlock_9 : decode cX2_takeBlock 9 = .ok (.getfield 38, 3) := by decide +kernel
theorem dX2_takeBlock_12 : decode cX2_takeBlock 12 = .ok (.iload_n 2, 1) := by decide +kernel
theorem dX2_takeBlock_13 : decode cX2_takeBlock 13 = .ok (.iaload, 1) := by decide +kernel
theorem dX2_takeBlock_14 : decode cX2_takeBlock 14 = .ok (.ifCond .ne 21, 3) := by decide +kernel
theorem dX2_takeBlock_17 : decode cX2_takeBlock 17 = .ok (.aload_n 0, 1) := by decide +kernel
theorem dX2_takeBlock_18 : decode cX2_takeBlock 18 = .ok (.iload_n 1, 1) := by decide +kernel
theorem dX2_takeBlock_19 : decode cX2_takeBlock 19 = .ok (.iconst 0, 1) := by decide +kernel
theorem dX2_takeBlock_20 : decode cX2_takeBlock 20 = .ok (.aload_n 0, 1) := by decide +kernel
theorem dX2_takeBlock_21 : decode cX2_takeBlock 21 = .ok (.iload_n 1, 1) := by decide +kernel
theorem dX2_takeBlock_22 : decode cX2_takeBlock 22 = .ok (.invokevirtual 89, 3) := by decide +kernel
theorem dX2_takeBlock_25 : decode cX2_takeBlock 25 = .ok (.iconst 1, 1) := by decide +kernel
theorem dX2_takeBlock_26 : decode cX2_takeBlock 26 = .ok (.isub, 1) := by decide +kernel
theorem dX2_takeBlock_27 : decode cX2_takeBlock 27 = .ok (.invokestatic 92, 3) := by decide +kernel
theorem dX2_takeBlock_30 : decode cX2_takeBlock 30 = .ok (.invokevirtual 97, 3) := by decide +kernel
theorem dX2_takeBlock_33 : decode cX2_takeBlock 33 = .ok (.iload_n 2, 1) := by decide +kernel
theorem dX2_takeBlock_34 : decode cX2_takeBlock 34 = .ok (.ireturn, 1) := by decide +kernel
theorem dX2_takeBlock_35 : decode cX2_takeBlock 35 = .ok (.iinc 2 1, 3) := by decide +kernel
theorem dX2_takeBlock_38 : decode cX2_takeBlock 38 = .ok (.goto (-36), 3) := by decide +kernel
theorem dX2_takeBlock_41 : decode cX2_takeBlock 41 = .ok (.iconst (-1), 1) := by decide +kernel
theorem dX2_takeBlock_42 : decode cX2_takeBlock 42 = .ok (.ireturn, 1) := by decide +kernel
theorem dX2_promisedFor_0 : decode cX2_promisedFor 0 = .ok (.iload_n 1, 1) := by decide +kernel
theorem dX2_promisedFor_1 : decode cX2_promisedFor 1 = .ok (.ifCond .lt 17, 3) := by decide +kernel
theorem dX2_promisedFor_4 : decode cX2_promisedFor 4 = .ok (.iload_n 1, 1) := by decide +kernel
theorem dX2_promisedFor_5 : decode cX2_promisedFor 5 = .ok (.iconst 4, 1) := by decide +kernel
theorem dX2_promisedFor_6 : decode cX2_promisedFor 6 = .ok (.if_icmp .ge 12, 3) := by decide +kernel
theorem dX2_promisedFor_9 : decode cX2_promisedFor 9 = .ok (.aload_n 0, 1) := by decide +kernel
theorem dX2_promisedFor_10 : decode cX2_promisedFor 10 = .ok (.getfield 41, 3) := by decide +kernel
theorem dX2_promisedFor_13 : decode cX2_promisedFor 13 = .ok (.iload_n 1, 1) := by decide +kernel
theorem dX2_promisedFor_14 : decode cX2_promisedFor 14 = .ok (.iaload, 1) := by decide +kernel
theorem dX2_promisedFor_15 : decode cX2_promisedFor 15 = .ok (.goto 4, 3) := by decide +kernel
theorem dX2_promisedFor_18 : decode cX2_promisedFor 18 = .ok (.iconst 0, 1) := by decide +kernel
theorem dX2_promisedFor_19 : decode cX2_promisedFor 19 = .ok (.ireturn, 1) := by decide +kernel
theorem dX2_setPromised_0 : decode cX2_setPromised 0 = .ok (.iload_n 1, 1) := by decide +kernel
theorem dX2_setPromised_1 : decode cX2_setPromised 1 = .ok (.ifCond .lt 15, 3) := by decide +kernel
theorem dX2_setPromised_4 : decode cX2_setPromised 4 = .ok (.iload_n 1, 1) := by decide +kernel
theorem dX2_setPromised_5 : decode cX2_setPromised 5 = .ok (.iconst 4, 1) := by decide +kernel
theorem dX2_setPromised_6 : decode cX2_setPromised 6 = .ok (.if_icmp .ge 10, 3) := by decide +kernel
theorem dX2_setPromised_9 : decode cX2_setPromised 9 = .ok (.aload_n 0, 1) := by decide +kernel
theorem dX2_setPromised_10 : decode cX2_setPromised 10 = .ok (.getfield 41, 3) := by decide +kernel
theorem dX2_setPromised_13 : decode cX2_setPromised 13 = .ok (.iload_n 1, 1) := by decide +kernel
theorem dX2_setPromised_14 : decode cX2_setPromised 14 = .ok (.iload_n 2, 1) := by decide +kernel
theorem dX2_setPromised_15 : decode cX2_setPromised 15 = .ok (.iastore, 1) := by decide +kernel
theorem dX2_setPromised_16 : decode cX2_setPromised 16 = .ok (.return_, 1) := by decide +kernel
theorem dX2_promisedInAll_0 : decode cX2_promisedInAll 0 = .ok (.iconst 0, 1) := by decide +kernel
theorem dX2_promisedInAll_1 : decode cX2_promisedInAll 1 = .ok (.istore_n 1, 1) := by decide +kernel
theorem dX2_promisedInAll_2 : decode cX2_promisedInAll 2 = .ok (.iconst 0, 1) := by decide +kernel
theorem dX2_promisedInAll_3 : decode cX2_promisedInAll 3 = .ok (.istore_n 2, 1) := by decide +kernel
theorem dX2_promisedInAll_4 : decode cX2_promisedInAll 4 = .ok (.iload_n 2, 1) := by decide +kernel
theorem dX2_promisedInAll_5 : decode cX2_promisedInAll 5 = .ok (.iconst 4, 1) := by decide +kernel
theorem dX2_promisedInAll_6 : decode cX2_promisedInAll 6 = .ok (.if_icmp .ge 18, 3) := by decide +kernel
theorem dX2_promisedInAll_9 : decode cX2_promisedInAll 9 = .ok (.iload_n 1, 1) := by decide +kernel
theorem dX2_promisedInAll_10 : decode cX2_promisedInAll 10 = .ok (.aload_n 0, 1) := by decide +kernel
theorem dX2_promisedInAll_11 : decode cX2_promisedInAll 11 = .ok (.getfield 41, 3) := by decide +kernel
theorem dX2_promisedInAll_14 : decode cX2_promisedInAll 14 = .ok (.iload_n 2, 1) := by decide +kernel
theorem dX2_promisedInAll_15 : decode cX2_promisedInAll 15 = .ok (.iaload, 1) := by decide +kernel
theorem dX2_promisedInAll_16 : decode cX2_promisedInAll 16 = .ok (.iadd, 1) := by decide +kernel
theorem dX2_promisedInAll_17 : decode cX2_promisedInAll 17 = .ok (.istore_n 1, 1) := by decide +kernel
theorem dX2_promisedInAll_18 : decode cX2_promisedInAll 18 = .ok (.iinc 2 1, 3) := by decide +kernel
theorem dX2_promisedInAll_21 : decode cX2_promisedInAll 21 = .ok (.goto (-17), 3) := by decide +kernel
theorem dX2_promisedInAll_24 : decode cX2_promisedInAll 24 = .ok (.iload_n 1, 1) := by decide +kernel
theorem dX2_promisedInAll_25 : decode cX2_promisedInAll 25 = .ok (.ireturn, 1) := by decide +kernel
theorem dX3_init_0 : decode cX3_init 0 = .ok (.aload_n 0, 1) := by decide +kernel
theorem dX3_init_1 : decode cX3_init 1 = .ok (.invokespecial 3, 3) := by decide +kernel
theorem dX3_init_4 : decode cX3_init 4 = .ok (.aload_n 0, 1) := by decide +kernel
theorem dX3_init_5 : decode cX3_init 5 = .ok (.new 9, 3) := by decide +kernel
theorem dX3_init_8 : decode cX3_init 8 = .ok (.dup, 1) := by decide +kernel
theorem dX3_init_9 : decode cX3_init 9 = .ok (.invokespecial 11, 3) := by decide +kernel
theorem dX3_init_12 : decode cX3_init 12 = .ok (.putfield 12, 3) := by decide +kernel
theorem dX3_init_15 : decode cX3_init 15 = .ok (.aload_n 0, 1) := by decide +kernel
theorem dX3_init_16 : decode cX3_init 16 = .ok (.new 9, 3) := by decide +kernel
theorem dX3_init_19 : decode cX3_init 19 = .ok (.dup, 1) := by decide +kernel
theorem dX3_init_20 : decode cX3_init 20 = .ok (.invokespecial 11, 3) := by decide +kernel
theorem dX3_init_23 : decode cX3_init 23 = .ok (.putfield 16, 3) := by decide +kernel
theorem dX3_init_26 : decode cX3_init 26 = .ok (.aload_n 0, 1) := by decide +kernel
theorem dX3_init_27 : decode cX3_init 27 = .ok (.iconst 0, 1) := by decide +kernel
theorem dX3_init_28 : decode cX3_init 28 = .ok (.putfield 19, 3) := by decide +kernel
theorem dX3_init_31 : decode cX3_init 31 = .ok (.aload_n 0, 1) := by decide +kernel
theorem dX3_init_32 : decode cX3_init 32 = .ok (.sipush 512, 3) := by decide +kernel
theorem dX3_init_35 : decode cX3_init 35 = .ok (.newarray .char, 2) := by decide +kernel
theorem dX3_init_37 : decode cX3_init 37 = .ok (.putfield 23, 3) := by decide +kernel
theorem dX3_init_40 : decode cX3_init 40 = .ok (.aload_n 0, 1) := by decide +kernel
theorem dX3_init_41 : decode cX3_init 41 = .ok (.iconst 0, 1) := by decide +kernel
theorem dX3_init_42 : decode cX3_init 42 = .ok (.putfield 27, 3) := by decide +kernel
theorem dX3_init_45 : decode cX3_init 45 = .ok (.aload_n 0, 1) := by decide +kernel
theorem dX3_init_46 : decode cX3_init 46 = .ok (.iconst 4, 1) := by decide +kernel
theorem dX3_init_47 : decode cX3_init 47 = .ok (.newarray .int, 2) := by decide +kernel
theorem dX3_init_49 : decode cX3_init 49 = .ok (.putfield 31, 3) := by decide +kernel
theorem dX3_init_52 : decode cX3_init 52 = .ok (.aload_n 0, 1) := by decide +kernel
theorem dX3_init_53 : decode cX3_init 53 = .ok (.new 35, 3) := by decide +kernel
theorem dX3_init_56 : decode cX3_init 56 = .ok (.dup, 1) := by decide +kernel
theorem dX3_init_57 : decode cX3_init 57 = .ok (.invokespecial 37, 3) := by decide +kernel
theorem dX3_init_60 : decode cX3_init 60 = .ok (.putfield 38, 3) := by decide +kernel
theorem dX3_init_63 : decode cX3_init 63 = .ok (.aload_n 0, 1) := by decide +kernel
theorem dX3_init_64 : decode cX3_init 64 = .ok (.new 42, 3) := by decide +kernel
theorem dX3_init_67 : decode cX3_init 67 = .ok (.dup, 1) := by decide +kernel
theorem dX3_init_68 : decode cX3_init 68 = .ok (.invokespecial 44, 3) := by decide +kernel
theorem dX3_init_71 : decode cX3_init 71 = .ok (.putfield 45, 3) := by decide +kernel
theorem dX3_init_74 : decode cX3_init 74 = .ok (.aload_n 0, 1) := by decide +kernel
theorem dX3_init_75 : decode cX3_init 75 = .ok (.iconst 0, 1) := by decide +kernel
theorem dX3_init_76 : decode cX3_init 76 = .ok (.putfield 49, 3) := by decide +kernel
theorem dX3_init_79 : decode cX3_init 79 = .ok (.aload_n 0, 1) := by decide +kernel
theorem dX3_init_80 : decode cX3_init 80 = .ok (.new 52, 3) := by decide +kernel
theorem dX3_init_83 : decode cX3_init 83 = .ok (.dup, 1) := by decide +kernel
theorem dX3_init_84 : decode cX3_init 84 = .ok (.invokespecial 54, 3) := by decide +kernel
theorem dX3_init_87 : decode cX3_init 87 = .ok (.putfield 55, 3) := by decide +kernel
theorem dX3_init_90 : decode cX3_init 90 = .ok (.aload_n 0, 1) := by decide +kernel
theorem dX3_init_91 : decode cX3_init 91 = .ok (.bipush 64, 2) := by decide +kernel
theorem dX3_init_93 : decode cX3_init 93 = .ok (.newarray .int, 2) := by decide +kernel
theorem dX3_init_95 : decode cX3_init 95 = .ok (.putfield 59, 3) := by decide +kernel
theorem dX3_init_98 : decode cX3_init 98 = .ok (.return_, 1) := by decide +kernel
theorem dX3_addOwner_0 : decode cX3_addOwner 0 = .ok (.aload_n 0, 1) := by decide +kernel
theorem dX3_addOwner_1 : decode cX3_addOwner 1 = .ok (.iload_n 1, 1) := by decide +kernel
theorem dX3_addOwner_2 : decode cX3_addOwner 2 = .ok (.iconst 0, 1) := by decide +kernel
theorem dX3_addOwner_3 : decode cX3_addOwner 3 = .ok (.bipush 64, 2) := by decide +kernel
theorem dX3_addOwner_5 : decode cX3_addOwner 5 = .ok (.invokevirtual 62, 3) := by decide +kernel
theorem dX3_addOwner_8 : decode cX3_addOwner 8 = .ok (.aload_n 0, 1) := by decide +kernel
theorem dX3_addOwner_9 : decode cX3_addOwner 9 = .ok (.invokevirtual 66, 3) := by decide +kernel
theorem dX3_addOwner_12 : decode cX3_addOwner 12 = .ok (.aload_n 0, 1) := by decide +kernel
theorem dX3_addOwner_13 : decode cX3_addOwner 13 = .ok (.getfield 27, 3) := by decide +kernel
theorem dX3_addOwner_16 : decode cX3_addOwner 16 = .ok (.iconst 4, 1) := by decide +kernel
theorem dX3_addOwner_17 : decode cX3_addOwner 17 = .ok (.if_icmp .lt 13, 3) := by decide +kernel
theorem dX3_addOwner_20 : decode cX3_addOwner 20 = .ok (.new 69, 3) := by decide +kernel
theorem dX3_addOwner_23 : decode cX3_addOwner 23 = .ok (.dup, 1) := by decide +kernel
theorem dX3_addOwner_24 : decode cX3_addOwner 24 = .ok (.ldc 71, 2) := by decide +kernel
theorem dX3_addOwner_26 : decode cX3_addOwner 26 = .ok (.invokespecial 73, 3) := by decide +kernel
theorem dX3_addOwner_29 : decode cX3_addOwner 29 = .ok (.athrow, 1) := by decide +kernel
theorem dX3_addOwner_30 : decode cX3_addOwner 30 = .ok (.aload_n 0, 1) := by decide +kernel
theorem dX3_addOwner_31 : decode cX3_addOwner 31 = .ok (.getfield 27, 3) := by decide +kernel
theorem dX3_addOwner_34 : decode cX3_addOwner 34 = .ok (.istore_n 2, 1) := by decide +kernel
theorem dX3_addOwner_35 : decode cX3_addOwner 35 = .ok (.aload_n 0, 1) := by decide +kernel
theorem dX3_addOwner_36 : decode cX3_addOwner 36 = .ok (.getfield 31, 3) := by decide +kernel
theorem dX3_addOwner_39 : decode cX3_addOwner 39 = .ok (.iload_n 2, 1) := by decide +kernel
theorem dX3_addOwner_40 : decode cX3_addOwner 40 = .ok (.iload_n 1, 1) := by decide +kernel
theorem dX3_addOwner_41 : decode cX3_addOwner 41 = .ok (.iastore, 1) := by decide +kernel
theorem dX3_addOwner_42 : decode cX3_addOwner 42 = .ok (.aload_n 0, 1) := by decide +kernel
theorem dX3_addOwner_43 : decode cX3_addOwner 43 = .ok (.iload_n 2, 1) := by decide +kernel
theorem dX3_addOwner_44 : decode cX3_addOwner 44 = .ok (.iconst 1, 1) := by decide +kernel
theorem dX3_addOwner_45 : decode cX3_addOwner 45 = .ok (.iadd, 1) := by decide +kernel
theorem dX3_addOwner_46 : decode cX3_addOwner 46 = .ok (.putfield 27, 3) := by decide +kernel
theorem dX3_addOwner_49 : decode cX3_addOwner 49 = .ok (.iload_n 2, 1) := by decide +kernel
theorem dX3_addOwner_50 : decode cX3_addOwner 50 = .ok (.ireturn, 1) := by decide +kernel
theorem dX3_createFile_0 : decode cX3_createFile 0 = .ok (.aload_n 0, 1) := by decide +kernel
theorem dX3_createFile_1 : decode cX3_createFile 1 = .ok (.iload_n 1, 1) := by decide +kernel
theorem dX3_createFile_2 : decode cX3_createFile 2 = .ok (.invokevirtual 76, 3) := by decide +kernel
theorem dX3_createFile_5 : decode cX3_createFile 5 = .ok (.aload_n 0, 1) := by decide +kernel
theorem dX3_createFile_6 : decode cX3_createFile 6 = .ok (.getfield 12, 3) := by decide +kernel
theorem dX3_createFile_9 : decode cX3_createFile 9 = .ok (.invokevirtual 80, 3) := by decide +kernel
theorem dX3_createFile_12 : decode cX3_createFile 12 = .ok (.bipush 40, 2) := by decide +kernel
theorem dX3_createFile_14 : decode cX3_createFile 14 = .ok (.if_icmp .lt 13, 3) := by decide +kernel
theorem dX3_createFile_17 : decode cX3_createFile 17 = .ok (.new 69, 3) := by decide +kernel
theorem dX3_createFile_20 : decode cX3_createFile 20 = .ok (.dup, 1) := by decide +kernel
theorem dX3_createFile_21 : decode cX3_createFile 21 = .ok (.ldc 84, 2) := by decide +kernel
theorem dX3_createFile_23 : decode cX3_createFile 23 = .ok (.invokespecial 73, 3) := by decide +kernel
theorem dX3_createFile_26 : decode cX3_createFile 26 = .ok (.athrow, 1) := by decide +kernel
theorem dX3_createFile_27 : decode cX3_createFile 27 = .ok (.aload_n 0, 1) := by decide +kernel
theorem dX3_createFile_28 : decode cX3_createFile 28 = .ok (.getfield 12, 3) := by decide +kernel
theorem dX3_createFile_31 : decode cX3_createFile 31 = .ok (.iload_n 1, 1) := by decide +kernel
theorem dX3_createFile_32 : decode cX3_createFile 32 = .ok (.invokevirtual 86, 3) := by decide +kernel
theorem dX3_createFile_35 : decode cX3_createFile 35 = .ok (.istore_n 2, 1) := by decide +kernel
theorem dX3_createFile_36 : decode cX3_createFile 36 = .ok (.aload_n 0, 1) := by decide +kernel
theorem dX3_createFile_37 : decode cX3_createFile 37 = .ok (.bipush 99, 2) := by decide +kernel
theorem dX3_createFile_39 : decode cX3_createFile 39 = .ok (.invokevirtual 90, 3) := by decide +kernel
theorem dX3_createFile_42 : decode cX3_createFile 42 = .ok (.iload_n 2, 1) := by decide +kernel
theorem dX3_createFile_43 : decode cX3_createFile 43 = .ok (.ireturn, 1) := by decide +kernel
theorem dX3_fileCount_0 : decode cX3_fileCount 0 = .ok (.aload_n 0, 1) := by decide +kernel
theorem dX3_fileCount_1 : decode cX3_fileCount 1 = .ok (.getfield 12, 3) := by decide +kernel
theorem dX3_fileCount_4 : decode cX3_fileCount 4 = .ok (.invokevirtual 80, 3) := by decide +kernel
theorem dX3_fileCount_7 : decode cX3_fileCount 7 = .ok (.ireturn, 1) := by decide +kernel
theorem dX3_doesExist_0 : decode cX3_doesExist 0 = .ok (.aload_n 0, 1) := by decide +kernel
theorem dX3_doesExist_1 : decode cX3_doesExist 1 = .ok (.iload_n 1, 1) := by decide +kernel
theorem dX3_doesExist_2 : decode cX3_doesExist 2 = .ok (.invokevirtual 94, 3) := by decide +kernel
theorem dX3_doesExist_5 : decode cX3_doesExist 5 = .ok (.aload_n 0, 1) := by decide +kernel
theorem dX3_doesExist_6 : decode cX3_doesExist 6 = .ok (.getfield 12, 3) := by decide +kernel
theorem dX3_doesExist_9 : decode cX3_doesExist 9 = .ok (.iload_n 1, 1) := by decide +kernel
theorem dX3_doesExist_10 : decode cX3_doesExist 10 = .ok (.invokevirtual 97, 3) := by decide +kernel
theorem dX3_doesExist_13 : decode cX3_doesExist 13 = .ok (.ireturn, 1) := by decide +kernel
theorem dX3_linksOf_0 : decode cX3_linksOf 0 = .ok (.aload_n 0, 1) := by decide +kernel
theorem dX3_linksOf_1 : decode cX3_linksOf 1 = .ok (.iload_n 1, 1) := by decide +kernel
theorem dX3_linksOf_2 : decode cX3_linksOf 2 = .ok (.invokevirtual 94, 3) := by decide +kernel
theorem dX3_linksOf_5 : decode cX3_linksOf 5 = .ok (.aload_n 0, 1) := by decide +kernel
theorem dX3_linksOf_6 : decode cX3_linksOf 6 = .ok (.getfield 12, 3) := by decide +kernel
theorem dX3_linksOf_9 : decode cX3_linksOf 9 = .ok (.iload_n 1, 1) := by decide +kernel
theorem dX3_linksOf_10 : decode cX3_linksOf 10 = .ok (.invokevirtual 101, 3) := by decide +kernel
theorem dX3_linksOf_13 : decode cX3_linksOf 13 = .ok (.ireturn, 1) := by decide +kernel
theorem dX3_link_0 : decode cX3_link 0 = .ok (.aload_n 0, 1) := by decide +kernel
theorem dX3_link_1 : decode cX3_link 1 = .ok (.iload_n 1, 1) := by decide +kernel
theorem dX3_link_2 : decode cX3_link 2 = .ok (.invokevirtual 94, 3) := by decide +kernel
theorem dX3_link_5 : decode cX3_link 5 = .ok (.aload_n 0, 1) := by decide +kernel
theorem dX3_link_6 : decode cX3_link 6 = .ok (.iload_n 1, 1) := by decide +kernel
theorem dX3_link_7 : decode cX3_link 7 = .ok (.invokevirtual 104, 3) := by decide +kernel
theorem dX3_link_10 : decode cX3_link 10 = .ok (.aload_n 0, 1) := by decide +kernel
theorem dX3_link_11 : decode cX3_link 11 = .ok (.getfield 12, 3) := by decide +kernel
theorem dX3_link_14 : decode cX3_link 14 = .ok (.iload_n 1, 1) := by decide +kernel
theorem dX3_link_15 : decode cX3_link 15 = .ok (.invokevirtual 101, 3) := by decide +kernel
theorem dX3_link_18 : decode cX3_link 18 = .ok (.istore_n 2, 1) := by decide +kernel
theorem dX3_link_19 : decode cX3_link 19 = .ok (.iload_n 2, 1) := by decide +kernel
theorem dX3_link_20 : decode cX3_link 20 = .ok (.bipush 9, 2) := by decide +kernel
theorem dX3_link_22 : decode cX3_link 22 = .ok (.if_icmp .lt 13, 3) := by decide +kernel
theorem dX3_link_25 : decode cX3_link 25 = .ok (.new 69, 3) := by decide +kernel
theorem dX3_link_28 : decode cX3_link 28 = .ok (.dup, 1) := by decide +kernel
theorem dX3_link_29 : decode cX3_link 29 = .ok (.ldc 107, 2) := by decide +kernel
theorem dX3_link_31 : decode cX3_link 31 = .ok (.invokespecial 73, 3) := by decide +kernel
theorem dX3_link_34 : decode cX3_link 34 = .ok (.athrow, 1) := by decide +kernel
theorem dX3_link_35 : decode cX3_link 35 = .ok (.aload_n 0, 1) := by decide +kernel
theorem dX3_link_36 : decode cX3_link 36 = .ok (.getfield 12, 3) := by decide +kernel
theorem dX3_link_39 : decode cX3_link 39 = .ok (.iload_n 1, 1) := by decide +kernel
theorem dX3_link_40 : decode cX3_link 40 = .ok (.iload_n 2, 1) := by decide +kernel
theorem dX3_link_41 : decode cX3_link 41 = .ok (.iconst 1, 1) := by decide +kernel
theorem dX3_link_42 : decode cX3_link 42 = .ok (.iadd, 1) := by decide +kernel
theorem dX3_link_43 : decode cX3_link 43 = .ok (.invokevirtual 109, 3) := by decide +kernel
theorem dX3_link_46 : decode cX3_link 46 = .ok (.aload_n 0, 1) := by decide +kernel
theorem dX3_link_47 : decode cX3_link 47 = .ok (.bipush 108, 2) := by decide +kernel
theorem dX3_link_49 : decode cX3_link 49 = .ok (.invokevirtual 90, 3) := by decide +kernel
theorem dX3_link_52 : decode cX3_link 52 = .ok (.iload_n 2, 1) := by decide +kernel
theorem dX3_link_53 : decode cX3_link 53 = .ok (.iconst 1, 1) := by decide +kernel
theorem dX3_link_54 : decode cX3_link 54 = .ok (.iadd, 1) := by decide +kernel
theorem dX3_link_55 : decode cX3_link 55 = .ok (.ireturn, 1) := by decide +kernel
theorem dX3_unlink_0 : decode cX3_unlink 0 = .ok (.aload_n 0, 1) := by decide +kernel
theorem dX3_unlink_1 : decode cX3_unlink 1 = .ok (.iload_n 1, 1) := by decide +kernel
theorem dX3_unlink_2 : decode cX3_unlink 2 = .ok (.invokevirtual 94, 3) := by decide +kernel
theorem dX3_unlink_5 : decode cX3_unlink 5 = .ok (.aload_n 0, 1) := by decide +kernel
theorem dX3_unlink_6 : decode cX3_unlink 6 = .ok (.iload_n 1, 1) := by decide +kernel
theorem dX3_unlink_7 : decode cX3_unlink 7 = .ok (.invokevirtual 104, 3) := by decide +kernel
theorem dX3_unlink_10 : decode cX3_unlink 10 = .ok (.aload_n 0, 1) := by decide +kernel
theorem dX3_unlink_11 : decode cX3_unlink 11 = .ok (.getfield 12, 3) := by decide +kernel
theorem dX3_unlink_14 : decode cX3_unlink 14 = .ok (.iload_n 1, 1) := by decide +kernel
theorem dX3_unlink_15 : decode cX3_unlink 15 = .ok (.invokevirtual 101, 3) := by decide +kernel
theorem dX3_unlink_18 : decode cX3_unlink 18 = .ok (.iconst 1, 1) := by decide +kernel
theorem dX3_unlink_19 : decode cX3_unlink 19 = .ok (.isub, 1) := by decide +kernel
theorem dX3_unlink_20 : decode cX3_unlink 20 = .ok (.istore_n 2, 1) := by decide +kernel
theorem dX3_unlink_21 : decode cX3_unlink 21 = .ok (.aload_n 0, 1) := by decide +kernel
theorem dX3_unlink_22 : decode cX3_unlink 22 = .ok (.getfield 12, 3) := by decide +kernel
theorem dX3_unlink_25 : decode cX3_unlink 25 = .ok (.iload_n 1, 1) := by decide +kernel
theorem dX3_unlink_26 : decode cX3_unlink 26 = .ok (.iload_n 2, 1) := by decide +kernel
theorem dX3_unlink_27 : decode cX3_unlink 27 = .ok (.invokevirtual 109, 3) := by decide +kernel
theorem dX3_unlink_30 : decode cX3_unlink 30 = .ok (.aload_n 0, 1) := by decide +kernel
theorem dX3_unlink_31 : decode cX3_unlink 31 = .ok (.iload_n 1, 1) := by decide +kernel
theorem dX3_unlink_32 : decode cX3_unlink 32 = .ok (.invokevirtual 113, 3) := by decide +kernel
theorem dX3_unlink_35 : decode cX3_unlink 35 = .ok (.pop, 1) := by decide +kernel
theorem dX3_unlink_36 : decode cX3_unlink 36 = .ok (.aload_n 0, 1) := by decide +kernel
theorem dX3_unlink_37 : decode cX3_unlink 37 = .ok (.bipush 117, 2) := by decide +kernel
theorem dX3_unlink_39 : decode cX3_unlink 39 = .ok (.invokevirtual 90, 3) := by decide +kernel
theorem dX3_unlink_42 : decode cX3_unlink 42 = .ok (.iload_n 2, 1) := by decide +kernel
theorem dX3_unlink_43 : decode cX3_unlink 43 = .ok (.ireturn, 1) := by decide +kernel
theorem dX3_write_0 : decode cX3_write 0 = .ok (.aload_n 0, 1) := by decide +kernel
theorem dX3_write_1 : decode cX3_write 1 = .ok (.iload_n 1, 1) := by decide +kernel
theorem dX3_write_2 : decode cX3_write 2 = .ok (.invokevirtual 94, 3) := by decide +kernel
theorem dX3_write_5 : decode cX3_write 5 = .ok (.aload_n 0, 1) := by decide +kernel
theorem dX3_write_6 : decode cX3_write 6 = .ok (.iload_n 2, 1) := by decide +kernel
theorem dX3_write_7 : decode cX3_write 7 = .ok (.invokevirtual 116, 3) := by decide +kernel
theorem dX3_write_10 : decode cX3_write 10 = .ok (.aload_n 0, 1) := by decide +kernel
theorem dX3_write_11 : decode cX3_write 11 = .ok (.iload_n 3, 1) := by decide +kernel
theorem dX3_write_12 : decode cX3_write 12 = .ok (.iconst 0, 1) := by decide +kernel
theorem dX3_write_13 : decode cX3_write 13 = .ok (.sipush 999, 3) := by decide +kernel
theorem dX3_write_16 : decode cX3_write 16 = .ok (.invokevirtual 62, 3) := by decide +kernel
theorem dX3_write_19 : decode cX3_write 19 = .ok (.aload_n 0, 1) := by decide +kernel
theorem dX3_write_20 : decode cX3_write 20 = .ok (.iload_n 1, 1) := by decide +kernel
theorem dX3_write_21 : decode cX3_write 21 = .ok (.invokevirtual 104, 3) := by decide +kernel
theorem dX3_write_24 : decode cX3_write 24 = .ok (.aload_n 0, 1) := by decide +kernel
theorem dX3_write_25 : decode cX3_write 25 = .ok (.getfield 12, 3) := by decide +kernel
theorem dX3_write_28 : decode cX3_write 28 = .ok (.iload_n 1, 1) := by decide +kernel
theorem dX3_write_29 : decode cX3_write 29 = .ok (.iload_n 2, 1) := by decide +kernel
theorem dX3_write_30 : decode cX3_write 30 = .ok (.invokevirtual 119, 3) := by decide +kernel
theorem dX3_write_33 : decode cX3_write 33 = .ok (.istore 4, 2) := by decide +kernel
theorem dX3_write_35 : decode cX3_write 35 = .ok (.aload_n 0, 1) := by decide +kernel
theorem dX3_write_36 : decode cX3_write 36 = .ok (.getfield 12, 3) := by decide +kernel
theorem dX3_write_39 : decode cX3_write 39 = .ok (.iload 4, 2) := by decide +kernel
theorem dX3_write_41 : decode cX3_write 41 = .ok (.invokevirtual 123, 3) := by decide +kernel
theorem dX3_write_44 : decode cX3_write 44 = .ok (.iconst 1, 1) := by decide +kernel
theorem dX3_write_45 : decode cX3_write 45 = .ok (.if_icmp .eq 43, 3) := by decide +kernel
theorem dX3_write_48 : decode cX3_write 48 = .ok (.aload_n 0, 1) := by decide +kernel
theorem dX3_write_49 : decode cX3_write 49 = .ok (.getfield 12, 3) := by decide +kernel
theorem dX3_write_52 : decode cX3_write 52 = .ok (.iload_n 1, 1) := by decide +kernel
theorem dX3_write_53 : decode cX3_write 53 = .ok (.invokevirtual 126, 3) := by decide +kernel
theorem dX3_write_56 : decode cX3_write 56 = .ok (.istore 5, 2) := by decide +kernel
theorem dX3_write_58 : decode cX3_write 58 = .ok (.aload_n 0, 1) := by decide +kernel
theorem dX3_write_59 : decode cX3_write 59 = .ok (.iload 5, 2) := by decide +kernel
theorem dX3_write_61 : decode cX3_write 61 = .ok (.iload_n 1, 1) := by decide +kernel
theorem dX3_write_62 : decode cX3_write 62 = .ok (.iload_n 2, 1) := by decide +kernel
theorem dX3_write_63 : decode cX3_write 63 = .ok (.invokevirtual 129, 3) := by decide +kernel
theorem dX3_write_66 : decode cX3_write 66 = .ok (.aload_n 0, 1) := by decide +kernel
theorem dX3_write_67 : decode cX3_write 67 = .ok (.getfield 12, 3) := by decide +kernel
theorem dX3_write_70 : decode cX3_write 70 = .ok (.iload 5, 2) := by decide +kernel
theorem dX3_write_72 : decode cX3_write 72 = .ok (.invokevirtual 132, 3) := by decide +kernel
theorem dX3_write_75 : decode cX3_write 75 = .ok (.istore 4, 2) := by decide +kernel
theorem dX3_write_77 : decode cX3_write 77 = .ok (.aload_n 0, 1) := by decide +kernel
theorem dX3_write_78 : decode cX3_write 78 = .ok (.getfield 12, 3) := by decide +kernel
theorem dX3_write_81 : decode cX3_write 81 = .ok (.iload_n 1, 1) := by decide +kernel
theorem dX3_write_82 : decode cX3_write 82 = .ok (.iload_n 2, 1) := by decide +kernel
theorem dX3_write_83 : decode cX3_write 83 = .ok (.iload 4, 2) := by decide +kernel
theorem dX3_write_85 : decode cX3_write 85 = .ok (.invokevirtual 135, 3) := by decide +kernel
theorem dX3_write_88 : decode cX3_write 88 = .ok (.aload_n 0, 1) := by decide +kernel
theorem dX3_write_89 : decode cX3_write 89 = .ok (.getfield 12, 3) := by decide +kernel
theorem dX3_write_92 : decode cX3_write 92 = .ok (.iload 4, 2) := by decide +kernel
theorem dX3_write_94 : decode cX3_write 94 = .ok (.iload_n 3, 1) := by decide +kernel
theorem dX3_write_95 : decode cX3_write 95 = .ok (.invokevirtual 138, 3) := by decide +kernel
theorem dX3_write_98 : decode cX3_write 98 = .ok (.aload_n 0, 1) := by decide +kernel
theorem dX3_write_99 : decode cX3_write 99 = .ok (.bipush 119, 2) := by decide +kernel
theorem dX3_write_101 : decode cX3_write 101 = .ok (.invokevirtual 90, 3) := by decide +kernel
theorem dX3_write_104 : decode cX3_write 104 = .ok (.iload 4, 2) := by decide +kernel
theorem dX3_write_106 : decode cX3_write 106 = .ok (.ireturn, 1) := by decide +kernel
theorem dX3_punch_0 : decode cX3_punch 0 = .ok (.aload_n 0, 1) := by decide +kernel
theorem dX3_punch_1 : decode cX3_punch 1 = .ok (.iload_n 1, 1) := by decide +kernel
theorem dX3_punch_2 : decode cX3_punch 2 = .ok (.invokevirtual 94, 3) := by decide +kernel
theorem dX3_punch_5 : decode cX3_punch 5 = .ok (.aload_n 0, 1) := by decide +kernel
theorem dX3_punch_6 : decode cX3_punch 6 = .ok (.iload_n 2, 1) := by decide +kernel
theorem dX3_punch_7 : decode cX3_punch 7 = .ok (.invokevirtual 116, 3) := by decide +kernel
theorem dX3_punch_10 : decode cX3_punch 10 = .ok (.aload_n 0, 1) := by decide +kernel
theorem dX3_punch_11 : decode cX3_punch 11 = .ok (.iload_n 1, 1) := by decide +kernel
theorem dX3_punch_12 : decode cX3_punch 12 = .ok (.invokevirtual 104, 3) := by decide +kernel
theorem dX3_punch_15 : decode cX3_punch 15 = .ok (.aload_n 0, 1) := by decide +kernel
theorem dX3_punch_16 : decode cX3_punch 16 = .ok (.getfield 12, 3) := by decide +kernel
theorem dX3_punch_19 : decode cX3_punch 19 = .ok (.iload_n 1, 1) := by decide +kernel
theorem dX3_punch_20 : decode cX3_punch 20 = .ok (.iload_n 2, 1) := by decide +kernel
theorem dX3_punch_21 : decode cX3_punch 21 = .ok (.invokevirtual 119, 3) := by decide +kernel
theorem dX3_punch_24 : decode cX3_punch 24 = .ok (.istore_n 3, 1) := by decide +kernel
theorem dX3_punch_25 : decode cX3_punch 25 = .ok (.iload_n 3, 1) := by decide +kernel
theorem dX3_punch_26 : decode cX3_punch 26 = .ok (.iconst (-1), 1) := by decide +kernel
theorem dX3_punch_27 : decode cX3_punch 27 = .ok (.if_icmp .ne 13, 3) := by decide +kernel
theorem dX3_punch_30 : decode cX3_punch 30 = .ok (.new 69, 3) := by decide +kernel
theorem dX3_punch_33 : decode cX3_punch 33 = .ok (.dup, 1) := by decide +kernel
theorem dX3_punch_34 : decode cX3_punch 34 = .ok (.ldc 141, 2) := by decide +kernel
theorem dX3_punch_36 : decode cX3_punch 36 = .ok (.invokespecial 73, 3) := by decide +kernel
theorem dX3_punch_39 : decode cX3_punch 39 = .ok (.athrow, 1) := by decide +kernel
theorem dX3_punch_40 : decode cX3_punch 40 = .ok (.aload_n 0, 1) := by decide +kernel
theorem dX3_punch_41 : decode cX3_punch 41 = .ok (.getfield 12, 3) := by decide +kernel
theorem dX3_punch_44 : decode cX3_punch 44 = .ok (.iload_n 1, 1) := by decide +kernel
theorem dX3_punch_45 : decode cX3_punch 45 = .ok (.iload_n 2, 1) := by decide +kernel
theorem dX3_punch_46 : decode cX3_punch 46 = .ok (.iconst (-1), 1) := by decide +kernel
theorem dX3_punch_47 : decode cX3_punch 47 = .ok (.invokevirtual 135, 3) := by decide +kernel
theorem dX3_punch_50 : decode cX3_punch 50 = .ok (.aload_n 0, 1) := by decide +kernel
theorem dX3_punch_51 : decode cX3_punch 51 = .ok (.bipush 104, 2) := by decide +kernel
theorem dX3_punch_53 : decode cX3_punch 53 = .ok (.invokevirtual 90, 3) := by decide +kernel
theorem dX3_punch_56 : decode cX3_punch 56 = .ok (.iload_n 3, 1) := by decide +kernel
theorem dX3_punch_57 : decode cX3_punch 57 = .ok (.ireturn, 1) := by decide +kernel
theorem dX3_read_0 : decode cX3_read 0 = .ok (.aload_n 0, 1) := by decide +kernel
theorem dX3_read_1 : decode cX3_read 1 = .ok (.getfield 12, 3) := by decide +kernel
theorem dX3_read_4 : decode cX3_read 4 = .ok (.aload_n 0, 1) := by decide +kernel
theorem dX3_read_5 : decode cX3_read 5 = .ok (.iload_n 1, 1) := by decide +kernel
theorem dX3_read_6 : decode cX3_read 6 = .ok (.iload_n 2, 1) := by decide +kernel
theorem dX3_read_7 : decode cX3_read 7 = .ok (.invokevirtual 143, 3) := by decide +kernel
theorem dX3_read_10 : decode cX3_read 10 = .ok (.invokevirtual 146, 3) := by decide +kernel
theorem dX3_read_13 : decode cX3_read 13 = .ok (.ireturn, 1) := by decide +kernel
theorem dX3_blockAt_0 : decode cX3_blockAt 0 = .ok (.aload_n 0, 1) := by decide +kernel
theorem dX3_blockAt_1 : decode cX3_blockAt 1 = .ok (.iload_n 1, 1) := by decide +kernel
theorem dX3_blockAt_2 : decode cX3_blockAt 2 = .ok (.iload_n 2, 1) := by decide +kernel
theorem dX3_blockAt_3 : decode cX3_blockAt 3 = .ok (.invokevirtual 143, 3) := by decide +kernel
theorem dX3_blockAt_6 : decode cX3_blockAt 6 = .ok (.ireturn, 1) := by decide +kernel
theorem dX3_blocksOf_0 : decode cX3_blocksOf 0 = .ok (.aload_n 0, 1) := by decide +kernel
theorem dX3_blocksOf_1 : decode cX3_blocksOf 1 = .ok (.iload_n 1, 1) := by decide +kernel
theorem dX3_blocksOf_2 : decode cX3_blocksOf 2 = .ok (.invokevirtual 94, 3) := by decide +kernel
theorem dX3_blocksOf_5 : decode cX3_blocksOf 5 = .ok (.iconst 0, 1) := by decide +kernel
theorem dX3_blocksOf_6 : decode cX3_blocksOf 6 = .ok (.istore_n 2, 1) := by decide +kernel
theorem dX3_blocksOf_7 : decode cX3_blocksOf 7 = .ok (.iconst 0, 1) := by decide +kernel
theorem dX3_blocksOf_8 : decode cX3_blocksOf 8 = .ok (.istore_n 3, 1) := by decide +kernel
theorem dX3_blocksOf_9 : decode cX3_blocksOf 9 = .ok (.iload_n 3, 1) := by decide +kernel
theorem dX3_blocksOf_10 : decode cX3_blocksOf 10 = .ok (.bipush 16, 2) := by decide +kernel
theorem dX3_blocksOf_12 : decode cX3_blocksOf 12 = .ok (.if_icmp .ge 25, 3) := by decide +kernel
theorem dX3_blocksOf_15 : decode cX3_blocksOf 15 = .ok (.aload_n 0, 1) := by decide +kernel
theorem dX3_blocksOf_16 : decode cX3_blocksOf 16 = .ok (.getfield 12, 3) := by decide +kernel
theorem dX3_blocksOf_19 : decode cX3_blocksOf 19 = .ok (.iload_n 1, 1) := by decide +kernel
theorem dX3_blocksOf_20 : decode cX3_blocksOf 20 = .ok (.iload_n 3, 1) := by decide +kernel
theorem dX3_blocksOf_21 : decode cX3_blocksOf 21 = .ok (.invokevirtual 119, 3) := by decide +kernel
theorem dX3_blocksOf_24 : decode cX3_blocksOf 24 = .ok (.iconst (-1), 1) := by decide +kernel
theorem dX3_blocksOf_25 : decode cX3_blocksOf 25 = .ok (.if_icmp .eq 6, 3) := by decide +kernel
theorem dX3_blocksOf_28 : decode cX3_blocksOf 28 = .ok (.iinc 2 1, 3) := by decide +kernel
theorem dX3_blocksOf_31 : decode cX3_blocksOf 31 = .ok (.iinc 3 1, 3) := by decide +kernel
theorem dX3_blocksOf_34 : decode cX3_blocksOf 34 = .ok (.goto (-25), 3) := by decide +kernel
theorem dX3_blocksOf_37 : decode cX3_blocksOf 37 = .ok (.iload_n 2, 1) := by decide +kernel
theorem dX3_blocksOf_38 : decode cX3_blocksOf 38 = .ok (.ireturn, 1) := by decide +kernel
theorem dX3_usedBy_0 : decode cX3_usedBy 0 = .ok (.aload_n 0, 1) := by decide +kernel
theorem dX3_usedBy_1 : decode cX3_usedBy 1 = .ok (.iload_n 1, 1) := by decide +kernel
theorem dX3_usedBy_2 : decode cX3_usedBy 2 = .ok (.invokevirtual 76, 3) := by decide +kernel
theorem dX3_usedBy_5 : decode cX3_usedBy 5 = .ok (.aload_n 0, 1) := by decide +kernel
theorem dX3_usedBy_6 : decode cX3_usedBy 6 = .ok (.getfield 12, 3) := by decide +kernel
theorem dX3_usedBy_9 : decode cX3_usedBy 9 = .ok (.iload_n 1, 1) := by decide +kernel
theorem dX3_usedBy_10 : decode cX3_usedBy 10 = .ok (.iconst (-1), 1) := by decide +kernel
theorem dX3_usedBy_11 : decode cX3_usedBy 11 = .ok (.invokevirtual 149, 3) := by decide +kernel
theorem dX3_usedBy_14 : decode cX3_usedBy 14 = .ok (.invokestatic 153, 3) := by decide +kernel
theorem dX3_usedBy_17 : decode cX3_usedBy 17 = .ok (.ireturn, 1) := by decide +kernel
theorem dX3_free_0 : decode cX3_free 0 = .ok (.aload_n 0, 1) := by decide +kernel
theorem dX3_free_1 : decode cX3_free 1 = .ok (.getfield 12, 3) := by decide +kernel
theorem dX3_free_4 : decode cX3_free 4 = .ok (.invokevirtual 159, 3) := by decide +kernel
theorem dX3_free_7 : decode cX3_free 7 = .ok (.ireturn, 1) := by decide +kernel
theorem dX3_usersOf_0 : decode cX3_usersOf 0 = .ok (.aload_n 0, 1) := by decide +kernel
theorem dX3_usersOf_1 : decode cX3_usersOf 1 = .ok (.iload_n 1, 1) := by decide +kernel
theorem dX3_usersOf_2 : decode cX3_usersOf 2 = .ok (.invokevirtual 162, 3) := by decide +kernel
theorem dX3_usersOf_5 : decode cX3_usersOf 5 = .ok (.aload_n 0, 1) := by decide +kernel
theorem dX3_usersOf_6 : decode cX3_usersOf 6 = .ok (.getfield 12, 3) := by decide +kernel
theorem dX3_usersOf_9 : decode cX3_usersOf 9 = .ok (.iload_n 1, 1) := by decide +kernel
theorem dX3_usersOf_10 : decode cX3_usersOf 10 = .ok (.invokevirtual 123, 3) := by decide +kernel
theorem dX3_usersOf_13 : decode cX3_usersOf 13 = .ok (.ireturn, 1) := by decide +kernel
theorem dX3_usersByWalk_0 : decode cX3_usersByWalk 0 = .ok (.aload_n 0, 1) := by decide +kernel
theorem dX3_usersByWalk_1 : decode cX3_usersByWalk 1 = .ok (.iload_n 1, 1) := by decide +kernel
theorem dX3_usersByWalk_2 : decode cX3_usersByWalk 2 = .ok (.invokevirtual 162, 3) := by decide +kernel
theorem dX3_usersByWalk_5 : decode cX3_usersByWalk 5 = .ok (.aload_n 0, 1) := by decide +kernel
theorem dX3_usersByWalk_6 : decode cX3_usersByWalk 6 = .ok (.invokevirtual 165, 3) := by decide +kernel
theorem dX3_usersByWalk_9 : decode cX3_usersByWalk 9 = .ok (.aload_n 0, 1) := by decide +kernel
theorem dX3_usersByWalk_10 : decode cX3_usersByWalk 10 = .ok (.getfield 59, 3) := by decide +kernel
theorem dX3_usersByWalk_13 : decode cX3_usersByWalk 13 = .ok (.iload_n 1, 1) := by decide +kernel
theorem dX3_usersByWalk_14 : decode cX3_usersByWalk 14 = .ok (.iaload, 1) := by decide +kernel
theorem dX3_usersByWalk_15 : decode cX3_usersByWalk 15 = .ok (.ireturn, 1) := by decide +kernel
theorem dX3_promise_0 : decode cX3_promise 0 = .ok (.aload_n 0, 1) := by decide +kernel
theorem dX3_promise_1 : decode cX3_promise 1 = .ok (.iload_n 1, 1) := by decide +kernel
theorem dX3_promise_2 : decode cX3_promise 2 = .ok (.invokevirtual 76, 3) := by decide +kernel
theorem dX3_promise_5 : decode cX3_promise 5 = .ok (.aload_n 0, 1) := by decide +kernel
theorem dX3_promise_6 : decode cX3_promise 6 = .ok (.iload_n 2, 1) := by decide +kernel
theorem dX3_promise_7 : decode cX3_promise 7 = .ok (.iconst 1, 1) := by decide +kernel
theorem dX3_promise_8 : decode cX3_promise 8 = .ok (.bipush 64, 2) := by decide +kernel
theorem dX3_promise_10 : decode cX3_promise 10 = .ok (.invokevirtual 62, 3) := by decide +kernel
theorem dX3_promise_13 : decode cX3_promise 13 = .ok (.iload_n 2, 1) := by decide +kernel
theorem dX3_promise_14 : decode cX3_promise 14 = .ok (.aload_n 0, 1) := by decide +kernel
theorem dX3_promise_15 : decode cX3_promise 15 = .ok (.getfield 12, 3) := by decide +kernel
theorem dX3_promise_18 : decode cX3_promise 18 = .ok (.invokevirtual 159, 3) := by decide +kernel
theorem dX3_promise_21 : decode cX3_promise 21 = .ok (.aload_n 0, 1) := by decide +kernel
theorem dX3_promise_22 : decode cX3_promise 22 = .ok (.getfield 12, 3) := by decide +kernel
theorem dX3_promise_25 : decode cX3_promise 25 = .ok (.invokevirtual 168, 3) := by decide +kernel
theorem dX3_promise_28 : decode cX3_promise 28 = .ok (.isub, 1) := by decide +kernel
theorem dX3_promise_29 : decode cX3_promise 29 = .ok (.if_icmp .le 13, 3) := by decide +kernel
theorem dX3_promise_32 : decode cX3_promise 32 = .ok (.new 171, 3) := by decide +kernel
theorem dX3_promise_35 : decode cX3_promise 35 = .ok (.dup, 1) := by decide +kernel
theorem dX3_promise_36 : decode cX3_promise 36 = .ok (.ldc 173, 2) := by decide +kernel
theorem dX3_promise_38 : decode cX3_promise 38 = .ok (.invokespecial 175, 3) := by decide +kernel
theorem dX3_promise_41 : decode cX3_promise 41 = .ok (.athrow, 1) := by decide +kernel
theorem dX3_promise_42 : decode cX3_promise 42 = .ok (.aload_n 0, 1) := by decide +kernel
theorem dX3_promise_43 : decode cX3_promise 43 = .ok (.getfield 12, 3) := by decide +kernel
theorem dX3_promise_46 : decode cX3_promise 46 = .ok (.iload_n 1, 1) := by decide +kernel
theorem dX3_promise_47 : decode cX3_promise 47 = .ok (.invokevirtual 176, 3) := by decide +kernel
theorem dX3_promise_50 : decode cX3_promise 50 = .ok (.iload_n 2, 1) := by decide +kernel
theorem dX3_promise_51 : decode cX3_promise 51 = .ok (.iadd, 1) := by decide +kernel
theorem dX3_promise_52 : decode cX3_promise 52 = .ok (.istore_n 3, 1) := by decide +kernel
theorem dX3_promise_53 : decode cX3_promise 53 = .ok (.aload_n 0, 1) := by decide +kernel
theorem dX3_promise_54 : decode cX3_promise 54 = .ok (.getfield 12, 3) := by decide +kernel
theorem dX3_promise_57 : decode cX3_promise 57 = .ok (.iload_n 1, 1) := by decide +kernel
theorem dX3_promise_58 : decode cX3_promise 58 = .ok (.iload_n 3, 1) := by decide +kernel
theorem dX3_promise_59 : decode cX3_promise 59 = .ok (.invokevirtual 179, 3) := by decide +kernel
theorem dX3_promise_62 : decode cX3_promise 62 = .ok (.aload_n 0, 1) := by decide +kernel
theorem dX3_promise_63 : decode cX3_promise 63 = .ok (.bipush 112, 2) := by decide +kernel
theorem dX3_promise_65 : decode cX3_promise 65 = .ok (.invokevirtual 90, 3) := by decide +kernel
theorem dX3_promise_68 : decode cX3_promise 68 = .ok (.iload_n 3, 1) := by decide +kernel
theorem dX3_promise_69 : decode cX3_promise 69 = .ok (.ireturn, 1) := by decide +kernel
theorem dX3_promisedTo_0 : decode cX3_promisedTo 0 = .ok (.aload_n 0, 1) := by decide +kernel
theorem dX3_promisedTo_1 : decode cX3_promisedTo 1 = .ok (.iload_n 1, 1) := by decide +kernel
theorem dX3_promisedTo_2 : decode cX3_promisedTo 2 = .ok (.invokevirtual 76, 3) := by decide +kernel
theorem dX3_promisedTo_5 : decode cX3_promisedTo 5 = .ok (.aload_n 0, 1) := by decide +kernel
theorem dX3_promisedTo_6 : decode cX3_promisedTo 6 = .ok (.getfield 12, 3) := by decide +kernel
theorem dX3_promisedTo_9 : decode cX3_promisedTo 9 = .ok (.iload_n 1, 1) := by decide +kernel
theorem dX3_promisedTo_10 : decode cX3_promisedTo 10 = .ok (.invokevirtual 176, 3) := by decide +kernel
theorem dX3_promisedTo_13 : decode cX3_promisedTo 13 = .ok (.ireturn, 1) := by decide +kernel
theorem dX3_giveBack_0 : decode cX3_giveBack 0 = .ok (.aload_n 0, 1) := by decide +kernel
theorem dX3_giveBack_1 : decode cX3_giveBack 1 = .ok (.iload_n 1, 1) := by decide +kernel
theorem dX3_giveBack_2 : decode cX3_giveBack 2 = .ok (.invokevirtual 76, 3) := by decide +kernel
theorem dX3_giveBack_5 : decode cX3_giveBack 5 = .ok (.aload_n 0, 1) := by decide +kernel
theorem dX3_giveBack_6 : decode cX3_giveBack 6 = .ok (.getfield 12, 3) := by decide +kernel
theorem dX3_giveBack_9 : decode cX3_giveBack 9 = .ok (.iload_n 1, 1) := by decide +kernel
theorem dX3_giveBack_10 : decode cX3_giveBack 10 = .ok (.invokevirtual 176, 3) := by decide +kernel
theorem dX3_giveBack_13 : decode cX3_giveBack 13 = .ok (.istore_n 2, 1) := by decide +kernel
theorem dX3_giveBack_14 : decode cX3_giveBack 14 = .ok (.iload_n 2, 1) := by decide +kernel
theorem dX3_giveBack_15 : decode cX3_giveBack 15 = .ok (.ifCond .ne 13, 3) := by decide +kernel
theorem dX3_giveBack_18 : decode cX3_giveBack 18 = .ok (.new 69, 3) := by decide +kernel
theorem dX3_giveBack_21 : decode cX3_giveBack 21 = .ok (.dup, 1) := by decide +kernel
theorem dX3_giveBack_22 : decode cX3_giveBack 22 = .ok (.ldc 182, 2) := by decide +kernel
theorem dX3_giveBack_24 : decode cX3_giveBack 24 = .ok (.invokespecial 73, 3) := by decide +kernel
theorem dX3_giveBack_27 : decode cX3_giveBack 27 = .ok (.athrow, 1) := by decide +kernel
theorem dX3_giveBack_28 : decode cX3_giveBack 28 = .ok (.aload_n 0, 1) := by decide +kernel
theorem dX3_giveBack_29 : decode cX3_giveBack 29 = .ok (.getfield 12, 3) := by decide +kernel
theorem dX3_giveBack_32 : decode cX3_giveBack 32 = .ok (.iload_n 1, 1) := by decide +kernel
theorem dX3_giveBack_33 : decode cX3_giveBack 33 = .ok (.iconst 0, 1) := by decide +kernel
theorem dX3_giveBack_34 : decode cX3_giveBack 34 = .ok (.invokevirtual 179, 3) := by decide +kernel
theorem dX3_giveBack_37 : decode cX3_giveBack 37 = .ok (.aload_n 0, 1) := by decide +kernel
theorem dX3_giveBack_38 : decode cX3_giveBack 38 = .ok (.bipush 103, 2) := by decide +kernel
theorem dX3_giveBack_40 : decode cX3_giveBack 40 = .ok (.invokevirtual 90, 3) := by decide +kernel
theorem dX3_giveBack_43 : decode cX3_giveBack 43 = .ok (.iload_n 2, 1) := by decide +kernel
theorem dX3_giveBack_44 : decode cX3_giveBack 44 = .ok (.ireturn, 1) := by decide +kernel
theorem dX3_takeSnapshot_0 : decode cX3_takeSnapshot 0 = .ok (.aload_n 0, 1) := by decide +kernel
theorem dX3_takeSnapshot_1 : decode cX3_takeSnapshot 1 = .ok (.iload_n 1, 1) := by decide +kernel
theorem dX3_takeSnapshot_2 : decode cX3_takeSnapshot 2 = .ok (.iconst 0, 1) := by decide +kernel
theorem dX3_takeSnapshot_3 : decode cX3_takeSnapshot 3 = .ok (.bipush 9, 2) := by decide +kernel
theorem dX3_takeSnapshot_5 : decode cX3_takeSnapshot 5 = .ok (.invokevirtual 62, 3) := by decide +kernel
theorem dX3_takeSnapshot_8 : decode cX3_takeSnapshot 8 = .ok (.aload_n 0, 1) := by decide +kernel
theorem dX3_takeSnapshot_9 : decode cX3_takeSnapshot 9 = .ok (.invokevirtual 66, 3) := by decide +kernel
theorem dX3_takeSnapshot_12 : decode cX3_takeSnapshot 12 = .ok (.aload_n 0, 1) := by decide +kernel
theorem dX3_takeSnapshot_13 : decode cX3_takeSnapshot 13 = .ok (.getfield 38, 3) := by decide +kernel
theorem dX3_takeSnapshot_16 : decode cX3_takeSnapshot 16 = .ok (.invokevirtual 184, 3) := by decide +kernel
theorem dX3_takeSnapshot_19 : decode cX3_takeSnapshot 19 = .ok (.bipush 8, 2) := by decide +kernel
theorem dX3_takeSnapshot_21 : decode cX3_takeSnapshot 21 = .ok (.if_icmp .lt 13, 3) := by decide +kernel
theorem dX3_takeSnapshot_24 : decode cX3_takeSnapshot 24 = .ok (.new 69, 3) := by decide +kernel
theorem dX3_takeSnapshot_27 : decode cX3_takeSnapshot 27 = .ok (.dup, 1) := by decide +kernel
theorem dX3_takeSnapshot_28 : decode cX3_takeSnapshot 28 = .ok (.ldc 187, 2) := by decide +kernel
theorem dX3_takeSnapshot_30 : decode cX3_takeSnapshot 30 = .ok (.invokespecial 73, 3) := by decide +kernel
theorem dX3_takeSnapshot_33 : decode cX3_takeSnapshot 33 = .ok (.athrow, 1) := by decide +kernel
theorem dX3_takeSnapshot_34 : decode cX3_takeSnapshot 34 = .ok (.aload_n 0, 1) := by decide +kernel
theorem dX3_takeSnapshot_35 : decode cX3_takeSnapshot 35 = .ok (.getfield 38, 3) := by decide +kernel
theorem dX3_takeSnapshot_38 : decode cX3_takeSnapshot 38 = .ok (.invokevirtual 189, 3) := by decide +kernel
theorem dX3_takeSnapshot_41 : decode cX3_takeSnapshot 41 = .ok (.bipush 30, 2) := by decide +kernel
theorem dX3_takeSnapshot_43 : decode cX3_takeSnapshot 43 = .ok (.if_icmp .lt 13, 3) := by decide +kernel
theorem dX3_takeSnapshot_46 : decode cX3_takeSnapshot 46 = .ok (.new 69, 3) := by decide +kernel
theorem dX3_takeSnapshot_49 : decode cX3_takeSnapshot 49 = .ok (.dup, 1) := by decide +kernel
theorem dX3_takeSnapshot_50 : decode cX3_takeSnapshot 50 = .ok (.ldc 192, 2) := by decide +kernel
theorem dX3_takeSnapshot_52 : decode cX3_takeSnapshot 52 = .ok (.invokespecial 73, 3) := by decide +kernel
theorem dX3_takeSnapshot_55 : decode cX3_takeSnapshot 55 = .ok (.athrow, 1) := by decide +kernel
theorem dX3_takeSnapshot_56 : decode cX3_takeSnapshot 56 = .ok (.aload_n 0, 1) := by decide +kernel
theorem dX3_takeSnapshot_57 : decode cX3_takeSnapshot 57 = .ok (.getfield 38, 3) := by decide +kernel
theorem dX3_takeSnapshot_60 : decode cX3_takeSnapshot 60 = .ok (.iload_n 1, 1) := by decide +kernel
theorem dX3_takeSnapshot_61 : decode cX3_takeSnapshot 61 = .ok (.aload_n 0, 1) := by decide +kernel
theorem dX3_takeSnapshot_62 : decode cX3_takeSnapshot 62 = .ok (.getfield 12, 3) := by decide +kernel
theorem dX3_takeSnapshot_65 : decode cX3_takeSnapshot 65 = .ok (.invokevirtual 194, 3) := by decide +kernel
theorem dX3_takeSnapshot_68 : decode cX3_takeSnapshot 68 = .ok (.ireturn, 1) := by decide +kernel
theorem dX3_isKept_0 : decode cX3_isKept 0 = .ok (.aload_n 0, 1) := by decide +kernel
theorem dX3_isKept_1 : decode cX3_isKept 1 = .ok (.iload_n 1, 1) := by decide +kernel
theorem dX3_isKept_2 : decode cX3_isKept 2 = .ok (.invokevirtual 198, 3) := by decide +kernel
theorem dX3_isKept_5 : decode cX3_isKept 5 = .ok (.aload_n 0, 1) := by decide +kernel
theorem dX3_isKept_6 : decode cX3_isKept 6 = .ok (.getfield 38, 3) := by decide +kernel
theorem dX3_isKept_9 : decode cX3_isKept 9 = .ok (.iload_n 1, 1) := by decide +kernel
theorem dX3_isKept_10 : decode cX3_isKept 10 = .ok (.invokevirtual 201, 3) := by decide +kernel
theorem dX3_isKept_13 : decode cX3_isKept 13 = .ok (.iconst (-1), 1) := by decide +kernel
theorem dX3_isKept_14 : decode cX3_isKept 14 = .ok (.if_icmp .eq 7, 3) := by decide +kernel
theorem dX3_isKept_17 : decode cX3_isKept 17 = .ok (.iconst 1, 1) := by decide +kernel
theorem dX3_isKept_18 : decode cX3_isKept 18 = .ok (.goto 4, 3) := by decide +kernel
theorem dX3_isKept_21 : decode cX3_isKept 21 = .ok (.iconst 0, 1) := by decide +kernel
theorem dX3_isKept_22 : decode cX3_isKept 22 = .ok (.ireturn, 1) := by decide +kernel
theorem dX3_readFrom_0 : decode cX3_readFrom 0 = .ok (.aload_n 0, 1) := by decide +kernel
theorem dX3_readFrom_1 : decode cX3_readFrom 1 = .ok (.iload_n 1, 1) := by decide +kernel
theorem dX3_readFrom_2 : decode cX3_readFrom 2 = .ok (.invokevirtual 198, 3) := by decide +kernel
theorem dX3_readFrom_5 : decode cX3_readFrom 5 = .ok (.aload_n 0, 1) := by decide +kernel
theorem dX3_readFrom_6 : decode cX3_readFrom 6 = .ok (.iload_n 2, 1) := by decide +kernel
theorem dX3_readFrom_7 : decode cX3_readFrom 7 = .ok (.invokevirtual 94, 3) := by decide +kernel
theorem dX3_readFrom_10 : decode cX3_readFrom 10 = .ok (.aload_n 0, 1) := by decide +kernel
theorem dX3_readFrom_11 : decode cX3_readFrom 11 = .ok (.iload_n 3, 1) := by decide +kernel
theorem dX3_readFrom_12 : decode cX3_readFrom 12 = .ok (.invokevirtual 116, 3) := by decide +kernel
theorem dX3_readFrom_15 : decode cX3_readFrom 15 = .ok (.aload_n 0, 1) := by decide +kernel
theorem dX3_readFrom_16 : decode cX3_readFrom 16 = .ok (.iload_n 1, 1) := by decide +kernel
theorem dX3_readFrom_17 : decode cX3_readFrom 17 = .ok (.iload_n 2, 1) := by decide +kernel
theorem dX3_readFrom_18 : decode cX3_readFrom 18 = .ok (.invokevirtual 204, 3) := by decide +kernel
theorem dX3_readFrom_21 : decode cX3_readFrom 21 = .ok (.aload_n 0, 1) := by decide +kernel
theorem dX3_readFrom_22 : decode cX3_readFrom 22 = .ok (.getfield 38, 3) := by decide +kernel
theorem dX3_readFrom_25 : decode cX3_readFrom 25 = .ok (.iload_n 1, 1) := by decide +kernel
theorem dX3_readFrom_26 : decode cX3_readFrom 26 = .ok (.iload_n 2, 1) := by decide +kernel
theorem dX3_readFrom_27 : decode cX3_readFrom 27 = .ok (.iload_n 3, 1) := by decide +kernel
theorem dX3_readFrom_28 : decode cX3_readFrom 28 = .ok (.invokevirtual 207, 3) := by decide +kernel
theorem dX3_readFrom_31 : decode cX3_readFrom 31 = .ok (.istore 4, 2) := by decide +kernel
theorem dX3_readFrom_33 : decode cX3_readFrom 33 = .ok (.iload 4, 2) := by decide +kernel
theorem dX3_readFrom_35 : decode cX3_readFrom 35 = .ok (.iconst (-1), 1) := by decide +kernel
theorem dX3_readFrom_36 : decode cX3_readFrom 36 = .ok (.if_icmp .ne 13, 3) := by decide +kernel
theorem dX3_readFrom_39 : decode cX3_readFrom 39 = .ok (.new 210, 3) := by decide +kernel
theorem dX3_readFrom_42 : decode cX3_readFrom 42 = .ok (.dup, 1) := by decide +kernel
theorem dX3_readFrom_43 : decode cX3_readFrom 43 = .ok (.ldc 212, 2) := by decide +kernel
theorem dX3_readFrom_45 : decode cX3_readFrom 45 = .ok (.invokespecial 214, 3) := by decide +kernel
theorem dX3_readFrom_48 : decode cX3_readFrom 48 = .ok (.athrow, 1) := by decide +kernel
theorem dX3_readFrom_49 : decode cX3_readFrom 49 = .ok (.aload_n 0, 1) := by decide +kernel
theorem dX3_readFrom_50 : decode cX3_readFrom 50 = .ok (.getfield 12, 3) := by decide +kernel
theorem dX3_readFrom_53 : decode cX3_readFrom 53 = .ok (.iload 4, 2) := by decide +kernel
theorem dX3_readFrom_55 : decode cX3_readFrom 55 = .ok (.invokevirtual 146, 3) := by decide +kernel
theorem dX3_readFrom_58 : decode cX3_readFrom 58 = .ok (.ireturn, 1) := by decide +kernel
theorem dX3_thin_0 : decode cX3_thin 0 = .ok (.aload_n 0, 1) := by decide +kernel
theorem dX3_thin_1 : decode cX3_thin 1 = .ok (.iload_n 1, 1) := by decide +kernel
theorem dX3_thin_2 : decode cX3_thin 2 = .ok (.iconst 0, 1) := by decide +kernel
theorem dX3_thin_3 : decode cX3_thin 3 = .ok (.bipush 8, 2) := by decide +kernel
theorem dX3_thin_5 : decode cX3_thin 5 = .ok (.invokevirtual 62, 3) := by decide +kernel
theorem dX3_thin_8 : decode cX3_thin 8 = .ok (.aload_n 0, 1) := by decide +kernel
theorem dX3_thin_9 : decode cX3_thin 9 = .ok (.invokevirtual 66, 3) := by decide +kernel
theorem dX3_thin_12 : decode cX3_thin 12 = .ok (.iconst 0, 1) := by decide +kernel
theorem dX3_thin_13 : decode cX3_thin 13 = .ok (.aload_n 0, 1) := by decide +kernel
theorem dX3_thin_14 : decode cX3_thin 14 = .ok (.getfield 38, 3) := by decide +kernel
theorem dX3_thin_17 : decode cX3_thin 17 = .ok (.invokevirtual 184, 3) := by decide +kernel
theorem dX3_thin_20 : decode cX3_thin 20 = .ok (.iload_n 1, 1) := by decide +kernel
theorem dX3_thin_21 : decode cX3_thin 21 = .ok (.isub, 1) := by decide +kernel
theorem dX3_thin_22 : decode cX3_thin 22 = .ok (.invokestatic 215, 3) := by decide +kernel
theorem dX3_thin_25 : decode cX3_thin 25 = .ok (.istore_n 2, 1) := by decide +kernel
theorem dX3_thin_26 : decode cX3_thin 26 = .ok (.iconst 0, 1) := by decide +kernel
theorem dX3_thin_27 : decode cX3_thin 27 = .ok (.istore_n 3, 1) := by decide +kernel
theorem dX3_thin_28 : decode cX3_thin 28 = .ok (.iload_n 3, 1) := by decide +kernel
theorem dX3_thin_29 : decode cX3_thin 29 = .ok (.iload_n 2, 1) := by decide +kernel
theorem dX3_thin_30 : decode cX3_thin 30 = .ok (.if_icmp .ge 27, 3) := by decide +kernel
theorem dX3_thin_33 : decode cX3_thin 33 = .ok (.aload_n 0, 1) := by decide +kernel
theorem dX3_thin_34 : decode cX3_thin 34 = .ok (.getfield 38, 3) := by decide +kernel
theorem dX3_thin_37 : decode cX3_thin 37 = .ok (.aload_n 0, 1) := by decide +kernel
theorem dX3_thin_38 : decode cX3_thin 38 = .ok (.getfield 38, 3) := by decide +kernel
theorem dX3_thin_41 : decode cX3_thin 41 = .ok (.invokevirtual 220, 3) := by decide +kernel
theorem dX3_thin_44 : decode cX3_thin 44 = .ok (.aload_n 0, 1) := by decide +kernel
theorem dX3_thin_45 : decode cX3_thin 45 = .ok (.getfield 12, 3) := by decide +kernel
theorem dX3_thin_48 : decode cX3_thin 48 = .ok (.invokevirtual 223, 3) := by decide +kernel
theorem dX3_thin_51 : decode cX3_thin 51 = .ok (.iinc 3 1, 3) := by decide +kernel
theorem dX3_thin_54 : decode cX3_thin 54 = .ok (.goto (-26), 3) := by decide +kernel
theorem dX3_thin_57 : decode cX3_thin 57 = .ok (.iload_n 2, 1) := by decide +kernel
theorem dX3_thin_58 : decode cX3_thin 58 = .ok (.ireturn, 1) := by decide +kernel
theorem dX3_nextToDrop_0 : decode cX3_nextToDrop 0 = .ok (.aload_n 0, 1) := by decide +kernel
theorem dX3_nextToDrop_1 : decode cX3_nextToDrop 1 = .ok (.getfield 38, 3) := by decide +kernel
theorem dX3_nextToDrop_4 : decode cX3_nextToDrop 4 = .ok (.invokevirtual 220, 3) := by decide +kernel
theorem dX3_nextToDrop_7 : decode cX3_nextToDrop 7 = .ok (.istore_n 1, 1) := by decide +kernel
theorem dX3_nextToDrop_8 : decode cX3_nextToDrop 8 = .ok (.iload_n 1, 1) := by decide +kernel
theorem dX3_nextToDrop_9 : decode cX3_nextToDrop 9 = .ok (.iconst (-1), 1) := by decide +kernel
theorem dX3_nextToDrop_10 : decode cX3_nextToDrop 10 = .ok (.if_icmp .ne 13, 3) := by decide +kernel
theorem dX3_nextToDrop_13 : decode cX3_nextToDrop 13 = .ok (.new 210, 3) := by decide +kernel
theorem dX3_nextToDrop_16 : decode cX3_nextToDrop 16 = .ok (.dup, 1) := by decide +kernel
theorem dX3_nextToDrop_17 : decode cX3_nextToDrop 17 = .ok (.ldc 227, 2) := by decide +kernel
theorem dX3_nextToDrop_19 : decode cX3_nextToDrop 19 = .ok (.invokespecial 214, 3) := by decide +kernel
theorem dX3_nextToDrop_22 : decode cX3_nextToDrop 22 = .ok (.athrow, 1) := by decide +kernel
theorem dX3_nextToDrop_23 : decode cX3_nextToDrop 23 = .ok (.iload_n 1, 1) := by decide +kernel
theorem dX3_nextToDrop_24 : decode cX3_nextToDrop 24 = .ok (.ireturn, 1) := by decide +kernel
theorem dX3_restore_0 : decode cX3_restore 0 = .ok (.aload_n 0, 1) := by decide +kernel
theorem dX3_restore_1 : decode cX3_restore 1 = .ok (.iload_n 1, 1) := by decide +kernel
theorem dX3_restore_2 : decode cX3_restore 2 = .ok (.invokevirtual 198, 3) := by decide +kernel
theorem dX3_restore_5 : decode cX3_restore 5 = .ok (.aload_n 0, 1) := by decide +kernel
theorem dX3_restore_6 : decode cX3_restore 6 = .ok (.iload_n 2, 1) := by decide +kernel
theorem dX3_restore_7 : decode cX3_restore 7 = .ok (.invokevirtual 94, 3) := by decide +kernel
theorem dX3_restore_10 : decode cX3_restore 10 = .ok (.aload_n 0, 1) := by decide +kernel
theorem dX3_restore_11 : decode cX3_restore 11 = .ok (.iload_n 1, 1) := by decide +kernel
theorem dX3_restore_12 : decode cX3_restore 12 = .ok (.iload_n 2, 1) := by decide +kernel
theorem dX3_restore_13 : decode cX3_restore 13 = .ok (.invokevirtual 204, 3) := by decide +kernel
theorem dX3_restore_16 : decode cX3_restore 16 = .ok (.aload_n 0, 1) := by decide +kernel
theorem dX3_restore_17 : decode cX3_restore 17 = .ok (.invokevirtual 66, 3) := by decide +kernel
theorem dX3_restore_20 : decode cX3_restore 20 = .ok (.aload_n 0, 1) := by decide +kernel
theorem dX3_restore_21 : decode cX3_restore 21 = .ok (.iload_n 2, 1) := by decide +kernel
theorem dX3_restore_22 : decode cX3_restore 22 = .ok (.invokevirtual 104, 3) := by decide +kernel
theorem dX3_restore_25 : decode cX3_restore 25 = .ok (.aload_n 0, 1) := by decide +kernel
theorem dX3_restore_26 : decode cX3_restore 26 = .ok (.getfield 12, 3) := by decide +kernel
theorem dX3_restore_29 : decode cX3_restore 29 = .ok (.iload_n 2, 1) := by decide +kernel
theorem dX3_restore_30 : decode cX3_restore 30 = .ok (.invokevirtual 126, 3) := by decide +kernel
theorem dX3_restore_33 : decode cX3_restore 33 = .ok (.istore_n 3, 1) := by decide +kernel
theorem dX3_restore_34 : decode cX3_restore 34 = .ok (.aload_n 0, 1) := by decide +kernel
theorem dX3_restore_35 : decode cX3_restore 35 = .ok (.getfield 12, 3) := by decide +kernel
theorem dX3_restore_38 : decode cX3_restore 38 = .ok (.iload_n 3, 1) := by decide +kernel
theorem dX3_restore_39 : decode cX3_restore 39 = .ok (.iload_n 2, 1) := by decide +kernel
theorem dX3_restore_40 : decode cX3_restore 40 = .ok (.invokevirtual 149, 3) := by decide +kernel
theorem dX3_restore_43 : decode cX3_restore 43 = .ok (.aload_n 0, 1) := by decide +kernel
theorem dX3_restore_44 : decode cX3_restore 44 = .ok (.getfield 38, 3) := by decide +kernel
theorem dX3_restore_47 : decode cX3_restore 47 = .ok (.iload_n 1, 1) := by decide +kernel
theorem dX3_restore_48 : decode cX3_restore 48 = .ok (.iload_n 2, 1) := by decide +kernel
theorem dX3_restore_49 : decode cX3_restore 49 = .ok (.invokevirtual 229, 3) := by decide +kernel
theorem dX3_restore_52 : decode cX3_restore 52 = .ok (.lor, 1) := by decide +kernel
theorem dX3_restore_53 : decode cX3_restore 53 = .ok (.lstore 4, 2) := by decide +kernel
theorem dX3_restore_55 : decode cX3_restore 55 = .ok (.lload 4, 2) := by decide +kernel
theorem dX3_restore_57 : decode cX3_restore 57 = .ok (.invokestatic 153, 3) := by decide +kernel
theorem dX3_restore_60 : decode cX3_restore 60 = .ok (.aload_n 0, 1) := by decide +kernel
theorem dX3_restore_61 : decode cX3_restore 61 = .ok (.iload_n 3, 1) := by decide +kernel
theorem dX3_restore_62 : decode cX3_restore 62 = .ok (.invokevirtual 232, 3) := by decide +kernel
theorem dX3_restore_65 : decode cX3_restore 65 = .ok (.if_icmp .le 13, 3) := by decide +kernel
theorem dX3_restore_68 : decode cX3_restore 68 = .ok (.new 171, 3) := by decide +kernel
theorem dX3_restore_71 : decode cX3_restore 71 = .ok (.dup, 1) := by decide +kernel
theorem dX3_restore_72 : decode cX3_restore 72 = .ok (.ldc 235, 2) := by decide +kernel
theorem dX3_restore_74 : decode cX3_restore 74 = .ok (.invokespecial 175, 3) := by decide +kernel
theorem dX3_restore_77 : decode cX3_restore 77 = .ok (.athrow, 1) := by decide +kernel
theorem dX3_restore_78 : decode cX3_restore 78 = .ok (.iconst 0, 1) := by decide +kernel
theorem dX3_restore_79 : decode cX3_restore 79 = .ok (.istore 6, 2) := by decide +kernel
theorem dX3_restore_81 : decode cX3_restore 81 = .ok (.iconst 0, 1) := by decide +kernel
theorem dX3_restore_82 : decode cX3_restore 82 = .ok (.istore 7, 2) := by decide +kernel
theorem dX3_restore_84 : decode cX3_restore 84 = .ok (.iload 7, 2) := by decide +kernel
theorem dX3_restore_86 : decode cX3_restore 86 = .ok (.bipush 16, 2) := by decide +kernel
theorem dX3_restore_88 : decode cX3_restore 88 = .ok (.if_icmp .ge 52, 3) := by decide +kernel
theorem dX3_restore_91 : decode cX3_restore 91 = .ok (.aload_n 0, 1) := by decide +kernel
theorem dX3_restore_92 : decode cX3_restore 92 = .ok (.getfield 38, 3) := by decide +kernel
theorem dX3_restore_95 : decode cX3_restore 95 = .ok (.iload_n 1, 1) := by decide +kernel
theorem dX3_restore_96 : decode cX3_restore 96 = .ok (.iload_n 2, 1) := by decide +kernel
theorem dX3_restore_97 : decode cX3_restore 97 = .ok (.iload 7, 2) := by decide +kernel
theorem dX3_restore_99 : decode cX3_restore 99 = .ok (.invokevirtual 207, 3) := by decide +kernel
theorem dX3_restore_102 : decode cX3_restore 102 = .ok (.istore 8, 2) := by decide +kernel
theorem dX3_restore_104 : decode cX3_restore 104 = .ok (.iload 8, 2) := by decide +kernel
theorem dX3_restore_106 : decode cX3_restore 106 = .ok (.aload_n 0, 1) := by decide +kernel
theorem dX3_restore_107 : decode cX3_restore 107 = .ok (.getfield 12, 3) := by decide +kernel
theorem dX3_restore_110 : decode cX3_restore 110 = .ok (.iload_n 2, 1) := by decide +kernel
theorem dX3_restore_111 : decode cX3_restore 111 = .ok (.iload 7, 2) := by decide +kernel
theorem dX3_restore_113 : decode cX3_restore 113 = .ok (.invokevirtual 119, 3) := by decide +kernel
theorem dX3_restore_116 : decode cX3_restore 116 = .ok (.if_icmp .eq 18, 3) := by decide +kernel
theorem dX3_restore_119 : decode cX3_restore 119 = .ok (.aload_n 0, 1) := by decide +kernel
theorem dX3_restore_120 : decode cX3_restore 120 = .ok (.getfield 12, 3) := by decide +kernel
theorem dX3_restore_123 : decode cX3_restore 123 = .ok (.iload_n 2, 1) := by decide +kernel
theorem dX3_restore_124 : decode cX3_restore 124 = .ok (.iload 7, 2) := by decide +kernel
theorem dX3_restore_126 : decode cX3_restore 126 = .ok (.iload 8, 2) := by decide +kernel
theorem dX3_restore_128 : decode cX3_restore 128 = .ok (.invokevirtual 135, 3) := by decide +kernel
theorem dX3_restore_131 : decode cX3_restore 131 = .ok (.iinc 6 1, 3) := by decide +kernel
theorem dX3_restore_134 : decode cX3_restore 134 = .ok (.iinc 7 1, 3) := by decide +kernel
theorem dX3_restore_137 : decode cX3_restore 137 = .ok (.goto (-53), 3) := by decide +kernel
theorem dX3_restore_140 : decode cX3_restore 140 = .ok (.iload 6, 2) := by decide +kernel
theorem dX3_restore_142 : decode cX3_restore 142 = .ok (.ireturn, 1) := by decide +kernel
theorem dX3_openHold_0 : decode cX3_openHold 0 = .ok (.aload_n 0, 1) := by decide +kernel
theorem dX3_openHold_1 : decode cX3_openHold 1 = .ok (.iload_n 1, 1) := by decide +kernel
theorem dX3_openHold_2 : decode cX3_openHold 2 = .ok (.invokevirtual 94, 3) := by decide +kernel
theorem dX3_openHold_5 : decode cX3_openHold 5 = .ok (.aload_n 0, 1) := by decide +kernel
theorem dX3_openHold_6 : decode cX3_openHold 6 = .ok (.iload_n 2, 1) := by decide +kernel
theorem dX3_openHold_7 : decode cX3_openHold 7 = .ok (.iconst 1, 1) := by decide +kernel
theorem dX3_openHold_8 : decode cX3_openHold 8 = .ok (.bipush 99, 2) := by decide +kernel
theorem dX3_openHold_10 : decode cX3_openHold 10 = .ok (.invokevirtual 62, 3) := by decide +kernel
theorem dX3_openHold_13 : decode cX3_openHold 13 = .ok (.aload_n 0, 1) := by decide +kernel
theorem dX3_openHold_14 : decode cX3_openHold 14 = .ok (.invokevirtual 66, 3) := by decide +kernel
theorem dX3_openHold_17 : decode cX3_openHold 17 = .ok (.aload_n 0, 1) := by decide +kernel
theorem dX3_openHold_18 : decode cX3_openHold 18 = .ok (.getfield 12, 3) := by decide +kernel
theorem dX3_openHold_21 : decode cX3_openHold 21 = .ok (.iload_n 1, 1) := by decide +kernel
theorem dX3_openHold_22 : decode cX3_openHold 22 = .ok (.invokevirtual 97, 3) := by decide +kernel
theorem dX3_openHold_25 : decode cX3_openHold 25 = .ok (.ifCond .ne 13, 3) := by decide +kernel
theorem dX3_openHold_28 : decode cX3_openHold 28 = .ok (.new 69, 3) := by decide +kernel
theorem dX3_openHold_31 : decode cX3_openHold 31 = .ok (.dup, 1) := by decide +kernel
theorem dX3_openHold_32 : decode cX3_openHold 32 = .ok (.ldc 237, 2) := by decide +kernel
theorem dX3_openHold_34 : decode cX3_openHold 34 = .ok (.invokespecial 73, 3) := by decide +kernel
theorem dX3_openHold_37 : decode cX3_openHold 37 = .ok (.athrow, 1) := by decide +kernel
theorem dX3_openHold_38 : decode cX3_openHold 38 = .ok (.aload_n 0, 1) := by decide +kernel
theorem dX3_openHold_39 : decode cX3_openHold 39 = .ok (.getfield 45, 3) := by decide +kernel
theorem dX3_openHold_42 : decode cX3_openHold 42 = .ok (.invokevirtual 239, 3) := by decide +kernel
theorem dX3_openHold_45 : decode cX3_openHold 45 = .ok (.bipush 30, 2) := by decide +kernel
theorem dX3_openHold_47 : decode cX3_openHold 47 = .ok (.if_icmp .lt 13, 3) := by decide +kernel
theorem dX3_openHold_50 : decode cX3_openHold 50 = .ok (.new 69, 3) := by decide +kernel
theorem dX3_openHold_53 : decode cX3_openHold 53 = .ok (.dup, 1) := by decide +kernel
theorem dX3_openHold_54 : decode cX3_openHold 54 = .ok (.ldc 242, 2) := by decide +kernel
theorem dX3_openHold_56 : decode cX3_openHold 56 = .ok (.invokespecial 73, 3) := by decide +kernel
theorem dX3_openHold_59 : decode cX3_openHold 59 = .ok (.athrow, 1) := by decide +kernel
theorem dX3_openHold_60 : decode cX3_openHold 60 = .ok (.aload_n 0, 1) := by decide +kernel
theorem dX3_openHold_61 : decode cX3_openHold 61 = .ok (.getfield 45, 3) := by decide +kernel
theorem dX3_openHold_64 : decode cX3_openHold 64 = .ok (.iload_n 1, 1) := by decide +kernel
theorem dX3_openHold_65 : decode cX3_openHold 65 = .ok (.aload_n 0, 1) := by decide +kernel
theorem dX3_openHold_66 : decode cX3_openHold 66 = .ok (.getfield 49, 3) := by decide +kernel
theorem dX3_openHold_69 : decode cX3_openHold 69 = .ok (.iload_n 2, 1) := by decide +kernel
theorem dX3_openHold_70 : decode cX3_openHold 70 = .ok (.iadd, 1) := by decide +kernel
theorem dX3_openHold_71 : decode cX3_openHold 71 = .ok (.invokevirtual 244, 3) := by decide +kernel
theorem dX3_openHold_74 : decode cX3_openHold 74 = .ok (.ireturn, 1) := by decide +kernel
theorem dX3_release_0 : decode cX3_release 0 = .ok (.aload_n 0, 1) := by decide +kernel
theorem dX3_release_1 : decode cX3_release 1 = .ok (.iload_n 1, 1) := by decide +kernel
theorem dX3_release_2 : decode cX3_release 2 = .ok (.invokevirtual 246, 3) := by decide +kernel
theorem dX3_release_5 : decode cX3_release 5 = .ok (.aload_n 0, 1) := by decide +kernel
theorem dX3_release_6 : decode cX3_release 6 = .ok (.invokevirtual 66, 3) := by decide +kernel
theorem dX3_release_9 : decode cX3_release 9 = .ok (.aload_n 0, 1) := by decide +kernel
theorem dX3_release_10 : decode cX3_release 10 = .ok (.getfield 45, 3) := by decide +kernel
theorem dX3_release_13 : decode cX3_release 13 = .ok (.iload_n 1, 1) := by decide +kernel
theorem dX3_release_14 : decode cX3_release 14 = .ok (.invokevirtual 249, 3) := by decide +kernel
theorem dX3_release_17 : decode cX3_release 17 = .ok (.ifCond .ne 13, 3) := by decide +kernel
theorem dX3_release_20 : decode cX3_release 20 = .ok (.new 69, 3) := by decide +kernel
theorem dX3_release_23 : decode cX3_release 23 = .ok (.dup, 1) := by decide +kernel
theorem dX3_release_24 : decode cX3_release 24 = .ok (.ldc 252, 2) := by decide +kernel
theorem dX3_release_26 : decode cX3_release 26 = .ok (.invokespecial 73, 3) := by decide +kernel
theorem dX3_release_29 : decode cX3_release 29 = .ok (.athrow, 1) := by decide +kernel
theorem dX3_release_30 : decode cX3_release 30 = .ok (.aload_n 0, 1) := by decide +kernel
theorem dX3_release_31 : decode cX3_release 31 = .ok (.iload_n 1, 1) := by decide +kernel
theorem dX3_release_32 : decode cX3_release 32 = .ok (.invokevirtual 254, 3) := by decide +kernel
theorem dX3_release_35 : decode cX3_release 35 = .ok (.ireturn, 1) := by decide +kernel
theorem dX3_isOpen_0 : decode cX3_isOpen 0 = .ok (.aload_n 0, 1) := by decide +kernel
theorem dX3_isOpen_1 : decode cX3_isOpen 1 = .ok (.iload_n 1, 1) := by decide +kernel
theorem dX3_isOpen_2 : decode cX3_isOpen 2 = .ok (.invokevirtual 246, 3) := by decide +kernel
theorem dX3_isOpen_5 : decode cX3_isOpen 5 = .ok (.aload_n 0, 1) := by decide +kernel
theorem dX3_isOpen_6 : decode cX3_isOpen 6 = .ok (.getfield 45, 3) := by decide +kernel
theorem dX3_isOpen_9 : decode cX3_isOpen 9 = .ok (.iload_n 1, 1) := by decide +kernel
theorem dX3_isOpen_10 : decode cX3_isOpen 10 = .ok (.invokevirtual 249, 3) := by decide +kernel
theorem dX3_isOpen_13 : decode cX3_isOpen 13 = .ok (.ireturn, 1) := by decide +kernel
theorem dX3_holdsOn_0 : decode cX3_holdsOn 0 = .ok (.aload_n 0, 1) := by decide +kernel
theorem dX3_holdsOn_1 : decode cX3_holdsOn 1 = .ok (.iload_n 1, 1) := by decide +kernel
theorem dX3_holdsOn_2 : decode cX3_holdsOn 2 = .ok (.invokevirtual 94, 3) := by decide +kernel
theorem dX3_holdsOn_5 : decode cX3_holdsOn 5 = .ok (.aload_n 0, 1) := by decide +kernel
theorem dX3_holdsOn_6 : decode cX3_holdsOn 6 = .ok (.getfield 45, 3) := by decide +kernel
theorem dX3_holdsOn_9 : decode cX3_holdsOn 9 = .ok (.iload_n 1, 1) := by decide +kernel
theorem dX3_holdsOn_10 : decode cX3_holdsOn 10 = .ok (.invokevirtual 257, 3) := by decide +kernel
theorem dX3_holdsOn_13 : decode cX3_holdsOn 13 = .ok (.ireturn, 1) := by decide +kernel
theorem dX3_nextEnd_0 : decode cX3_nextEnd 0 = .ok (.aload_n 0, 1) := by decide +kernel
theorem dX3_nextEnd_1 : decode cX3_nextEnd 1 = .ok (.getfield 45, 3) := by decide +kernel
theorem dX3_nextEnd_4 : decode cX3_nextEnd 4 = .ok (.invokevirtual 260, 3) := by decide +kernel
theorem dX3_nextEnd_7 : decode cX3_nextEnd 7 = .ok (.istore_n 1, 1) := by decide +kernel
theorem dX3_nextEnd_8 : decode cX3_nextEnd 8 = .ok (.iload_n 1, 1) := by decide +kernel
theorem dX3_nextEnd_9 : decode cX3_nextEnd 9 = .ok (.iconst (-1), 1) := by decide +kernel
theorem dX3_nextEnd_10 : decode cX3_nextEnd 10 = .ok (.if_icmp .ne 14, 3) := by decide +kernel
theorem dX3_nextEnd_13 : decode cX3_nextEnd 13 = .ok (.new 210, 3) := by decide +kernel
theorem dX3_nextEnd_16 : decode cX3_nextEnd 16 = .ok (.dup, 1) := by decide +kernel
theorem dX3_nextEnd_17 : decode cX3_nextEnd 17 = .ok (.ldc_w 263, 3) := by decide +kernel
theorem dX3_nextEnd_20 : decode cX3_nextEnd 20 = .ok (.invokespecial 214, 3) := by decide +kernel
theorem dX3_nextEnd_23 : decode cX3_nextEnd 23 = .ok (.athrow, 1) := by decide +kernel
theorem dX3_nextEnd_24 : decode cX3_nextEnd 24 = .ok (.iload_n 1, 1) := by decide +kernel
theorem dX3_nextEnd_25 : decode cX3_nextEnd 25 = .ok (.ireturn, 1) := by decide +kernel
theorem dX3_pass_0 : decode cX3_pass 0 = .ok (.aload_n 0, 1) := by decide +kernel
theorem dX3_pass_1 : decode cX3_pass 1 = .ok (.iload_n 1, 1) := by decide +kernel
theorem dX3_pass_2 : decode cX3_pass 2 = .ok (.iconst 1, 1) := by decide +kernel
theorem dX3_pass_3 : decode cX3_pass 3 = .ok (.bipush 99, 2) := by decide +kernel
theorem dX3_pass_5 : decode cX3_pass 5 = .ok (.invokevirtual 62, 3) := by decide +kernel
theorem dX3_pass_8 : decode cX3_pass 8 = .ok (.aload_n 0, 1) := by decide +kernel
theorem dX3_pass_9 : decode cX3_pass 9 = .ok (.invokevirtual 66, 3) := by decide +kernel
theorem dX3_pass_12 : decode cX3_pass 12 = .ok (.aload_n 0, 1) := by decide +kernel
theorem dX3_pass_13 : decode cX3_pass 13 = .ok (.getfield 49, 3) := by decide +kernel
theorem dX3_pass_16 : decode cX3_pass 16 = .ok (.iload_n 1, 1) := by decide +kernel
theorem dX3_pass_17 : decode cX3_pass 17 = .ok (.iadd, 1) := by decide +kernel
theorem dX3_pass_18 : decode cX3_pass 18 = .ok (.sipush 9999, 3) := by decide +kernel
theorem dX3_pass_21 : decode cX3_pass 21 = .ok (.if_icmp .le 14, 3) := by decide +kernel
theorem dX3_pass_24 : decode cX3_pass 24 = .ok (.new 69, 3) := by decide +kernel
theorem dX3_pass_27 : decode cX3_pass 27 = .ok (.dup, 1) := by decide +kernel
theorem dX3_pass_28 : decode cX3_pass 28 = .ok (.ldc_w 265, 3) := by decide +kernel
theorem dX3_pass_31 : decode cX3_pass 31 = .ok (.invokespecial 73, 3) := by decide +kernel
theorem dX3_pass_34 : decode cX3_pass 34 = .ok (.athrow, 1) := by decide +kernel
theorem dX3_pass_35 : decode cX3_pass 35 = .ok (.aload_n 0, 1) := by decide +kernel
theorem dX3_pass_36 : decode cX3_pass 36 = .ok (.dup, 1) := by decide +kernel
theorem dX3_pass_37 : decode cX3_pass 37 = .ok (.getfield 49, 3) := by decide +kernel
theorem dX3_pass_40 : decode cX3_pass 40 = .ok (.iload_n 1, 1) := by decide +kernel
theorem dX3_pass_41 : decode cX3_pass 41 = .ok (.iadd, 1) := by decide +kernel
theorem dX3_pass_42 : decode cX3_pass 42 = .ok (.putfield 49, 3) := by decide +kernel
theorem dX3_pass_45 : decode cX3_pass 45 = .ok (.iconst 0, 1) := by decide +kernel
theorem dX3_pass_46 : decode cX3_pass 46 = .ok (.istore_n 2, 1) := by decide +kernel
theorem dX3_pass_47 : decode cX3_pass 47 = .ok (.iconst 0, 1) := by decide +kernel
theorem dX3_pass_48 : decode cX3_pass 48 = .ok (.istore_n 3, 1) := by decide +kernel
theorem dX3_pass_49 : decode cX3_pass 49 = .ok (.iload_n 3, 1) := by decide +kernel
theorem dX3_pass_50 : decode cX3_pass 50 = .ok (.bipush 30, 2) := by decide +kernel
theorem dX3_pass_52 : decode cX3_pass 52 = .ok (.if_icmp .ge 44, 3) := by decide +kernel
theorem dX3_pass_55 : decode cX3_pass 55 = .ok (.aload_n 0, 1) := by decide +kernel
theorem dX3_pass_56 : decode cX3_pass 56 = .ok (.getfield 45, 3) := by decide +kernel
theorem dX3_pass_59 : decode cX3_pass 59 = .ok (.iload_n 3, 1) := by decide +kernel
theorem dX3_pass_60 : decode cX3_pass 60 = .ok (.invokevirtual 249, 3) := by decide +kernel
theorem dX3_pass_63 : decode cX3_pass 63 = .ok (.ifCond .eq 27, 3) := by decide +kernel
theorem dX3_pass_66 : decode cX3_pass 66 = .ok (.aload_n 0, 1) := by decide +kernel
theorem dX3_pass_67 : decode cX3_pass 67 = .ok (.getfield 45, 3) := by decide +kernel
theorem dX3_pass_70 : decode cX3_pass 70 = .ok (.iload_n 3, 1) := by decide +kernel
theorem dX3_pass_71 : decode cX3_pass 71 = .ok (.invokevirtual 267, 3) := by decide +kernel
theorem dX3_pass_74 : decode cX3_pass 74 = .ok (.aload_n 0, 1) := by decide +kernel
theorem dX3_pass_75 : decode cX3_pass 75 = .ok (.getfield 49, 3) := by decide +kernel
theorem dX3_pass_78 : decode cX3_pass 78 = .ok (.if_icmp .gt 12, 3) := by decide +kernel
theorem dX3_pass_81 : decode cX3_pass 81 = .ok (.aload_n 0, 1) := by decide +kernel
theorem dX3_pass_82 : decode cX3_pass 82 = .ok (.iload_n 3, 1) := by decide +kernel
theorem dX3_pass_83 : decode cX3_pass 83 = .ok (.invokevirtual 254, 3) := by decide +kernel
theorem dX3_pass_86 : decode cX3_pass 86 = .ok (.pop, 1) := by decide +kernel
theorem dX3_pass_87 : decode cX3_pass 87 = .ok (.iinc 2 1, 3) := by decide +kernel
theorem dX3_pass_90 : decode cX3_pass 90 = .ok (.iinc 3 1, 3) := by decide +kernel
theorem dX3_pass_93 : decode cX3_pass 93 = .ok (.goto (-44), 3) := by decide +kernel
theorem dX3_pass_96 : decode cX3_pass 96 = .ok (.iload_n 2, 1) := by decide +kernel
theorem dX3_pass_97 : decode cX3_pass 97 = .ok (.ireturn, 1) := by decide +kernel
theorem dX3_day_0 : decode cX3_day 0 = .ok (.aload_n 0, 1) := by decide +kernel
theorem dX3_day_1 : decode cX3_day 1 = .ok (.getfield 49, 3) := by decide +kernel
theorem dX3_day_4 : decode cX3_day 4 = .ok (.ireturn, 1) := by decide +kernel
theorem dX3_begin_0 : decode cX3_begin 0 = .ok (.aload_n 0, 1) := by decide +kernel
theorem dX3_begin_1 : decode cX3_begin 1 = .ok (.invokevirtual 66, 3) := by decide +kernel
theorem dX3_begin_4 : decode cX3_begin 4 = .ok (.aload_n 0, 1) := by decide +kernel
theorem dX3_begin_5 : decode cX3_begin 5 = .ok (.getfield 16, 3) := by decide +kernel
theorem dX3_begin_8 : decode cX3_begin 8 = .ok (.aload_n 0, 1) := by decide +kernel
theorem dX3_begin_9 : decode cX3_begin 9 = .ok (.getfield 12, 3) := by decide +kernel
theorem dX3_begin_12 : decode cX3_begin 12 = .ok (.invokevirtual 270, 3) := by decide +kernel
theorem dX3_begin_15 : decode cX3_begin 15 = .ok (.aload_n 0, 1) := by decide +kernel
theorem dX3_begin_16 : decode cX3_begin 16 = .ok (.iconst 1, 1) := by decide +kernel
theorem dX3_begin_17 : decode cX3_begin 17 = .ok (.putfield 19, 3) := by decide +kernel
theorem dX3_begin_20 : decode cX3_begin 20 = .ok (.aload_n 0, 1) := by decide +kernel
theorem dX3_begin_21 : decode cX3_begin 21 = .ok (.getfield 12, 3) := by decide +kernel
theorem dX3_begin_24 : decode cX3_begin 24 = .ok (.invokevirtual 274, 3) := by decide +kernel
theorem dX3_begin_27 : decode cX3_begin 27 = .ok (.ireturn, 1) := by decide +kernel
theorem dX3_commit_0 : decode cX3_commit 0 = .ok (.aload_n 0, 1) := by decide +kernel
theorem dX3_commit_1 : decode cX3_commit 1 = .ok (.getfield 19, 3) := by decide +kernel
theorem dX3_commit_4 : decode cX3_commit 4 = .ok (.ifCond .ne 14, 3) := by decide +kernel
theorem dX3_commit_7 : decode cX3_commit 7 = .ok (.new 69, 3) := by decide +kernel
theorem dX3_commit_10 : decode cX3_commit 10 = .ok (.dup, 1) := by decide +kernel
theorem dX3_commit_11 : decode cX3_commit 11 = .ok (.ldc_w 277, 3) := by decide +kernel
theorem dX3_commit_14 : decode cX3_commit 14 = .ok (.invokespecial 73, 3) := by decide +kernel
theorem dX3_commit_17 : decode cX3_commit 17 = .ok (.athrow, 1) := by decide +kernel
theorem dX3_commit_18 : decode cX3_commit 18 = .ok (.aload_n 0, 1) := by decide +kernel
theorem dX3_commit_19 : decode cX3_commit 19 = .ok (.iconst 0, 1) := by decide +kernel
theorem dX3_commit_20 : decode cX3_commit 20 = .ok (.putfield 19, 3) := by decide +kernel
theorem dX3_commit_23 : decode cX3_commit 23 = .ok (.aload_n 0, 1) := by decide +kernel
theorem dX3_commit_24 : decode cX3_commit 24 = .ok (.getfield 12, 3) := by decide +kernel
theorem dX3_commit_27 : decode cX3_commit 27 = .ok (.invokevirtual 274, 3) := by decide +kernel
theorem dX3_commit_30 : decode cX3_commit 30 = .ok (.aload_n 0, 1) := by decide +kernel
theorem dX3_commit_31 : decode cX3_commit 31 = .ok (.getfield 16, 3) := by decide +kernel
theorem dX3_commit_34 : decode cX3_commit 34 = .ok (.invokevirtual 274, 3) := by decide +kernel
theorem dX3_commit_37 : decode cX3_commit 37 = .ok (.isub, 1) := by decide +kernel
theorem dX3_commit_38 : decode cX3_commit 38 = .ok (.ireturn, 1) := by decide +kernel
theorem dX3_crash_0 : decode cX3_crash 0 = .ok (.aload_n 0, 1) := by decide +kernel
theorem dX3_crash_1 : decode cX3_crash 1 = .ok (.getfield 19, 3) := by decide +kernel
theorem dX3_crash_4 : decode cX3_crash 4 = .ok (.ifCond .ne 5, 3) := by decide +kernel
theorem dX3_crash_7 : decode cX3_crash 7 = .ok (.iconst 0, 1) := by decide +kernel
theorem dX3_crash_8 : decode cX3_crash 8 = .ok (.ireturn, 1) := by decide +kernel
theorem dX3_crash_9 : decode cX3_crash 9 = .ok (.aload_n 0, 1) := by decide +kernel
theorem dX3_crash_10 : decode cX3_crash 10 = .ok (.getfield 12, 3) := by decide +kernel
theorem dX3_crash_13 : decode cX3_crash 13 = .ok (.invokevirtual 274, 3) := by decide +kernel
theorem dX3_crash_16 : decode cX3_crash 16 = .ok (.aload_n 0, 1) := by decide +kernel
theorem dX3_crash_17 : decode cX3_crash 17 = .ok (.getfield 16, 3) := by decide +kernel
theorem dX3_crash_20 : decode cX3_crash 20 = .ok (.invokevirtual 274, 3) := by decide +kernel
theorem dX3_crash_23 : decode cX3_crash 23 = .ok (.isub, 1) := by decide +kernel
theorem dX3_crash_24 : decode cX3_crash 24 = .ok (.istore_n 1, 1) := by decide +kernel
theorem dX3_crash_25 : decode cX3_crash 25 = .ok (.aload_n 0, 1) := by decide +kernel
theorem dX3_crash_26 : decode cX3_crash 26 = .ok (.getfield 12, 3) := by decide +kernel
theorem dX3_crash_29 : decode cX3_crash 29 = .ok (.aload_n 0, 1) := by decide +kernel
theorem dX3_crash_30 : decode cX3_crash 30 = .ok (.getfield 16, 3) := by decide +kernel
theorem dX3_crash_33 : decode cX3_crash 33 = .ok (.invokevirtual 270, 3) := by decide +kernel
theorem dX3_crash_36 : decode cX3_crash 36 = .ok (.aload_n 0, 1) := by decide +kernel
theorem dX3_crash_37 : decode cX3_crash 37 = .ok (.iconst 0, 1) := by decide +kernel
theorem dX3_crash_38 : decode cX3_crash 38 = .ok (.putfield 19, 3) := by decide +kernel
theorem dX3_crash_41 : decode cX3_crash 41 = .ok (.iload_n 1, 1) := by decide +kernel
theorem dX3_crash_42 : decode cX3_crash 42 = .ok (.ireturn, 1) := by decide +kernel
theorem dX3_journalSize_0 : decode cX3_journalSize 0 = .ok (.aload_n 0, 1) := by decide +kernel
theorem dX3_journalSize_1 : decode cX3_journalSize 1 = .ok (.getfield 12, 3) := by decide +kernel
theorem dX3_journalSize_4 : decode cX3_journalSize 4 = .ok (.invokevirtual 274, 3) := by decide +kernel
theorem dX3_journalSize_7 : decode cX3_journalSize 7 = .ok (.ireturn, 1) := by decide +kernel
theorem dX3_entryKind_0 : decode cX3_entryKind 0 = .ok (.iload_n 1, 1) := by decide +kernel
theorem dX3_entryKind_1 : decode cX3_entryKind 1 = .ok (.ifCond .lt 21, 3) := by decide +kernel
theorem dX3_entryKind_4 : decode cX3_entryKind 4 = .ok (.iload_n 1, 1) := by decide +kernel
theorem dX3_entryKind_5 : decode cX3_entryKind 5 = .ok (.aload_n 0, 1) := by decide +kernel
theorem dX3_entryKind_6 : decode cX3_entryKind 6 = .ok (.getfield 12, 3) := by decide +kernel
theorem dX3_entryKind_9 : decode cX3_entryKind 9 = .ok (.invokevirtual 274, 3) := by decide +kernel
theorem dX3_entryKind_12 : decode cX3_entryKind 12 = .ok (.if_icmp .ge 10, 3) := by decide +kernel
theorem dX3_entryKind_15 : decode cX3_entryKind 15 = .ok (.iload_n 1, 1) := by decide +kernel
theorem dX3_entryKind_16 : decode cX3_entryKind 16 = .ok (.sipush 512, 3) := by decide +kernel
theorem dX3_entryKind_19 : decode cX3_entryKind 19 = .ok (.if_icmp .lt 14, 3) := by decide +kernel
theorem dX3_entryKind_22 : decode cX3_entryKind 22 = .ok (.new 279, 3) := by decide +kernel
theorem dX3_entryKind_25 : decode cX3_entryKind 25 = .ok (.dup, 1) := by decide +kernel
theorem dX3_entryKind_26 : decode cX3_entryKind 26 = .ok (.ldc_w 281, 3) := by decide +kernel
theorem dX3_entryKind_29 : decode cX3_entryKind 29 = .ok (.invokespecial 283, 3) := by decide +kernel
theorem dX3_entryKind_32 : decode cX3_entryKind 32 = .ok (.athrow, 1) := by decide +kernel
theorem dX3_entryKind_33 : decode cX3_entryKind 33 = .ok (.aload_n 0, 1) := by decide +kernel
theorem dX3_entryKind_34 : decode cX3_entryKind 34 = .ok (.getfield 23, 3) := by decide +kernel
theorem dX3_entryKind_37 : decode cX3_entryKind 37 = .ok (.iload_n 1, 1) := by decide +kernel
theorem dX3_entryKind_38 : decode cX3_entryKind 38 = .ok (.caload, 1) := by decide +kernel
theorem dX3_entryKind_39 : decode cX3_entryKind 39 = .ok (.ireturn, 1) := by decide +kernel
theorem dX3_isConsistent_0 : decode cX3_isConsistent 0 = .ok (.aload_n 0, 1) := by decide +kernel
theorem dX3_isConsistent_1 : decode cX3_isConsistent 1 = .ok (.invokevirtual 291, 3) := by decide +kernel
theorem dX3_isConsistent_4 : decode cX3_isConsistent 4 = .ok (.ifCond .eq 31, 3) := by decide +kernel
theorem dX3_isConsistent_7 : decode cX3_isConsistent 7 = .ok (.aload_n 0, 1) := by decide +kernel
theorem dX3_isConsistent_8 : decode cX3_isConsistent 8 = .ok (.invokevirtual 295, 3) := by decide +kernel
theorem dX3_isConsistent_11 : decode cX3_isConsistent 11 = .ok (.ifCond .eq 24, 3) := by decide +kernel
theorem dX3_isConsistent_14 : decode cX3_isConsistent 14 = .ok (.aload_n 0, 1) := by decide +kernel
theorem dX3_isConsistent_15 : decode cX3_isConsistent 15 = .ok (.getfield 12, 3) := by decide +kernel
theorem dX3_isConsistent_18 : decode cX3_isConsistent 18 = .ok (.invokevirtual 168, 3) := by decide +kernel
theorem dX3_isConsistent_21 : decode cX3_isConsistent 21 = .ok (.aload_n 0, 1) := by decide +kernel
theorem dX3_isConsistent_22 : decode cX3_isConsistent 22 = .ok (.getfield 12, 3) := by decide +kernel
theorem dX3_isConsistent_25 : decode cX3_isConsistent 25 = .ok (.invokevirtual 159, 3) := by decide +kernel
theorem dX3_isConsistent_28 : decode cX3_isConsistent 28 = .ok (.if_icmp .gt 7, 3) := by decide +kernel
theorem dX3_isConsistent_31 : decode cX3_isConsistent 31 = .ok (.iconst 1, 1) := by decide +kernel
theorem dX3_isConsistent_32 : decode cX3_isConsistent 32 = .ok (.goto 4, 3) := by decide +kernel
theorem dX3_isConsistent_35 : decode cX3_isConsistent 35 = .ok (.iconst 0, 1) := by decide +kernel
theorem dX3_isConsistent_36 : decode cX3_isConsistent 36 = .ok (.ireturn, 1) := by decide +kernel
theorem dX3_writeFile_0 : decode cX3_writeFile 0 = .ok (.aload_n 0, 1) := by decide +kernel
theorem dX3_writeFile_1 : decode cX3_writeFile 1 = .ok (.iload_n 1, 1) := by decide +kernel
theorem dX3_writeFile_2 : decode cX3_writeFile 2 = .ok (.invokevirtual 94, 3) := by decide +kernel
theorem dX3_writeFile_5 : decode cX3_writeFile 5 = .ok (.aload_n 0, 1) := by decide +kernel
theorem dX3_writeFile_6 : decode cX3_writeFile 6 = .ok (.getfield 55, 3) := by decide +kernel
theorem dX3_writeFile_9 : decode cX3_writeFile 9 = .ok (.iconst 0, 1) := by decide +kernel
theorem dX3_writeFile_10 : decode cX3_writeFile 10 = .ok (.invokevirtual 298, 3) := by decide +kernel
theorem dX3_writeFile_13 : decode cX3_writeFile 13 = .ok (.aload_n 0, 1) := by decide +kernel
theorem dX3_writeFile_14 : decode cX3_writeFile 14 = .ok (.getfield 55, 3) := by decide +kernel
theorem dX3_writeFile_17 : decode cX3_writeFile 17 = .ok (.iload_n 1, 1) := by decide +kernel
theorem dX3_writeFile_18 : decode cX3_writeFile 18 = .ok (.invokevirtual 301, 3) := by decide +kernel
theorem dX3_writeFile_21 : decode cX3_writeFile 21 = .ok (.bipush 120, 2) := by decide +kernel
theorem dX3_writeFile_23 : decode cX3_writeFile 23 = .ok (.invokevirtual 305, 3) := by decide +kernel
theorem dX3_writeFile_26 : decode cX3_writeFile 26 = .ok (.aload_n 0, 1) := by decide +kernel
theorem dX3_writeFile_27 : decode cX3_writeFile 27 = .ok (.getfield 12, 3) := by decide +kernel
theorem dX3_writeFile_30 : decode cX3_writeFile 30 = .ok (.iload_n 1, 1) := by decide +kernel
theorem dX3_writeFile_31 : decode cX3_writeFile 31 = .ok (.invokevirtual 101, 3) := by decide +kernel
theorem dX3_writeFile_34 : decode cX3_writeFile 34 = .ok (.invokevirtual 301, 3) := by decide +kernel
theorem dX3_writeFile_37 : decode cX3_writeFile 37 = .ok (.pop, 1) := by decide +kernel
theorem dX3_writeFile_38 : decode cX3_writeFile 38 = .ok (.iconst 0, 1) := by decide +kernel
theorem dX3_writeFile_39 : decode cX3_writeFile 39 = .ok (.istore_n 2, 1) := by decide +kernel
theorem dX3_writeFile_40 : decode cX3_writeFile 40 = .ok (.iload_n 2, 1) := by decide +kernel
theorem dX3_writeFile_41 : decode cX3_writeFile 41 = .ok (.bipush 16, 2) := by decide +kernel
theorem dX3_writeFile_43 : decode cX3_writeFile 43 = .ok (.if_icmp .ge 47, 3) := by decide +kernel
theorem dX3_writeFile_46 : decode cX3_writeFile 46 = .ok (.aload_n 0, 1) := by decide +kernel
theorem dX3_writeFile_47 : decode cX3_writeFile 47 = .ok (.getfield 12, 3) := by decide +kernel
theorem dX3_writeFile_50 : decode cX3_writeFile 50 = .ok (.iload_n 1, 1) := by decide +kernel
theorem dX3_writeFile_51 : decode cX3_writeFile 51 = .ok (.iload_n 2, 1) := by decide +kernel
theorem dX3_writeFile_52 : decode cX3_writeFile 52 = .ok (.invokevirtual 119, 3) := by decide +kernel
theorem dX3_writeFile_55 : decode cX3_writeFile 55 = .ok (.istore_n 3, 1) := by decide +kernel
theorem dX3_writeFile_56 : decode cX3_writeFile 56 = .ok (.iload_n 3, 1) := by decide +kernel
theorem dX3_writeFile_57 : decode cX3_writeFile 57 = .ok (.iconst (-1), 1) := by decide +kernel
theorem dX3_writeFile_58 : decode cX3_writeFile 58 = .ok (.if_icmp .eq 26, 3) := by decide +kernel
theorem dX3_writeFile_61 : decode cX3_writeFile 61 = .ok (.aload_n 0, 1) := by decide +kernel
theorem dX3_writeFile_62 : decode cX3_writeFile 62 = .ok (.getfield 55, 3) := by decide +kernel
theorem dX3_writeFile_65 : decode cX3_writeFile 65 = .ok (.bipush 32, 2) := by decide +kernel
theorem dX3_writeFile_67 : decode cX3_writeFile 67 = .ok (.invokevirtual 305, 3) := by decide +kernel
theorem dX3_writeFile_70 : decode cX3_writeFile 70 = .ok (.iload_n 2, 1) := by decide +kernel
theorem dX3_writeFile_71 : decode cX3_writeFile 71 = .ok (.invokevirtual 301, 3) := by decide +kernel
theorem dX3_writeFile_74 : decode cX3_writeFile 74 = .ok (.bipush 58, 2) := by decide +kernel
theorem dX3_writeFile_76 : decode cX3_writeFile 76 = .ok (.invokevirtual 305, 3) := by decide +kernel
theorem dX3_writeFile_79 : decode cX3_writeFile 79 = .ok (.iload_n 3, 1) := by decide +kernel
theorem dX3_writeFile_80 : decode cX3_writeFile 80 = .ok (.invokevirtual 301, 3) := by decide +kernel
theorem dX3_writeFile_83 : decode cX3_writeFile 83 = .ok (.pop, 1) := by decide +kernel
theorem dX3_writeFile_84 : decode cX3_writeFile 84 = .ok (.iinc 2 1, 3) := by decide +kernel
theorem dX3_writeFile_87 : decode cX3_writeFile 87 = .ok (.goto (-47), 3) := by decide +kernel
theorem dX3_writeFile_90 : decode cX3_writeFile 90 = .ok (.aload_n 0, 1) := by decide +kernel
theorem dX3_writeFile_91 : decode cX3_writeFile 91 = .ok (.getfield 55, 3) := by decide +kernel
theorem dX3_writeFile_94 : decode cX3_writeFile 94 = .ok (.invokevirtual 308, 3) := by decide +kernel
theorem dX3_writeFile_97 : decode cX3_writeFile 97 = .ok (.ireturn, 1) := by decide +kernel
theorem dX3_lineAt_0 : decode cX3_lineAt 0 = .ok (.iload_n 1, 1) := by decide +kernel
theorem dX3_lineAt_1 : decode cX3_lineAt 1 = .ok (.ifCond .lt 14, 3) := by decide +kernel
theorem dX3_lineAt_4 : decode cX3_lineAt 4 = .ok (.iload_n 1, 1) := by decide +kernel
theorem dX3_lineAt_5 : decode cX3_lineAt 5 = .ok (.aload_n 0, 1) := by decide +kernel
theorem dX3_lineAt_6 : decode cX3_lineAt 6 = .ok (.getfield 55, 3) := by decide +kernel
theorem dX3_lineAt_9 : decode cX3_lineAt 9 = .ok (.invokevirtual 308, 3) := by decide +kernel
theorem dX3_lineAt_12 : decode cX3_lineAt 12 = .ok (.if_icmp .lt 14, 3) := by decide +kernel
theorem dX3_lineAt_15 : decode cX3_lineAt 15 = .ok (.new 279, 3) := by decide +kernel
theorem dX3_lineAt_18 : decode cX3_lineAt 18 = .ok (.dup, 1) := by decide +kernel
theorem dX3_lineAt_19 : decode cX3_lineAt 19 = .ok (.ldc_w 311, 3) := by decide +kernel
theorem dX3_lineAt_22 : decode cX3_lineAt 22 = .ok (.invokespecial 283, 3) := by decide +kernel
theorem dX3_lineAt_25 : decode cX3_lineAt 25 = .ok (.athrow, 1) := by decide +kernel
theorem dX3_lineAt_26 : decode cX3_lineAt 26 = .ok (.aload_n 0, 1) := by decide +kernel
theorem dX3_lineAt_27 : decode cX3_lineAt 27 = .ok (.getfield 55, 3) := by decide +kernel
theorem dX3_lineAt_30 : decode cX3_lineAt 30 = .ok (.iload_n 1, 1) := by decide +kernel
theorem dX3_lineAt_31 : decode cX3_lineAt 31 = .ok (.invokevirtual 313, 3) := by decide +kernel
theorem dX3_lineAt_34 : decode cX3_lineAt 34 = .ok (.ireturn, 1) := by decide +kernel
theorem dX3_requireWithin_0 : decode cX3_requireWithin 0 = .ok (.iload_n 1, 1) := by decide +kernel
theorem dX3_requireWithin_1 : decode cX3_requireWithin 1 = .ok (.iload_n 2, 1) := by decide +kernel
theorem dX3_requireWithin_2 : decode cX3_requireWithin 2 = .ok (.if_icmp .lt 8, 3) := by decide +kernel
theorem dX3_requireWithin_5 : decode cX3_requireWithin 5 = .ok (.iload_n 1, 1) := by decide +kernel
theorem dX3_requireWithin_6 : decode cX3_requireWithin 6 = .ok (.iload_n 3, 1) := by decide +kernel
theorem dX3_requireWithin_7 : decode cX3_requireWithin 7 = .ok (.if_icmp .le 14, 3) := by decide +kernel
theorem dX3_requireWithin_10 : decode cX3_requireWithin 10 = .ok (.new 317, 3) := by decide +kernel
theorem dX3_requireWithin_13 : decode cX3_requireWithin 13 = .ok (.dup, 1) := by decide +kernel
theorem dX3_requireWithin_14 : decode cX3_requireWithin 14 = .ok (.ldc_w 319, 3) := by decide +kernel
theorem dX3_requireWithin_17 : decode cX3_requireWithin 17 = .ok (.invokespecial 321, 3) := by decide +kernel
theorem dX3_requireWithin_20 : decode cX3_requireWithin 20 = .ok (.athrow, 1) := by decide +kernel
theorem dX3_requireWithin_21 : decode cX3_requireWithin 21 = .ok (.return_, 1) := by decide +kernel
theorem dX3_requireOwner_0 : decode cX3_requireOwner 0 = .ok (.iload_n 1, 1) := by decide +kernel
theorem dX3_requireOwner_1 : decode cX3_requireOwner 1 = .ok (.ifCond .lt 11, 3) := by decide +kernel
theorem dX3_requireOwner_4 : decode cX3_requireOwner 4 = .ok (.iload_n 1, 1) := by decide +kernel
theorem dX3_requireOwner_5 : decode cX3_requireOwner 5 = .ok (.aload_n 0, 1) := by decide +kernel
theorem dX3_requireOwner_6 : decode cX3_requireOwner 6 = .ok (.getfield 27, 3) := by decide +kernel
end
section
theorem dX3_requireOwner_9 : decode cX3_requireOwner 9 = .ok (.if_icmp .lt 14, 3) := by decide +kernel
theorem dX3_requireOwner_12 : decode cX3_requireOwner 12 = .ok (.new 279, 3) := by decide +kernel
theorem dX3_requireOwner_15 : decode cX3_requireOwner 15 = .ok (.dup, 1) := by decide +kernel
theorem dX3_requireOwner_16 : decode cX3_requireOwner 16 = .ok (.ldc_w 322, 3) := by decide +kernel
theorem dX3_requireOwner_19 : decode cX3_requireOwner 19 = .ok (.invokespecial 283, 3) := by decide +kernel
theorem dX3_requireOwner_22 : decode cX3_requireOwner 22 = .ok (.athrow, 1) := by decide +kernel
theorem dX3_requireOwner_23 : decode cX3_requireOwner 23 = .ok (.return_, 1) := by decide +kernel
theorem dX3_requireFile_0 : decode cX3_requireFile 0 = .ok (.aload_n 0, 1) := by decide +kernel
theorem dX3_requireFile_1 : decode cX3_requireFile 1 = .ok (.getfield 12, 3) := by decide +kernel
theorem dX3_requireFile_4 : decode cX3_requireFile 4 = .ok (.iload_n 1, 1) := by decide +kernel
theorem dX3_requireFile_5 : decode cX3_requireFile 5 = .ok (.invokevirtual 324, 3) := by decide +kernel
theorem dX3_requireFile_8 : decode cX3_requireFile 8 = .ok (.ifCond .ne 14, 3) := by decide +kernel
theorem dX3_requireFile_11 : decode cX3_requireFile 11 = .ok (.new 279, 3) := by decide +kernel
theorem dX3_requireFile_14 : decode cX3_requireFile 14 = .ok (.dup, 1) := by decide +kernel
theorem dX3_requireFile_15 : decode cX3_requireFile 15 = .ok (.ldc_w 327, 3) := by decide +kernel
theorem dX3_requireFile_18 : decode cX3_requireFile 18 = .ok (.invokespecial 283, 3) := by decide +kernel
theorem dX3_requireFile_21 : decode cX3_requireFile 21 = .ok (.athrow, 1) := by decide +kernel
theorem dX3_requireFile_22 : decode cX3_requireFile 22 = .ok (.return_, 1) := by decide +kernel
theorem dX3_requirePlace_0 : decode cX3_requirePlace 0 = .ok (.iload_n 1, 1) := by decide +kernel
theorem dX3_requirePlace_1 : decode cX3_requirePlace 1 = .ok (.invokestatic 329, 3) := by decide +kernel
theorem dX3_requirePlace_4 : decode cX3_requirePlace 4 = .ok (.ifCond .ne 14, 3) := by decide +kernel
theorem dX3_requirePlace_7 : decode cX3_requirePlace 7 = .ok (.new 279, 3) := by decide +kernel
theorem dX3_requirePlace_10 : decode cX3_requirePlace 10 = .ok (.dup, 1) := by decide +kernel
theorem dX3_requirePlace_11 : decode cX3_requirePlace 11 = .ok (.ldc_w 332, 3) := by decide +kernel
theorem dX3_requirePlace_14 : decode cX3_requirePlace 14 = .ok (.invokespecial 283, 3) := by decide +kernel
theorem dX3_requirePlace_17 : decode cX3_requirePlace 17 = .ok (.athrow, 1) := by decide +kernel
theorem dX3_requirePlace_18 : decode cX3_requirePlace 18 = .ok (.return_, 1) := by decide +kernel
theorem dX3_requireBlock_0 : decode cX3_requireBlock 0 = .ok (.iload_n 1, 1) := by decide +kernel
theorem dX3_requireBlock_1 : decode cX3_requireBlock 1 = .ok (.invokestatic 334, 3) := by decide +kernel
theorem dX3_requireBlock_4 : decode cX3_requireBlock 4 = .ok (.ifCond .ne 14, 3) := by decide +kernel
theorem dX3_requireBlock_7 : decode cX3_requireBlock 7 = .ok (.new 279, 3) := by decide +kernel
theorem dX3_requireBlock_10 : decode cX3_requireBlock 10 = .ok (.dup, 1) := by decide +kernel
theorem dX3_requireBlock_11 : decode cX3_requireBlock 11 = .ok (.ldc_w 337, 3) := by decide +kernel
theorem dX3_requireBlock_14 : decode cX3_requireBlock 14 = .ok (.invokespecial 283, 3) := by decide +kernel
theorem dX3_requireBlock_17 : decode cX3_requireBlock 17 = .ok (.athrow, 1) := by decide +kernel
theorem dX3_requireBlock_18 : decode cX3_requireBlock 18 = .ok (.return_, 1) := by decide +kernel
theorem dX3_requireSnapshot_0 : decode cX3_requireSnapshot 0 = .ok (.aload_n 0, 1) := by decide +kernel
theorem dX3_requireSnapshot_1 : decode cX3_requireSnapshot 1 = .ok (.getfield 38, 3) := by decide +kernel
theorem dX3_requireSnapshot_4 : decode cX3_requireSnapshot 4 = .ok (.iload_n 1, 1) := by decide +kernel
theorem dX3_requireSnapshot_5 : decode cX3_requireSnapshot 5 = .ok (.invokevirtual 339, 3) := by decide +kernel
theorem dX3_requireSnapshot_8 : decode cX3_requireSnapshot 8 = .ok (.ifCond .ne 14, 3) := by decide +kernel
theorem dX3_requireSnapshot_11 : decode cX3_requireSnapshot 11 = .ok (.new 279, 3) := by decide +kernel
theorem dX3_requireSnapshot_14 : decode cX3_requireSnapshot 14 = .ok (.dup, 1) := by decide +kernel
theorem dX3_requireSnapshot_15 : decode cX3_requireSnapshot 15 = .ok (.ldc_w 342, 3) := by decide +kernel
theorem dX3_requireSnapshot_18 : decode cX3_requireSnapshot 18 = .ok (.invokespecial 283, 3) := by decide +kernel
theorem dX3_requireSnapshot_21 : decode cX3_requireSnapshot 21 = .ok (.athrow, 1) := by decide +kernel
theorem dX3_requireSnapshot_22 : decode cX3_requireSnapshot 22 = .ok (.return_, 1) := by decide +kernel
theorem dX3_requireInSnapshot_0 : decode cX3_requireInSnapshot 0 = .ok (.aload_n 0, 1) := by decide +kernel
theorem dX3_requireInSnapshot_1 : decode cX3_requireInSnapshot 1 = .ok (.getfield 38, 3) := by decide +kernel
theorem dX3_requireInSnapshot_4 : decode cX3_requireInSnapshot 4 = .ok (.iload_n 1, 1) := by decide +kernel
theorem dX3_requireInSnapshot_5 : decode cX3_requireInSnapshot 5 = .ok (.iload_n 2, 1) := by decide +kernel
theorem dX3_requireInSnapshot_6 : decode cX3_requireInSnapshot 6 = .ok (.invokevirtual 344, 3) := by decide +kernel
theorem dX3_requireInSnapshot_9 : decode cX3_requireInSnapshot 9 = .ok (.ifCond .ne 14, 3) := by decide +kernel
theorem dX3_requireInSnapshot_12 : decode cX3_requireInSnapshot 12 = .ok (.new 210, 3) := by decide +kernel
theorem dX3_requireInSnapshot_15 : decode cX3_requireInSnapshot 15 = .ok (.dup, 1) := by decide +kernel
theorem dX3_requireInSnapshot_16 : decode cX3_requireInSnapshot 16 = .ok (.ldc_w 348, 3) := by decide +kernel
theorem dX3_requireInSnapshot_19 : decode cX3_requireInSnapshot 19 = .ok (.invokespecial 214, 3) := by decide +kernel
theorem dX3_requireInSnapshot_22 : decode cX3_requireInSnapshot 22 = .ok (.athrow, 1) := by decide +kernel
theorem dX3_requireInSnapshot_23 : decode cX3_requireInSnapshot 23 = .ok (.return_, 1) := by decide +kernel
theorem dX3_requireHold_0 : decode cX3_requireHold 0 = .ok (.aload_n 0, 1) := by decide +kernel
theorem dX3_requireHold_1 : decode cX3_requireHold 1 = .ok (.getfield 45, 3) := by decide +kernel
theorem dX3_requireHold_4 : decode cX3_requireHold 4 = .ok (.iload_n 1, 1) := by decide +kernel
theorem dX3_requireHold_5 : decode cX3_requireHold 5 = .ok (.invokevirtual 350, 3) := by decide +kernel
theorem dX3_requireHold_8 : decode cX3_requireHold 8 = .ok (.ifCond .ne 14, 3) := by decide +kernel
theorem dX3_requireHold_11 : decode cX3_requireHold 11 = .ok (.new 279, 3) := by decide +kernel
theorem dX3_requireHold_14 : decode cX3_requireHold 14 = .ok (.dup, 1) := by decide +kernel
theorem dX3_requireHold_15 : decode cX3_requireHold 15 = .ok (.ldc_w 353, 3) := by decide +kernel
theorem dX3_requireHold_18 : decode cX3_requireHold 18 = .ok (.invokespecial 283, 3) := by decide +kernel
theorem dX3_requireHold_21 : decode cX3_requireHold 21 = .ok (.athrow, 1) := by decide +kernel
theorem dX3_requireHold_22 : decode cX3_requireHold 22 = .ok (.return_, 1) := by decide +kernel
theorem dX3_requireLinks_0 : decode cX3_requireLinks 0 = .ok (.aload_n 0, 1) := by decide +kernel
theorem dX3_requireLinks_1 : decode cX3_requireLinks 1 = .ok (.getfield 12, 3) := by decide +kernel
theorem dX3_requireLinks_4 : decode cX3_requireLinks 4 = .ok (.iload_n 1, 1) := by decide +kernel
theorem dX3_requireLinks_5 : decode cX3_requireLinks 5 = .ok (.invokevirtual 101, 3) := by decide +kernel
theorem dX3_requireLinks_8 : decode cX3_requireLinks 8 = .ok (.ifCond .ne 14, 3) := by decide +kernel
theorem dX3_requireLinks_11 : decode cX3_requireLinks 11 = .ok (.new 69, 3) := by decide +kernel
theorem dX3_requireLinks_14 : decode cX3_requireLinks 14 = .ok (.dup, 1) := by decide +kernel
theorem dX3_requireLinks_15 : decode cX3_requireLinks 15 = .ok (.ldc_w 355, 3) := by decide +kernel
theorem dX3_requireLinks_18 : decode cX3_requireLinks 18 = .ok (.invokespecial 73, 3) := by decide +kernel
theorem dX3_requireLinks_21 : decode cX3_requireLinks 21 = .ok (.athrow, 1) := by decide +kernel
theorem dX3_requireLinks_22 : decode cX3_requireLinks 22 = .ok (.return_, 1) := by decide +kernel
theorem dX3_requireNoTransaction_0 : decode cX3_requireNoTransaction 0 = .ok (.aload_n 0, 1) := by decide +kernel
theorem dX3_requireNoTransaction_1 : decode cX3_requireNoTransaction 1 = .ok (.getfield 19, 3) := by decide +kernel
theorem dX3_requireNoTransaction_4 : decode cX3_requireNoTransaction 4 = .ok (.ifCond .eq 14, 3) := by decide +kernel
theorem dX3_requireNoTransaction_7 : decode cX3_requireNoTransaction 7 = .ok (.new 69, 3) := by decide +kernel
theorem dX3_requireNoTransaction_10 : decode cX3_requireNoTransaction 10 = .ok (.dup, 1) := by decide +kernel
theorem dX3_requireNoTransaction_11 : decode cX3_requireNoTransaction 11 = .ok (.ldc_w 357, 3) := by decide +kernel
theorem dX3_requireNoTransaction_14 : decode cX3_requireNoTransaction 14 = .ok (.invokespecial 73, 3) := by decide +kernel
theorem dX3_requireNoTransaction_17 : decode cX3_requireNoTransaction 17 = .ok (.athrow, 1) := by decide +kernel
theorem dX3_requireNoTransaction_18 : decode cX3_requireNoTransaction 18 = .ok (.return_, 1) := by decide +kernel
theorem dX3_requireBlockFor_0 : decode cX3_requireBlockFor 0 = .ok (.aload_n 0, 1) := by decide +kernel
theorem dX3_requireBlockFor_1 : decode cX3_requireBlockFor 1 = .ok (.getfield 12, 3) := by decide +kernel
theorem dX3_requireBlockFor_4 : decode cX3_requireBlockFor 4 = .ok (.iload_n 1, 1) := by decide +kernel
theorem dX3_requireBlockFor_5 : decode cX3_requireBlockFor 5 = .ok (.iload_n 2, 1) := by decide +kernel
theorem dX3_requireBlockFor_6 : decode cX3_requireBlockFor 6 = .ok (.invokevirtual 149, 3) := by decide +kernel
theorem dX3_requireBlockFor_9 : decode cX3_requireBlockFor 9 = .ok (.aload_n 0, 1) := by decide +kernel
theorem dX3_requireBlockFor_10 : decode cX3_requireBlockFor 10 = .ok (.getfield 12, 3) := by decide +kernel
theorem dX3_requireBlockFor_13 : decode cX3_requireBlockFor 13 = .ok (.iload_n 2, 1) := by decide +kernel
theorem dX3_requireBlockFor_14 : decode cX3_requireBlockFor 14 = .ok (.iload_n 3, 1) := by decide +kernel
theorem dX3_requireBlockFor_15 : decode cX3_requireBlockFor 15 = .ok (.invokevirtual 359, 3) := by decide +kernel
theorem dX3_requireBlockFor_18 : decode cX3_requireBlockFor 18 = .ok (.lor, 1) := by decide +kernel
theorem dX3_requireBlockFor_19 : decode cX3_requireBlockFor 19 = .ok (.lstore 4, 2) := by decide +kernel
theorem dX3_requireBlockFor_21 : decode cX3_requireBlockFor 21 = .ok (.lload 4, 2) := by decide +kernel
theorem dX3_requireBlockFor_23 : decode cX3_requireBlockFor 23 = .ok (.invokestatic 153, 3) := by decide +kernel
theorem dX3_requireBlockFor_26 : decode cX3_requireBlockFor 26 = .ok (.iconst 1, 1) := by decide +kernel
theorem dX3_requireBlockFor_27 : decode cX3_requireBlockFor 27 = .ok (.iadd, 1) := by decide +kernel
theorem dX3_requireBlockFor_28 : decode cX3_requireBlockFor 28 = .ok (.aload_n 0, 1) := by decide +kernel
theorem dX3_requireBlockFor_29 : decode cX3_requireBlockFor 29 = .ok (.iload_n 1, 1) := by decide +kernel
theorem dX3_requireBlockFor_30 : decode cX3_requireBlockFor 30 = .ok (.invokevirtual 232, 3) := by decide +kernel
theorem dX3_requireBlockFor_33 : decode cX3_requireBlockFor 33 = .ok (.if_icmp .le 13, 3) := by decide +kernel
theorem dX3_requireBlockFor_36 : decode cX3_requireBlockFor 36 = .ok (.new 171, 3) := by decide +kernel
theorem dX3_requireBlockFor_39 : decode cX3_requireBlockFor 39 = .ok (.dup, 1) := by decide +kernel
theorem dX3_requireBlockFor_40 : decode cX3_requireBlockFor 40 = .ok (.ldc 235, 2) := by decide +kernel
theorem dX3_requireBlockFor_42 : decode cX3_requireBlockFor 42 = .ok (.invokespecial 175, 3) := by decide +kernel
theorem dX3_requireBlockFor_45 : decode cX3_requireBlockFor 45 = .ok (.athrow, 1) := by decide +kernel
theorem dX3_requireBlockFor_46 : decode cX3_requireBlockFor 46 = .ok (.aload_n 0, 1) := by decide +kernel
theorem dX3_requireBlockFor_47 : decode cX3_requireBlockFor 47 = .ok (.getfield 12, 3) := by decide +kernel
theorem dX3_requireBlockFor_50 : decode cX3_requireBlockFor 50 = .ok (.invokevirtual 159, 3) := by decide +kernel
theorem dX3_requireBlockFor_53 : decode cX3_requireBlockFor 53 = .ok (.aload_n 0, 1) := by decide +kernel
theorem dX3_requireBlockFor_54 : decode cX3_requireBlockFor 54 = .ok (.getfield 12, 3) := by decide +kernel
theorem dX3_requireBlockFor_57 : decode cX3_requireBlockFor 57 = .ok (.invokevirtual 168, 3) := by decide +kernel
theorem dX3_requireBlockFor_60 : decode cX3_requireBlockFor 60 = .ok (.isub, 1) := by decide +kernel
theorem dX3_requireBlockFor_61 : decode cX3_requireBlockFor 61 = .ok (.aload_n 0, 1) := by decide +kernel
theorem dX3_requireBlockFor_62 : decode cX3_requireBlockFor 62 = .ok (.getfield 12, 3) := by decide +kernel
theorem dX3_requireBlockFor_65 : decode cX3_requireBlockFor 65 = .ok (.iload_n 1, 1) := by decide +kernel
theorem dX3_requireBlockFor_66 : decode cX3_requireBlockFor 66 = .ok (.invokevirtual 176, 3) := by decide +kernel
theorem dX3_requireBlockFor_69 : decode cX3_requireBlockFor 69 = .ok (.iadd, 1) := by decide +kernel
theorem dX3_requireBlockFor_70 : decode cX3_requireBlockFor 70 = .ok (.ifCond .gt 14, 3) := by decide +kernel
theorem dX3_requireBlockFor_73 : decode cX3_requireBlockFor 73 = .ok (.new 171, 3) := by decide +kernel
theorem dX3_requireBlockFor_76 : decode cX3_requireBlockFor 76 = .ok (.dup, 1) := by decide +kernel
theorem dX3_requireBlockFor_77 : decode cX3_requireBlockFor 77 = .ok (.ldc_w 360, 3) := by decide +kernel
theorem dX3_requireBlockFor_80 : decode cX3_requireBlockFor 80 = .ok (.invokespecial 175, 3) := by decide +kernel
theorem dX3_requireBlockFor_83 : decode cX3_requireBlockFor 83 = .ok (.athrow, 1) := by decide +kernel
theorem dX3_requireBlockFor_84 : decode cX3_requireBlockFor 84 = .ok (.return_, 1) := by decide +kernel
theorem dX3_blockOrThrow_0 : decode cX3_blockOrThrow 0 = .ok (.aload_n 0, 1) := by decide +kernel
theorem dX3_blockOrThrow_1 : decode cX3_blockOrThrow 1 = .ok (.iload_n 1, 1) := by decide +kernel
theorem dX3_blockOrThrow_2 : decode cX3_blockOrThrow 2 = .ok (.invokevirtual 94, 3) := by decide +kernel
theorem dX3_blockOrThrow_5 : decode cX3_blockOrThrow 5 = .ok (.aload_n 0, 1) := by decide +kernel
theorem dX3_blockOrThrow_6 : decode cX3_blockOrThrow 6 = .ok (.iload_n 2, 1) := by decide +kernel
theorem dX3_blockOrThrow_7 : decode cX3_blockOrThrow 7 = .ok (.invokevirtual 116, 3) := by decide +kernel
theorem dX3_blockOrThrow_10 : decode cX3_blockOrThrow 10 = .ok (.aload_n 0, 1) := by decide +kernel
theorem dX3_blockOrThrow_11 : decode cX3_blockOrThrow 11 = .ok (.getfield 12, 3) := by decide +kernel
theorem dX3_blockOrThrow_14 : decode cX3_blockOrThrow 14 = .ok (.iload_n 1, 1) := by decide +kernel
theorem dX3_blockOrThrow_15 : decode cX3_blockOrThrow 15 = .ok (.iload_n 2, 1) := by decide +kernel
theorem dX3_blockOrThrow_16 : decode cX3_blockOrThrow 16 = .ok (.invokevirtual 119, 3) := by decide +kernel
theorem dX3_blockOrThrow_19 : decode cX3_blockOrThrow 19 = .ok (.istore_n 3, 1) := by decide +kernel
theorem dX3_blockOrThrow_20 : decode cX3_blockOrThrow 20 = .ok (.iload_n 3, 1) := by decide +kernel
theorem dX3_blockOrThrow_21 : decode cX3_blockOrThrow 21 = .ok (.iconst (-1), 1) := by decide +kernel
theorem dX3_blockOrThrow_22 : decode cX3_blockOrThrow 22 = .ok (.if_icmp .ne 14, 3) := by decide +kernel
theorem dX3_blockOrThrow_25 : decode cX3_blockOrThrow 25 = .ok (.new 210, 3) := by decide +kernel
theorem dX3_blockOrThrow_28 : decode cX3_blockOrThrow 28 = .ok (.dup, 1) := by decide +kernel
theorem dX3_blockOrThrow_29 : decode cX3_blockOrThrow 29 = .ok (.ldc_w 362, 3) := by decide +kernel
theorem dX3_blockOrThrow_32 : decode cX3_blockOrThrow 32 = .ok (.invokespecial 214, 3) := by decide +kernel
theorem dX3_blockOrThrow_35 : decode cX3_blockOrThrow 35 = .ok (.athrow, 1) := by decide +kernel
theorem dX3_blockOrThrow_36 : decode cX3_blockOrThrow 36 = .ok (.iload_n 3, 1) := by decide +kernel
theorem dX3_blockOrThrow_37 : decode cX3_blockOrThrow 37 = .ok (.ireturn, 1) := by decide +kernel
theorem dX3_isBlock_0 : decode cX3_isBlock 0 = .ok (.iload_n 0, 1) := by decide +kernel
theorem dX3_isBlock_1 : decode cX3_isBlock 1 = .ok (.ifCond .lt 13, 3) := by decide +kernel
theorem dX3_isBlock_4 : decode cX3_isBlock 4 = .ok (.iload_n 0, 1) := by decide +kernel
theorem dX3_isBlock_5 : decode cX3_isBlock 5 = .ok (.bipush 64, 2) := by decide +kernel
theorem dX3_isBlock_7 : decode cX3_isBlock 7 = .ok (.if_icmp .ge 7, 3) := by decide +kernel
theorem dX3_isBlock_10 : decode cX3_isBlock 10 = .ok (.iconst 1, 1) := by decide +kernel
theorem dX3_isBlock_11 : decode cX3_isBlock 11 = .ok (.goto 4, 3) := by decide +kernel
theorem dX3_isBlock_14 : decode cX3_isBlock 14 = .ok (.iconst 0, 1) := by decide +kernel
theorem dX3_isBlock_15 : decode cX3_isBlock 15 = .ok (.ireturn, 1) := by decide +kernel
theorem dX3_isPlace_0 : decode cX3_isPlace 0 = .ok (.iload_n 0, 1) := by decide +kernel
theorem dX3_isPlace_1 : decode cX3_isPlace 1 = .ok (.ifCond .lt 13, 3) := by decide +kernel
theorem dX3_isPlace_4 : decode cX3_isPlace 4 = .ok (.iload_n 0, 1) := by decide +kernel
theorem dX3_isPlace_5 : decode cX3_isPlace 5 = .ok (.bipush 16, 2) := by decide +kernel
theorem dX3_isPlace_7 : decode cX3_isPlace 7 = .ok (.if_icmp .ge 7, 3) := by decide +kernel
theorem dX3_isPlace_10 : decode cX3_isPlace 10 = .ok (.iconst 1, 1) := by decide +kernel
theorem dX3_isPlace_11 : decode cX3_isPlace 11 = .ok (.goto 4, 3) := by decide +kernel
theorem dX3_isPlace_14 : decode cX3_isPlace 14 = .ok (.iconst 0, 1) := by decide +kernel
theorem dX3_isPlace_15 : decode cX3_isPlace 15 = .ok (.ireturn, 1) := by decide +kernel
theorem dX3_countUser_0 : decode cX3_countUser 0 = .ok (.iload_n 1, 1) := by decide +kernel
theorem dX3_countUser_1 : decode cX3_countUser 1 = .ok (.invokestatic 334, 3) := by decide +kernel
theorem dX3_countUser_4 : decode cX3_countUser 4 = .ok (.ifCond .eq 16, 3) := by decide +kernel
theorem dX3_countUser_7 : decode cX3_countUser 7 = .ok (.iload_n 1, 1) := by decide +kernel
theorem dX3_countUser_8 : decode cX3_countUser 8 = .ok (.aload_n 0, 1) := by decide +kernel
theorem dX3_countUser_9 : decode cX3_countUser 9 = .ok (.arraylength, 1) := by decide +kernel
theorem dX3_countUser_10 : decode cX3_countUser 10 = .ok (.if_icmp .ge 10, 3) := by decide +kernel
theorem dX3_countUser_13 : decode cX3_countUser 13 = .ok (.aload_n 0, 1) := by decide +kernel
theorem dX3_countUser_14 : decode cX3_countUser 14 = .ok (.iload_n 1, 1) := by decide +kernel
theorem dX3_countUser_15 : decode cX3_countUser 15 = .ok (.dup2, 1) := by decide +kernel
theorem dX3_countUser_16 : decode cX3_countUser 16 = .ok (.iaload, 1) := by decide +kernel
theorem dX3_countUser_17 : decode cX3_countUser 17 = .ok (.iconst 1, 1) := by decide +kernel
theorem dX3_countUser_18 : decode cX3_countUser 18 = .ok (.iadd, 1) := by decide +kernel
theorem dX3_countUser_19 : decode cX3_countUser 19 = .ok (.iastore, 1) := by decide +kernel
theorem dX3_countUser_20 : decode cX3_countUser 20 = .ok (.return_, 1) := by decide +kernel
theorem dX3_quotaOf_0 : decode cX3_quotaOf 0 = .ok (.iload_n 1, 1) := by decide +kernel
theorem dX3_quotaOf_1 : decode cX3_quotaOf 1 = .ok (.ifCond .lt 20, 3) := by decide +kernel
theorem dX3_quotaOf_4 : decode cX3_quotaOf 4 = .ok (.iload_n 1, 1) := by decide +kernel
theorem dX3_quotaOf_5 : decode cX3_quotaOf 5 = .ok (.aload_n 0, 1) := by decide +kernel
theorem dX3_quotaOf_6 : decode cX3_quotaOf 6 = .ok (.getfield 27, 3) := by decide +kernel
theorem dX3_quotaOf_9 : decode cX3_quotaOf 9 = .ok (.if_icmp .ge 12, 3) := by decide +kernel
theorem dX3_quotaOf_12 : decode cX3_quotaOf 12 = .ok (.aload_n 0, 1) := by decide +kernel
theorem dX3_quotaOf_13 : decode cX3_quotaOf 13 = .ok (.getfield 31, 3) := by decide +kernel
theorem dX3_quotaOf_16 : decode cX3_quotaOf 16 = .ok (.iload_n 1, 1) := by decide +kernel
theorem dX3_quotaOf_17 : decode cX3_quotaOf 17 = .ok (.iaload, 1) := by decide +kernel
theorem dX3_quotaOf_18 : decode cX3_quotaOf 18 = .ok (.goto 4, 3) := by decide +kernel
theorem dX3_quotaOf_21 : decode cX3_quotaOf 21 = .ok (.iconst 0, 1) := by decide +kernel
theorem dX3_quotaOf_22 : decode cX3_quotaOf 22 = .ok (.ireturn, 1) := by decide +kernel
theorem dX3_note_0 : decode cX3_note 0 = .ok (.aload_n 0, 1) := by decide +kernel
theorem dX3_note_1 : decode cX3_note 1 = .ok (.getfield 12, 3) := by decide +kernel
theorem dX3_note_4 : decode cX3_note 4 = .ok (.invokevirtual 274, 3) := by decide +kernel
theorem dX3_note_7 : decode cX3_note 7 = .ok (.istore_n 2, 1) := by decide +kernel
theorem dX3_note_8 : decode cX3_note 8 = .ok (.iload_n 2, 1) := by decide +kernel
theorem dX3_note_9 : decode cX3_note 9 = .ok (.sipush 512, 3) := by decide +kernel
theorem dX3_note_12 : decode cX3_note 12 = .ok (.if_icmp .ge 20, 3) := by decide +kernel
theorem dX3_note_15 : decode cX3_note 15 = .ok (.aload_n 0, 1) := by decide +kernel
theorem dX3_note_16 : decode cX3_note 16 = .ok (.getfield 23, 3) := by decide +kernel
theorem dX3_note_19 : decode cX3_note 19 = .ok (.iload_n 2, 1) := by decide +kernel
theorem dX3_note_20 : decode cX3_note 20 = .ok (.iload_n 1, 1) := by decide +kernel
theorem dX3_note_21 : decode cX3_note 21 = .ok (.castore, 1) := by decide +kernel
theorem dX3_note_22 : decode cX3_note 22 = .ok (.aload_n 0, 1) := by decide +kernel
theorem dX3_note_23 : decode cX3_note 23 = .ok (.getfield 12, 3) := by decide +kernel
theorem dX3_note_26 : decode cX3_note 26 = .ok (.iload_n 2, 1) := by decide +kernel
theorem dX3_note_27 : decode cX3_note 27 = .ok (.iconst 1, 1) := by decide +kernel
theorem dX3_note_28 : decode cX3_note 28 = .ok (.iadd, 1) := by decide +kernel
theorem dX3_note_29 : decode cX3_note 29 = .ok (.invokevirtual 364, 3) := by decide +kernel
theorem dX3_note_32 : decode cX3_note 32 = .ok (.return_, 1) := by decide +kernel
theorem dX3_endHold_0 : decode cX3_endHold 0 = .ok (.aload_n 0, 1) := by decide +kernel
theorem dX3_endHold_1 : decode cX3_endHold 1 = .ok (.getfield 45, 3) := by decide +kernel
theorem dX3_endHold_4 : decode cX3_endHold 4 = .ok (.iload_n 1, 1) := by decide +kernel
theorem dX3_endHold_5 : decode cX3_endHold 5 = .ok (.invokevirtual 367, 3) := by decide +kernel
theorem dX3_endHold_8 : decode cX3_endHold 8 = .ok (.aload_n 0, 1) := by decide +kernel
theorem dX3_endHold_9 : decode cX3_endHold 9 = .ok (.aload_n 0, 1) := by decide +kernel
theorem dX3_endHold_10 : decode cX3_endHold 10 = .ok (.getfield 45, 3) := by decide +kernel
theorem dX3_endHold_13 : decode cX3_endHold 13 = .ok (.iload_n 1, 1) := by decide +kernel
theorem dX3_endHold_14 : decode cX3_endHold 14 = .ok (.invokevirtual 370, 3) := by decide +kernel
theorem dX3_endHold_17 : decode cX3_endHold 17 = .ok (.invokevirtual 113, 3) := by decide +kernel
theorem dX3_endHold_20 : decode cX3_endHold 20 = .ok (.ireturn, 1) := by decide +kernel
theorem dX3_removeIfAbandoned_0 : decode cX3_removeIfAbandoned 0 = .ok (.aload_n 0, 1) := by decide +kernel
theorem dX3_removeIfAbandoned_1 : decode cX3_removeIfAbandoned 1 = .ok (.getfield 12, 3) := by decide +kernel
theorem dX3_removeIfAbandoned_4 : decode cX3_removeIfAbandoned 4 = .ok (.iload_n 1, 1) := by decide +kernel
theorem dX3_removeIfAbandoned_5 : decode cX3_removeIfAbandoned 5 = .ok (.invokevirtual 101, 3) := by decide +kernel
theorem dX3_removeIfAbandoned_8 : decode cX3_removeIfAbandoned 8 = .ok (.ifCond .gt 14, 3) := by decide +kernel
theorem dX3_removeIfAbandoned_11 : decode cX3_removeIfAbandoned 11 = .ok (.aload_n 0, 1) := by decide +kernel
theorem dX3_removeIfAbandoned_12 : decode cX3_removeIfAbandoned 12 = .ok (.getfield 45, 3) := by decide +kernel
theorem dX3_removeIfAbandoned_15 : decode cX3_removeIfAbandoned 15 = .ok (.iload_n 1, 1) := by decide +kernel
theorem dX3_removeIfAbandoned_16 : decode cX3_removeIfAbandoned 16 = .ok (.invokevirtual 257, 3) := by decide +kernel
theorem dX3_removeIfAbandoned_19 : decode cX3_removeIfAbandoned 19 = .ok (.ifCond .le 5, 3) := by decide +kernel
theorem dX3_removeIfAbandoned_22 : decode cX3_removeIfAbandoned 22 = .ok (.iconst 0, 1) := by decide +kernel
theorem dX3_removeIfAbandoned_23 : decode cX3_removeIfAbandoned 23 = .ok (.ireturn, 1) := by decide +kernel
theorem dX3_removeIfAbandoned_24 : decode cX3_removeIfAbandoned 24 = .ok (.aload_n 0, 1) := by decide +kernel
theorem dX3_removeIfAbandoned_25 : decode cX3_removeIfAbandoned 25 = .ok (.getfield 12, 3) := by decide +kernel
theorem dX3_removeIfAbandoned_28 : decode cX3_removeIfAbandoned 28 = .ok (.iload_n 1, 1) := by decide +kernel
theorem dX3_removeIfAbandoned_29 : decode cX3_removeIfAbandoned 29 = .ok (.invokevirtual 373, 3) := by decide +kernel
theorem dX3_removeIfAbandoned_32 : decode cX3_removeIfAbandoned 32 = .ok (.iconst 1, 1) := by decide +kernel
theorem dX3_removeIfAbandoned_33 : decode cX3_removeIfAbandoned 33 = .ok (.ireturn, 1) := by decide +kernel
theorem dX3_walkUsers_0 : decode cX3_walkUsers 0 = .ok (.aload_n 0, 1) := by decide +kernel
theorem dX3_walkUsers_1 : decode cX3_walkUsers 1 = .ok (.getfield 59, 3) := by decide +kernel
theorem dX3_walkUsers_4 : decode cX3_walkUsers 4 = .ok (.iconst 0, 1) := by decide +kernel
theorem dX3_walkUsers_5 : decode cX3_walkUsers 5 = .ok (.invokestatic 376, 3) := by decide +kernel
theorem dX3_walkUsers_8 : decode cX3_walkUsers 8 = .ok (.aload_n 0, 1) := by decide +kernel
theorem dX3_walkUsers_9 : decode cX3_walkUsers 9 = .ok (.getfield 12, 3) := by decide +kernel
theorem dX3_walkUsers_12 : decode cX3_walkUsers 12 = .ok (.aload_n 0, 1) := by decide +kernel
theorem dX3_walkUsers_13 : decode cX3_walkUsers 13 = .ok (.getfield 59, 3) := by decide +kernel
theorem dX3_walkUsers_16 : decode cX3_walkUsers 16 = .ok (.invokevirtual 382, 3) := by decide +kernel
theorem dX3_walkUsers_19 : decode cX3_walkUsers 19 = .ok (.aload_n 0, 1) := by decide +kernel
theorem dX3_walkUsers_20 : decode cX3_walkUsers 20 = .ok (.getfield 38, 3) := by decide +kernel
theorem dX3_walkUsers_23 : decode cX3_walkUsers 23 = .ok (.aload_n 0, 1) := by decide +kernel
theorem dX3_walkUsers_24 : decode cX3_walkUsers 24 = .ok (.getfield 59, 3) := by decide +kernel
theorem dX3_walkUsers_27 : decode cX3_walkUsers 27 = .ok (.invokevirtual 386, 3) := by decide +kernel
theorem dX3_walkUsers_30 : decode cX3_walkUsers 30 = .ok (.return_, 1) := by decide +kernel
theorem dX3_areUsersAsWalked_0 : decode cX3_areUsersAsWalked 0 = .ok (.aload_n 0, 1) := by decide +kernel
theorem dX3_areUsersAsWalked_1 : decode cX3_areUsersAsWalked 1 = .ok (.invokevirtual 165, 3) := by decide +kernel
theorem dX3_areUsersAsWalked_4 : decode cX3_areUsersAsWalked 4 = .ok (.iconst 0, 1) := by decide +kernel
theorem dX3_areUsersAsWalked_5 : decode cX3_areUsersAsWalked 5 = .ok (.istore_n 1, 1) := by decide +kernel
theorem dX3_areUsersAsWalked_6 : decode cX3_areUsersAsWalked 6 = .ok (.iload_n 1, 1) := by decide +kernel
theorem dX3_areUsersAsWalked_7 : decode cX3_areUsersAsWalked 7 = .ok (.bipush 64, 2) := by decide +kernel
theorem dX3_areUsersAsWalked_9 : decode cX3_areUsersAsWalked 9 = .ok (.if_icmp .ge 28, 3) := by decide +kernel
theorem dX3_areUsersAsWalked_12 : decode cX3_areUsersAsWalked 12 = .ok (.aload_n 0, 1) := by decide +kernel
theorem dX3_areUsersAsWalked_13 : decode cX3_areUsersAsWalked 13 = .ok (.getfield 59, 3) := by decide +kernel
theorem dX3_areUsersAsWalked_16 : decode cX3_areUsersAsWalked 16 = .ok (.iload_n 1, 1) := by decide +kernel
theorem dX3_areUsersAsWalked_17 : decode cX3_areUsersAsWalked 17 = .ok (.iaload, 1) := by decide +kernel
theorem dX3_areUsersAsWalked_18 : decode cX3_areUsersAsWalked 18 = .ok (.aload_n 0, 1) := by decide +kernel
theorem dX3_areUsersAsWalked_19 : decode cX3_areUsersAsWalked 19 = .ok (.getfield 12, 3) := by decide +kernel
theorem dX3_areUsersAsWalked_22 : decode cX3_areUsersAsWalked 22 = .ok (.iload_n 1, 1) := by decide +kernel
theorem dX3_areUsersAsWalked_23 : decode cX3_areUsersAsWalked 23 = .ok (.invokevirtual 123, 3) := by decide +kernel
theorem dX3_areUsersAsWalked_26 : decode cX3_areUsersAsWalked 26 = .ok (.if_icmp .eq 5, 3) := by decide +kernel
theorem dX3_areUsersAsWalked_29 : decode cX3_areUsersAsWalked 29 = .ok (.iconst 0, 1) := by decide +kernel
theorem dX3_areUsersAsWalked_30 : decode cX3_areUsersAsWalked 30 = .ok (.ireturn, 1) := by decide +kernel
theorem dX3_areUsersAsWalked_31 : decode cX3_areUsersAsWalked 31 = .ok (.iinc 1 1, 3) := by decide +kernel
theorem dX3_areUsersAsWalked_34 : decode cX3_areUsersAsWalked 34 = .ok (.goto (-28), 3) := by decide +kernel
theorem dX3_areUsersAsWalked_37 : decode cX3_areUsersAsWalked 37 = .ok (.iconst 1, 1) := by decide +kernel
theorem dX3_areUsersAsWalked_38 : decode cX3_areUsersAsWalked 38 = .ok (.ireturn, 1) := by decide +kernel
theorem dX3_areHeldFilesAlive_0 : decode cX3_areHeldFilesAlive 0 = .ok (.iconst 0, 1) := by decide +kernel
theorem dX3_areHeldFilesAlive_1 : decode cX3_areHeldFilesAlive 1 = .ok (.istore_n 1, 1) := by decide +kernel
theorem dX3_areHeldFilesAlive_2 : decode cX3_areHeldFilesAlive 2 = .ok (.iload_n 1, 1) := by decide +kernel
theorem dX3_areHeldFilesAlive_3 : decode cX3_areHeldFilesAlive 3 = .ok (.bipush 30, 2) := by decide +kernel
theorem dX3_areHeldFilesAlive_5 : decode cX3_areHeldFilesAlive 5 = .ok (.if_icmp .ge 40, 3) := by decide +kernel
theorem dX3_areHeldFilesAlive_8 : decode cX3_areHeldFilesAlive 8 = .ok (.aload_n 0, 1) := by decide +kernel
theorem dX3_areHeldFilesAlive_9 : decode cX3_areHeldFilesAlive 9 = .ok (.getfield 45, 3) := by decide +kernel
theorem dX3_areHeldFilesAlive_12 : decode cX3_areHeldFilesAlive 12 = .ok (.iload_n 1, 1) := by decide +kernel
theorem dX3_areHeldFilesAlive_13 : decode cX3_areHeldFilesAlive 13 = .ok (.invokevirtual 249, 3) := by decide +kernel
theorem dX3_areHeldFilesAlive_16 : decode cX3_areHeldFilesAlive 16 = .ok (.ifCond .eq 23, 3) := by decide +kernel
theorem dX3_areHeldFilesAlive_19 : decode cX3_areHeldFilesAlive 19 = .ok (.aload_n 0, 1) := by decide +kernel
theorem dX3_areHeldFilesAlive_20 : decode cX3_areHeldFilesAlive 20 = .ok (.getfield 12, 3) := by decide +kernel
theorem dX3_areHeldFilesAlive_23 : decode cX3_areHeldFilesAlive 23 = .ok (.aload_n 0, 1) := by decide +kernel
theorem dX3_areHeldFilesAlive_24 : decode cX3_areHeldFilesAlive 24 = .ok (.getfield 45, 3) := by decide +kernel
theorem dX3_areHeldFilesAlive_27 : decode cX3_areHeldFilesAlive 27 = .ok (.iload_n 1, 1) := by decide +kernel
theorem dX3_areHeldFilesAlive_28 : decode cX3_areHeldFilesAlive 28 = .ok (.invokevirtual 370, 3) := by decide +kernel
theorem dX3_areHeldFilesAlive_31 : decode cX3_areHeldFilesAlive 31 = .ok (.invokevirtual 97, 3) := by decide +kernel
theorem dX3_areHeldFilesAlive_34 : decode cX3_areHeldFilesAlive 34 = .ok (.ifCond .ne 5, 3) := by decide +kernel
theorem dX3_areHeldFilesAlive_37 : decode cX3_areHeldFilesAlive 37 = .ok (.iconst 0, 1) := by decide +kernel
theorem dX3_areHeldFilesAlive_38 : decode cX3_areHeldFilesAlive 38 = .ok (.ireturn, 1) := by decide +kernel
theorem dX3_areHeldFilesAlive_39 : decode cX3_areHeldFilesAlive 39 = .ok (.iinc 1 1, 3) := by decide +kernel
theorem dX3_areHeldFilesAlive_42 : decode cX3_areHeldFilesAlive 42 = .ok (.goto (-40), 3) := by decide +kernel
theorem dX3_areHeldFilesAlive_45 : decode cX3_areHeldFilesAlive 45 = .ok (.iconst 1, 1) := by decide +kernel
theorem dX3_areHeldFilesAlive_46 : decode cX3_areHeldFilesAlive 46 = .ok (.ireturn, 1) := by decide +kernel
theorem dJ5_init_d00df_0 : decode cJ5_init_d00df 0 = .ok (.aload_n 0, 1) := by decide +kernel
theorem dJ5_init_d00df_1 : decode cJ5_init_d00df 1 = .ok (.invokespecial 3, 3) := by decide +kernel
theorem dJ5_init_d00df_4 : decode cJ5_init_d00df 4 = .ok (.getstatic 18, 3) := by decide +kernel
theorem dJ5_init_d00df_7 : decode cJ5_init_d00df 7 = .ok (.ifCond .eq 18, 3) := by decide +kernel
theorem dJ5_init_d00df_10 : decode cJ5_init_d00df 10 = .ok (.aload_n 0, 1) := by decide +kernel
theorem dJ5_init_d00df_11 : decode cJ5_init_d00df 11 = .ok (.iload_n 1, 1) := by decide +kernel
theorem dJ5_init_d00df_12 : decode cJ5_init_d00df 12 = .ok (.newarray .byte, 2) := by decide +kernel
theorem dJ5_init_d00df_14 : decode cJ5_init_d00df 14 = .ok (.putfield 15, 3) := by decide +kernel
theorem dJ5_init_d00df_17 : decode cJ5_init_d00df 17 = .ok (.aload_n 0, 1) := by decide +kernel
theorem dJ5_init_d00df_18 : decode cJ5_init_d00df 18 = .ok (.iconst 0, 1) := by decide +kernel
theorem dJ5_init_d00df_19 : decode cJ5_init_d00df 19 = .ok (.putfield 22, 3) := by decide +kernel
theorem dJ5_init_d00df_22 : decode cJ5_init_d00df 22 = .ok (.goto 16, 3) := by decide +kernel
theorem dJ5_init_d00df_25 : decode cJ5_init_d00df 25 = .ok (.aload_n 0, 1) := by decide +kernel
theorem dJ5_init_d00df_26 : decode cJ5_init_d00df 26 = .ok (.iload_n 1, 1) := by decide +kernel
theorem dJ5_init_d00df_27 : decode cJ5_init_d00df 27 = .ok (.invokestatic 26, 3) := by decide +kernel
theorem dJ5_init_d00df_30 : decode cJ5_init_d00df 30 = .ok (.putfield 15, 3) := by decide +kernel
theorem dJ5_init_d00df_33 : decode cJ5_init_d00df 33 = .ok (.aload_n 0, 1) := by decide +kernel
theorem dJ5_init_d00df_34 : decode cJ5_init_d00df 34 = .ok (.iconst 1, 1) := by decide +kernel
theorem dJ5_init_d00df_35 : decode cJ5_init_d00df 35 = .ok (.putfield 22, 3) := by decide +kernel
theorem dJ5_init_d00df_38 : decode cJ5_init_d00df 38 = .ok (.return_, 1) := by decide +kernel
theorem dJ5_length_8abf5_0 : decode cJ5_length_8abf5 0 = .ok (.aload_n 0, 1) := by decide +kernel
theorem dJ5_length_8abf5_1 : decode cJ5_length_8abf5 1 = .ok (.getfield 79, 3) := by decide +kernel
theorem dJ5_length_8abf5_4 : decode cJ5_length_8abf5 4 = .ok (.ireturn, 1) := by decide +kernel
theorem dJ5_ensureCapacityInternal_d00df_0 : decode cJ5_ensureCapacityInternal_d00df 0 = .ok (.aload_n 0, 1) := by decide +kernel
theorem dJ5_ensureCapacityInternal_d00df_1 : decode cJ5_ensureCapacityInternal_d00df 1 = .ok (.getfield 15, 3) := by decide +kernel
theorem dJ5_ensureCapacityInternal_d00df_4 : decode cJ5_ensureCapacityInternal_d00df 4 = .ok (.arraylength, 1) := by decide +kernel
theorem dJ5_ensureCapacityInternal_d00df_5 : decode cJ5_ensureCapacityInternal_d00df 5 = .ok (.aload_n 0, 1) := by decide +kernel
theorem dJ5_ensureCapacityInternal_d00df_6 : decode cJ5_ensureCapacityInternal_d00df 6 = .ok (.getfield 22, 3) := by decide +kernel
theorem dJ5_ensureCapacityInternal_d00df_9 : decode cJ5_ensureCapacityInternal_d00df 9 = .ok (.ishr, 1) := by decide +kernel
theorem dJ5_ensureCapacityInternal_d00df_10 : decode cJ5_ensureCapacityInternal_d00df 10 = .ok (.istore_n 2, 1) := by decide +kernel
theorem dJ5_ensureCapacityInternal_d00df_11 : decode cJ5_ensureCapacityInternal_d00df 11 = .ok (.iload_n 1, 1) := by decide +kernel
theorem dJ5_ensureCapacityInternal_d00df_12 : decode cJ5_ensureCapacityInternal_d00df 12 = .ok (.iload_n 2, 1) := by decide +kernel
theorem dJ5_ensureCapacityInternal_d00df_13 : decode cJ5_ensureCapacityInternal_d00df 13 = .ok (.isub, 1) := by decide +kernel
theorem dJ5_ensureCapacityInternal_d00df_14 : decode cJ5_ensureCapacityInternal_d00df 14 = .ok (.ifCond .le 24, 3) := by decide +kernel
theorem dJ5_ensureCapacityInternal_d00df_17 : decode cJ5_ensureCapacityInternal_d00df 17 = .ok (.aload_n 0, 1) := by decide +kernel
theorem dJ5_ensureCapacityInternal_d00df_18 : decode cJ5_ensureCapacityInternal_d00df 18 = .ok (.aload_n 0, 1) := by decide +kernel
theorem dJ5_ensureCapacityInternal_d00df_19 : decode cJ5_ensureCapacityInternal_d00df 19 = .ok (.getfield 15, 3) := by decide +kernel
theorem dJ5_ensureCapacityInternal_d00df_22 : decode cJ5_ensureCapacityInternal_d00df 22 = .ok (.aload_n 0, 1) := by decide +kernel
theorem dJ5_ensureCapacityInternal_d00df_23 : decode cJ5_ensureCapacityInternal_d00df 23 = .ok (.iload_n 1, 1) := by decide +kernel
theorem dJ5_ensureCapacityInternal_d00df_24 : decode cJ5_ensureCapacityInternal_d00df 24 = .ok (.invokevirtual 104, 3) := by decide +kernel
theorem dJ5_ensureCapacityInternal_d00df_27 : decode cJ5_ensureCapacityInternal_d00df 27 = .ok (.aload_n 0, 1) := by decide +kernel
theorem dJ5_ensureCapacityInternal_d00df_28 : decode cJ5_ensureCapacityInternal_d00df 28 = .ok (.getfield 22, 3) := by decide +kernel
theorem dJ5_ensureCapacityInternal_d00df_31 : decode cJ5_ensureCapacityInternal_d00df 31 = .ok (.ishl, 1) := by decide +kernel
theorem dJ5_ensureCapacityInternal_d00df_32 : decode cJ5_ensureCapacityInternal_d00df 32 = .ok (.invokestatic 108, 3) := by decide +kernel
theorem dJ5_ensureCapacityInternal_d00df_35 : decode cJ5_ensureCapacityInternal_d00df 35 = .ok (.putfield 15, 3) := by decide +kernel
theorem dJ5_ensureCapacityInternal_d00df_38 : decode cJ5_ensureCapacityInternal_d00df 38 = .ok (.return_, 1) := by decide +kernel
theorem dJ5_newCapacity_0f7a4_0 : decode cJ5_newCapacity_0f7a4 0 = .ok (.aload_n 0, 1) := by decide +kernel
theorem dJ5_newCapacity_0f7a4_1 : decode cJ5_newCapacity_0f7a4 1 = .ok (.getfield 15, 3) := by decide +kernel
theorem dJ5_newCapacity_0f7a4_4 : decode cJ5_newCapacity_0f7a4 4 = .ok (.arraylength, 1) := by decide +kernel
theorem dJ5_newCapacity_0f7a4_5 : decode cJ5_newCapacity_0f7a4 5 = .ok (.istore_n 2, 1) := by decide +kernel
theorem dJ5_newCapacity_0f7a4_6 : decode cJ5_newCapacity_0f7a4 6 = .ok (.iload_n 1, 1) := by decide +kernel
theorem dJ5_newCapacity_0f7a4_7 : decode cJ5_newCapacity_0f7a4 7 = .ok (.aload_n 0, 1) := by decide +kernel
theorem dJ5_newCapacity_0f7a4_8 : decode cJ5_newCapacity_0f7a4 8 = .ok (.getfield 22, 3) := by decide +kernel
theorem dJ5_newCapacity_0f7a4_11 : decode cJ5_newCapacity_0f7a4 11 = .ok (.ishl, 1) := by decide +kernel
theorem dJ5_newCapacity_0f7a4_12 : decode cJ5_newCapacity_0f7a4 12 = .ok (.istore_n 3, 1) := by decide +kernel
theorem dJ5_newCapacity_0f7a4_13 : decode cJ5_newCapacity_0f7a4 13 = .ok (.iload_n 3, 1) := by decide +kernel
theorem dJ5_newCapacity_0f7a4_14 : decode cJ5_newCapacity_0f7a4 14 = .ok (.iload_n 2, 1) := by decide +kernel
theorem dJ5_newCapacity_0f7a4_15 : decode cJ5_newCapacity_0f7a4 15 = .ok (.isub, 1) := by decide +kernel
theorem dJ5_newCapacity_0f7a4_16 : decode cJ5_newCapacity_0f7a4 16 = .ok (.istore 4, 2) := by decide +kernel
theorem dJ5_newCapacity_0f7a4_18 : decode cJ5_newCapacity_0f7a4 18 = .ok (.iload_n 2, 1) := by decide +kernel
theorem dJ5_newCapacity_0f7a4_19 : decode cJ5_newCapacity_0f7a4 19 = .ok (.iload 4, 2) := by decide +kernel
theorem dJ5_newCapacity_0f7a4_21 : decode cJ5_newCapacity_0f7a4 21 = .ok (.iload_n 2, 1) := by decide +kernel
theorem dJ5_newCapacity_0f7a4_22 : decode cJ5_newCapacity_0f7a4 22 = .ok (.iconst 2, 1) := by decide +kernel
theorem dJ5_newCapacity_0f7a4_23 : decode cJ5_newCapacity_0f7a4 23 = .ok (.aload_n 0, 1) := by decide +kernel
theorem dJ5_newCapacity_0f7a4_24 : decode cJ5_newCapacity_0f7a4 24 = .ok (.getfield 22, 3) := by decide +kernel
theorem dJ5_newCapacity_0f7a4_27 : decode cJ5_newCapacity_0f7a4 27 = .ok (.ishl, 1) := by decide +kernel
theorem dJ5_newCapacity_0f7a4_28 : decode cJ5_newCapacity_0f7a4 28 = .ok (.iadd, 1) := by decide +kernel
theorem dJ5_newCapacity_0f7a4_29 : decode cJ5_newCapacity_0f7a4 29 = .ok (.invokestatic 114, 3) := by decide +kernel
theorem dJ5_newCapacity_0f7a4_32 : decode cJ5_newCapacity_0f7a4 32 = .ok (.istore 5, 2) := by decide +kernel
theorem dJ5_newCapacity_0f7a4_34 : decode cJ5_newCapacity_0f7a4 34 = .ok (.iload 5, 2) := by decide +kernel
theorem dJ5_newCapacity_0f7a4_36 : decode cJ5_newCapacity_0f7a4 36 = .ok (.ldc 39, 2) := by decide +kernel
theorem dJ5_newCapacity_0f7a4_38 : decode cJ5_newCapacity_0f7a4 38 = .ok (.if_icmp .ne 13, 3) := by decide +kernel
theorem dJ5_newCapacity_0f7a4_41 : decode cJ5_newCapacity_0f7a4 41 = .ok (.new 120, 3) := by decide +kernel
theorem dJ5_newCapacity_0f7a4_44 : decode cJ5_newCapacity_0f7a4 44 = .ok (.dup, 1) := by decide +kernel
theorem dJ5_newCapacity_0f7a4_45 : decode cJ5_newCapacity_0f7a4 45 = .ok (.ldc 122, 2) := by decide +kernel
theorem dJ5_newCapacity_0f7a4_47 : decode cJ5_newCapacity_0f7a4 47 = .ok (.invokespecial 124, 3) := by decide +kernel
theorem dJ5_newCapacity_0f7a4_50 : decode cJ5_newCapacity_0f7a4 50 = .ok (.athrow, 1) := by decide +kernel
theorem dJ5_newCapacity_0f7a4_51 : decode cJ5_newCapacity_0f7a4 51 = .ok (.iload 5, 2) := by decide +kernel
theorem dJ5_newCapacity_0f7a4_53 : decode cJ5_newCapacity_0f7a4 53 = .ok (.aload_n 0, 1) := by decide +kernel
theorem dJ5_newCapacity_0f7a4_54 : decode cJ5_newCapacity_0f7a4 54 = .ok (.getfield 22, 3) := by decide +kernel
theorem dJ5_newCapacity_0f7a4_57 : decode cJ5_newCapacity_0f7a4 57 = .ok (.ishr, 1) := by decide +kernel
theorem dJ5_newCapacity_0f7a4_58 : decode cJ5_newCapacity_0f7a4 58 = .ok (.ireturn, 1) := by decide +kernel
theorem dJ5_setLength_d00df_0 : decode cJ5_setLength_d00df 0 = .ok (.iload_n 1, 1) := by decide +kernel
theorem dJ5_setLength_d00df_1 : decode cJ5_setLength_d00df 1 = .ok (.ifCond .ge 12, 3) := by decide +kernel
theorem dJ5_setLength_d00df_4 : decode cJ5_setLength_d00df 4 = .ok (.new 129, 3) := by decide +kernel
theorem dJ5_setLength_d00df_7 : decode cJ5_setLength_d00df 7 = .ok (.dup, 1) := by decide +kernel
theorem dJ5_setLength_d00df_8 : decode cJ5_setLength_d00df 8 = .ok (.iload_n 1, 1) := by decide +kernel
theorem dJ5_setLength_d00df_9 : decode cJ5_setLength_d00df 9 = .ok (.invokespecial 131, 3) := by decide +kernel
theorem dJ5_setLength_d00df_12 : decode cJ5_setLength_d00df 12 = .ok (.athrow, 1) := by decide +kernel
theorem dJ5_setLength_d00df_13 : decode cJ5_setLength_d00df 13 = .ok (.aload_n 0, 1) := by decide +kernel
theorem dJ5_setLength_d00df_14 : decode cJ5_setLength_d00df 14 = .ok (.iload_n 1, 1) := by decide +kernel
theorem dJ5_setLength_d00df_15 : decode cJ5_setLength_d00df 15 = .ok (.invokevirtual 100, 3) := by decide +kernel
theorem dJ5_setLength_d00df_18 : decode cJ5_setLength_d00df 18 = .ok (.aload_n 0, 1) := by decide +kernel
theorem dJ5_setLength_d00df_19 : decode cJ5_setLength_d00df 19 = .ok (.getfield 79, 3) := by decide +kernel
theorem dJ5_setLength_d00df_22 : decode cJ5_setLength_d00df 22 = .ok (.iload_n 1, 1) := by decide +kernel
theorem dJ5_setLength_d00df_23 : decode cJ5_setLength_d00df 23 = .ok (.if_icmp .ge 40, 3) := by decide +kernel
theorem dJ5_setLength_d00df_26 : decode cJ5_setLength_d00df 26 = .ok (.aload_n 0, 1) := by decide +kernel
theorem dJ5_setLength_d00df_27 : decode cJ5_setLength_d00df 27 = .ok (.invokevirtual 83, 3) := by decide +kernel
theorem dJ5_setLength_d00df_30 : decode cJ5_setLength_d00df 30 = .ok (.ifCond .eq 18, 3) := by decide +kernel
theorem dJ5_setLength_d00df_33 : decode cJ5_setLength_d00df 33 = .ok (.aload_n 0, 1) := by decide +kernel
theorem dJ5_setLength_d00df_34 : decode cJ5_setLength_d00df 34 = .ok (.getfield 15, 3) := by decide +kernel
theorem dJ5_setLength_d00df_37 : decode cJ5_setLength_d00df 37 = .ok (.aload_n 0, 1) := by decide +kernel
theorem dJ5_setLength_d00df_38 : decode cJ5_setLength_d00df 38 = .ok (.getfield 79, 3) := by decide +kernel
theorem dJ5_setLength_d00df_41 : decode cJ5_setLength_d00df 41 = .ok (.iload_n 1, 1) := by decide +kernel
theorem dJ5_setLength_d00df_42 : decode cJ5_setLength_d00df 42 = .ok (.invokestatic 133, 3) := by decide +kernel
theorem dJ5_setLength_d00df_45 : decode cJ5_setLength_d00df 45 = .ok (.goto 31, 3) := by decide +kernel
theorem dJ5_setLength_d00df_48 : decode cJ5_setLength_d00df 48 = .ok (.aload_n 0, 1) := by decide +kernel
theorem dJ5_setLength_d00df_49 : decode cJ5_setLength_d00df 49 = .ok (.getfield 15, 3) := by decide +kernel
theorem dJ5_setLength_d00df_52 : decode cJ5_setLength_d00df 52 = .ok (.aload_n 0, 1) := by decide +kernel
theorem dJ5_setLength_d00df_53 : decode cJ5_setLength_d00df 53 = .ok (.getfield 79, 3) := by decide +kernel
theorem dJ5_setLength_d00df_56 : decode cJ5_setLength_d00df 56 = .ok (.iload_n 1, 1) := by decide +kernel
theorem dJ5_setLength_d00df_57 : decode cJ5_setLength_d00df 57 = .ok (.invokestatic 137, 3) := by decide +kernel
theorem dJ5_setLength_d00df_60 : decode cJ5_setLength_d00df 60 = .ok (.goto 16, 3) := by decide +kernel
theorem dJ5_setLength_d00df_63 : decode cJ5_setLength_d00df 63 = .ok (.aload_n 0, 1) := by decide +kernel
theorem dJ5_setLength_d00df_64 : decode cJ5_setLength_d00df 64 = .ok (.getfield 79, 3) := by decide +kernel
theorem dJ5_setLength_d00df_67 : decode cJ5_setLength_d00df 67 = .ok (.iload_n 1, 1) := by decide +kernel
theorem dJ5_setLength_d00df_68 : decode cJ5_setLength_d00df 68 = .ok (.if_icmp .le 8, 3) := by decide +kernel
theorem dJ5_setLength_d00df_71 : decode cJ5_setLength_d00df 71 = .ok (.aload_n 0, 1) := by decide +kernel
theorem dJ5_setLength_d00df_72 : decode cJ5_setLength_d00df 72 = .ok (.iconst 1, 1) := by decide +kernel
theorem dJ5_setLength_d00df_73 : decode cJ5_setLength_d00df 73 = .ok (.putfield 73, 3) := by decide +kernel
theorem dJ5_setLength_d00df_76 : decode cJ5_setLength_d00df 76 = .ok (.aload_n 0, 1) := by decide +kernel
theorem dJ5_setLength_d00df_77 : decode cJ5_setLength_d00df 77 = .ok (.iload_n 1, 1) := by decide +kernel
theorem dJ5_setLength_d00df_78 : decode cJ5_setLength_d00df 78 = .ok (.putfield 79, 3) := by decide +kernel
theorem dJ5_setLength_d00df_81 : decode cJ5_setLength_d00df 81 = .ok (.return_, 1) := by decide +kernel
theorem dJ5_charAt_5068e_0 : decode cJ5_charAt_5068e 0 = .ok (.aload_n 0, 1) := by decide +kernel
theorem dJ5_charAt_5068e_1 : decode cJ5_charAt_5068e 1 = .ok (.getfield 22, 3) := by decide +kernel
theorem dJ5_charAt_5068e_4 : decode cJ5_charAt_5068e 4 = .ok (.istore_n 2, 1) := by decide +kernel
theorem dJ5_charAt_5068e_5 : decode cJ5_charAt_5068e 5 = .ok (.aload_n 0, 1) := by decide +kernel
theorem dJ5_charAt_5068e_6 : decode cJ5_charAt_5068e 6 = .ok (.getfield 15, 3) := by decide +kernel
theorem dJ5_charAt_5068e_9 : decode cJ5_charAt_5068e 9 = .ok (.astore_n 3, 1) := by decide +kernel
theorem dJ5_charAt_5068e_10 : decode cJ5_charAt_5068e 10 = .ok (.aload_n 0, 1) := by decide +kernel
theorem dJ5_charAt_5068e_11 : decode cJ5_charAt_5068e 11 = .ok (.getfield 79, 3) := by decide +kernel
theorem dJ5_charAt_5068e_14 : decode cJ5_charAt_5068e 14 = .ok (.aload_n 3, 1) := by decide +kernel
theorem dJ5_charAt_5068e_15 : decode cJ5_charAt_5068e 15 = .ok (.arraylength, 1) := by decide +kernel
theorem dJ5_charAt_5068e_16 : decode cJ5_charAt_5068e 16 = .ok (.iload_n 2, 1) := by decide +kernel
theorem dJ5_charAt_5068e_17 : decode cJ5_charAt_5068e 17 = .ok (.ishr, 1) := by decide +kernel
theorem dJ5_charAt_5068e_18 : decode cJ5_charAt_5068e 18 = .ok (.invokestatic 138, 3) := by decide +kernel
theorem dJ5_charAt_5068e_21 : decode cJ5_charAt_5068e 21 = .ok (.istore 4, 2) := by decide +kernel
theorem dJ5_charAt_5068e_23 : decode cJ5_charAt_5068e 23 = .ok (.iload_n 1, 1) := by decide +kernel
theorem dJ5_charAt_5068e_24 : decode cJ5_charAt_5068e 24 = .ok (.iload 4, 2) := by decide +kernel
theorem dJ5_charAt_5068e_26 : decode cJ5_charAt_5068e 26 = .ok (.invokestatic 144, 3) := by decide +kernel
theorem dJ5_charAt_5068e_29 : decode cJ5_charAt_5068e 29 = .ok (.iload_n 2, 1) := by decide +kernel
theorem dJ5_charAt_5068e_30 : decode cJ5_charAt_5068e 30 = .ok (.ifCond .ne 12, 3) := by decide +kernel
theorem dJ5_charAt_5068e_33 : decode cJ5_charAt_5068e 33 = .ok (.aload_n 3, 1) := by decide +kernel
theorem dJ5_charAt_5068e_34 : decode cJ5_charAt_5068e 34 = .ok (.iload_n 1, 1) := by decide +kernel
theorem dJ5_charAt_5068e_35 : decode cJ5_charAt_5068e 35 = .ok (.baload, 1) := by decide +kernel
theorem dJ5_charAt_5068e_36 : decode cJ5_charAt_5068e 36 = .ok (.sipush 255, 3) := by decide +kernel
theorem dJ5_charAt_5068e_39 : decode cJ5_charAt_5068e 39 = .ok (.iand, 1) := by decide +kernel
theorem dJ5_charAt_5068e_40 : decode cJ5_charAt_5068e 40 = .ok (.i2c, 1) := by decide +kernel
theorem dJ5_charAt_5068e_41 : decode cJ5_charAt_5068e 41 = .ok (.ireturn, 1) := by decide +kernel
theorem dJ5_charAt_5068e_42 : decode cJ5_charAt_5068e 42 = .ok (.aload_n 3, 1) := by decide +kernel
theorem dJ5_charAt_5068e_43 : decode cJ5_charAt_5068e 43 = .ok (.iload_n 1, 1) := by decide +kernel
theorem dJ5_charAt_5068e_44 : decode cJ5_charAt_5068e 44 = .ok (.invokestatic 148, 3) := by decide +kernel
theorem dJ5_charAt_5068e_47 : decode cJ5_charAt_5068e 47 = .ok (.ireturn, 1) := by decide +kernel
theorem dJ5_append_cf1ce_0 : decode cJ5_append_cf1ce 0 = .ok (.aload_n 1, 1) := by decide +kernel
theorem dJ5_append_cf1ce_1 : decode cJ5_append_cf1ce 1 = .ok (.ifnonnull 8, 3) := by decide +kernel
theorem dJ5_append_cf1ce_4 : decode cJ5_append_cf1ce 4 = .ok (.aload_n 0, 1) := by decide +kernel
theorem dJ5_append_cf1ce_5 : decode cJ5_append_cf1ce 5 = .ok (.invokevirtual 204, 3) := by decide +kernel
theorem dJ5_append_cf1ce_8 : decode cJ5_append_cf1ce 8 = .ok (.areturn, 1) := by decide +kernel
theorem dJ5_append_cf1ce_9 : decode cJ5_append_cf1ce 9 = .ok (.aload_n 1, 1) := by decide +kernel
theorem dJ5_append_cf1ce_10 : decode cJ5_append_cf1ce 10 = .ok (.invokevirtual 32, 3) := by decide +kernel
theorem dJ5_append_cf1ce_13 : decode cJ5_append_cf1ce 13 = .ok (.istore_n 2, 1) := by decide +kernel
theorem dJ5_append_cf1ce_14 : decode cJ5_append_cf1ce 14 = .ok (.aload_n 0, 1) := by decide +kernel
theorem dJ5_append_cf1ce_15 : decode cJ5_append_cf1ce 15 = .ok (.aload_n 0, 1) := by decide +kernel
theorem dJ5_append_cf1ce_16 : decode cJ5_append_cf1ce 16 = .ok (.getfield 79, 3) := by decide +kernel
theorem dJ5_append_cf1ce_19 : decode cJ5_append_cf1ce 19 = .ok (.iload_n 2, 1) := by decide +kernel
theorem dJ5_append_cf1ce_20 : decode cJ5_append_cf1ce 20 = .ok (.iadd, 1) := by decide +kernel
theorem dJ5_append_cf1ce_21 : decode cJ5_append_cf1ce 21 = .ok (.invokevirtual 100, 3) := by decide +kernel
theorem dJ5_append_cf1ce_24 : decode cJ5_append_cf1ce 24 = .ok (.aload_n 0, 1) := by decide +kernel
theorem dJ5_append_cf1ce_25 : decode cJ5_append_cf1ce 25 = .ok (.aload_n 0, 1) := by decide +kernel
theorem dJ5_append_cf1ce_26 : decode cJ5_append_cf1ce 26 = .ok (.getfield 79, 3) := by decide +kernel
theorem dJ5_append_cf1ce_29 : decode cJ5_append_cf1ce 29 = .ok (.aload_n 1, 1) := by decide +kernel
theorem dJ5_append_cf1ce_30 : decode cJ5_append_cf1ce 30 = .ok (.invokevirtual 208, 3) := by decide +kernel
theorem dJ5_append_cf1ce_33 : decode cJ5_append_cf1ce 33 = .ok (.aload_n 0, 1) := by decide +kernel
theorem dJ5_append_cf1ce_34 : decode cJ5_append_cf1ce 34 = .ok (.dup, 1) := by decide +kernel
theorem dJ5_append_cf1ce_35 : decode cJ5_append_cf1ce 35 = .ok (.getfield 79, 3) := by decide +kernel
theorem dJ5_append_cf1ce_38 : decode cJ5_append_cf1ce 38 = .ok (.iload_n 2, 1) := by decide +kernel
theorem dJ5_append_cf1ce_39 : decode cJ5_append_cf1ce 39 = .ok (.iadd, 1) := by decide +kernel
theorem dJ5_append_cf1ce_40 : decode cJ5_append_cf1ce 40 = .ok (.putfield 79, 3) := by decide +kernel
theorem dJ5_append_cf1ce_43 : decode cJ5_append_cf1ce 43 = .ok (.aload_n 0, 1) := by decide +kernel
theorem dJ5_append_cf1ce_44 : decode cJ5_append_cf1ce 44 = .ok (.areturn, 1) := by decide +kernel
theorem dJ5_appendNull_278bc_0 : decode cJ5_appendNull_278bc 0 = .ok (.aload_n 0, 1) := by decide +kernel
theorem dJ5_appendNull_278bc_1 : decode cJ5_appendNull_278bc 1 = .ok (.aload_n 0, 1) := by decide +kernel
theorem dJ5_appendNull_278bc_2 : decode cJ5_appendNull_278bc 2 = .ok (.getfield 79, 3) := by decide +kernel
theorem dJ5_appendNull_278bc_5 : decode cJ5_appendNull_278bc 5 = .ok (.iconst 4, 1) := by decide +kernel
theorem dJ5_appendNull_278bc_6 : decode cJ5_appendNull_278bc 6 = .ok (.iadd, 1) := by decide +kernel
theorem dJ5_appendNull_278bc_7 : decode cJ5_appendNull_278bc 7 = .ok (.invokevirtual 100, 3) := by decide +kernel
theorem dJ5_appendNull_278bc_10 : decode cJ5_appendNull_278bc 10 = .ok (.aload_n 0, 1) := by decide +kernel
theorem dJ5_appendNull_278bc_11 : decode cJ5_appendNull_278bc 11 = .ok (.getfield 79, 3) := by decide +kernel
theorem dJ5_appendNull_278bc_14 : decode cJ5_appendNull_278bc 14 = .ok (.istore_n 1, 1) := by decide +kernel
theorem dJ5_appendNull_278bc_15 : decode cJ5_appendNull_278bc 15 = .ok (.aload_n 0, 1) := by decide +kernel
theorem dJ5_appendNull_278bc_16 : decode cJ5_appendNull_278bc 16 = .ok (.getfield 15, 3) := by decide +kernel
theorem dJ5_appendNull_278bc_19 : decode cJ5_appendNull_278bc 19 = .ok (.astore_n 2, 1) := by decide +kernel
theorem dJ5_appendNull_278bc_20 : decode cJ5_appendNull_278bc 20 = .ok (.aload_n 0, 1) := by decide +kernel
theorem dJ5_appendNull_278bc_21 : decode cJ5_appendNull_278bc 21 = .ok (.invokevirtual 83, 3) := by decide +kernel
theorem dJ5_appendNull_278bc_24 : decode cJ5_appendNull_278bc 24 = .ok (.ifCond .eq 38, 3) := by decide +kernel
theorem dJ5_appendNull_278bc_27 : decode cJ5_appendNull_278bc 27 = .ok (.aload_n 2, 1) := by decide +kernel
theorem dJ5_appendNull_278bc_28 : decode cJ5_appendNull_278bc 28 = .ok (.iload_n 1, 1) := by decide +kernel
theorem dJ5_appendNull_278bc_29 : decode cJ5_appendNull_278bc 29 = .ok (.iinc 1 1, 3) := by decide +kernel
theorem dJ5_appendNull_278bc_32 : decode cJ5_appendNull_278bc 32 = .ok (.bipush 110, 2) := by decide +kernel
theorem dJ5_appendNull_278bc_34 : decode cJ5_appendNull_278bc 34 = .ok (.bastore, 1) := by decide +kernel
theorem dJ5_appendNull_278bc_35 : decode cJ5_appendNull_278bc 35 = .ok (.aload_n 2, 1) := by decide +kernel
theorem dJ5_appendNull_278bc_36 : decode cJ5_appendNull_278bc 36 = .ok (.iload_n 1, 1) := by decide +kernel
theorem dJ5_appendNull_278bc_37 : decode cJ5_appendNull_278bc 37 = .ok (.iinc 1 1, 3) := by decide +kernel
theorem dJ5_appendNull_278bc_40 : decode cJ5_appendNull_278bc 40 = .ok (.bipush 117, 2) := by decide +kernel
theorem dJ5_appendNull_278bc_42 : decode cJ5_appendNull_278bc 42 = .ok (.bastore, 1) := by decide +kernel
theorem dJ5_appendNull_278bc_43 : decode cJ5_appendNull_278bc 43 = .ok (.aload_n 2, 1) := by decide +kernel
theorem dJ5_appendNull_278bc_44 : decode cJ5_appendNull_278bc 44 = .ok (.iload_n 1, 1) := by decide +kernel
theorem dJ5_appendNull_278bc_45 : decode cJ5_appendNull_278bc 45 = .ok (.iinc 1 1, 3) := by decide +kernel
theorem dJ5_appendNull_278bc_48 : decode cJ5_appendNull_278bc 48 = .ok (.bipush 108, 2) := by decide +kernel
theorem dJ5_appendNull_278bc_50 : decode cJ5_appendNull_278bc 50 = .ok (.bastore, 1) := by decide +kernel
theorem dJ5_appendNull_278bc_51 : decode cJ5_appendNull_278bc 51 = .ok (.aload_n 2, 1) := by decide +kernel
theorem dJ5_appendNull_278bc_52 : decode cJ5_appendNull_278bc 52 = .ok (.iload_n 1, 1) := by decide +kernel
theorem dJ5_appendNull_278bc_53 : decode cJ5_appendNull_278bc 53 = .ok (.iinc 1 1, 3) := by decide +kernel
theorem dJ5_appendNull_278bc_56 : decode cJ5_appendNull_278bc 56 = .ok (.bipush 108, 2) := by decide +kernel
theorem dJ5_appendNull_278bc_58 : decode cJ5_appendNull_278bc 58 = .ok (.bastore, 1) := by decide +kernel
theorem dJ5_appendNull_278bc_59 : decode cJ5_appendNull_278bc 59 = .ok (.goto 17, 3) := by decide +kernel
theorem dJ5_appendNull_278bc_62 : decode cJ5_appendNull_278bc 62 = .ok (.aload_n 2, 1) := by decide +kernel
theorem dJ5_appendNull_278bc_63 : decode cJ5_appendNull_278bc 63 = .ok (.iload_n 1, 1) := by decide +kernel
theorem dJ5_appendNull_278bc_64 : decode cJ5_appendNull_278bc 64 = .ok (.bipush 110, 2) := by decide +kernel
theorem dJ5_appendNull_278bc_66 : decode cJ5_appendNull_278bc 66 = .ok (.bipush 117, 2) := by decide +kernel
theorem dJ5_appendNull_278bc_68 : decode cJ5_appendNull_278bc 68 = .ok (.bipush 108, 2) := by decide +kernel
theorem dJ5_appendNull_278bc_70 : decode cJ5_appendNull_278bc 70 = .ok (.bipush 108, 2) := by decide +kernel
theorem dJ5_appendNull_278bc_72 : decode cJ5_appendNull_278bc 72 = .ok (.invokestatic 226, 3) := by decide +kernel
theorem dJ5_appendNull_278bc_75 : decode cJ5_appendNull_278bc 75 = .ok (.istore_n 1, 1) := by decide +kernel
theorem dJ5_appendNull_278bc_76 : decode cJ5_appendNull_278bc 76 = .ok (.aload_n 0, 1) := by decide +kernel
theorem dJ5_appendNull_278bc_77 : decode cJ5_appendNull_278bc 77 = .ok (.iload_n 1, 1) := by decide +kernel
theorem dJ5_appendNull_278bc_78 : decode cJ5_appendNull_278bc 78 = .ok (.putfield 79, 3) := by decide +kernel
theorem dJ5_appendNull_278bc_81 : decode cJ5_appendNull_278bc 81 = .ok (.aload_n 0, 1) := by decide +kernel
theorem dJ5_appendNull_278bc_82 : decode cJ5_appendNull_278bc 82 = .ok (.areturn, 1) := by decide +kernel
theorem dJ5_append_3fe6f_0 : decode cJ5_append_3fe6f 0 = .ok (.aload_n 0, 1) := by decide +kernel
theorem dJ5_append_3fe6f_1 : decode cJ5_append_3fe6f 1 = .ok (.aload_n 0, 1) := by decide +kernel
theorem dJ5_append_3fe6f_2 : decode cJ5_append_3fe6f 2 = .ok (.getfield 79, 3) := by decide +kernel
theorem dJ5_append_3fe6f_5 : decode cJ5_append_3fe6f 5 = .ok (.iconst 1, 1) := by decide +kernel
theorem dJ5_append_3fe6f_6 : decode cJ5_append_3fe6f 6 = .ok (.iadd, 1) := by decide +kernel
theorem dJ5_append_3fe6f_7 : decode cJ5_append_3fe6f 7 = .ok (.invokevirtual 100, 3) := by decide +kernel
theorem dJ5_append_3fe6f_10 : decode cJ5_append_3fe6f 10 = .ok (.aload_n 0, 1) := by decide +kernel
theorem dJ5_append_3fe6f_11 : decode cJ5_append_3fe6f 11 = .ok (.invokevirtual 83, 3) := by decide +kernel
theorem dJ5_append_3fe6f_14 : decode cJ5_append_3fe6f 14 = .ok (.ifCond .eq 31, 3) := by decide +kernel
theorem dJ5_append_3fe6f_17 : decode cJ5_append_3fe6f 17 = .ok (.iload_n 1, 1) := by decide +kernel
theorem dJ5_append_3fe6f_18 : decode cJ5_append_3fe6f 18 = .ok (.invokestatic 191, 3) := by decide +kernel
theorem dJ5_append_3fe6f_21 : decode cJ5_append_3fe6f 21 = .ok (.ifCond .eq 24, 3) := by decide +kernel
theorem dJ5_append_3fe6f_24 : decode cJ5_append_3fe6f 24 = .ok (.aload_n 0, 1) := by decide +kernel
theorem dJ5_append_3fe6f_25 : decode cJ5_append_3fe6f 25 = .ok (.getfield 15, 3) := by decide +kernel
theorem dJ5_append_3fe6f_28 : decode cJ5_append_3fe6f 28 = .ok (.aload_n 0, 1) := by decide +kernel
theorem dJ5_append_3fe6f_29 : decode cJ5_append_3fe6f 29 = .ok (.dup, 1) := by decide +kernel
theorem dJ5_append_3fe6f_30 : decode cJ5_append_3fe6f 30 = .ok (.getfield 79, 3) := by decide +kernel
theorem dJ5_append_3fe6f_33 : decode cJ5_append_3fe6f 33 = .ok (.dup_x1, 1) := by decide +kernel
theorem dJ5_append_3fe6f_34 : decode cJ5_append_3fe6f 34 = .ok (.iconst 1, 1) := by decide +kernel
theorem dJ5_append_3fe6f_35 : decode cJ5_append_3fe6f 35 = .ok (.iadd, 1) := by decide +kernel
theorem dJ5_append_3fe6f_36 : decode cJ5_append_3fe6f 36 = .ok (.putfield 79, 3) := by decide +kernel
theorem dJ5_append_3fe6f_39 : decode cJ5_append_3fe6f 39 = .ok (.iload_n 1, 1) := by decide +kernel
theorem dJ5_append_3fe6f_40 : decode cJ5_append_3fe6f 40 = .ok (.i2b, 1) := by decide +kernel
theorem dJ5_append_3fe6f_41 : decode cJ5_append_3fe6f 41 = .ok (.bastore, 1) := by decide +kernel
theorem dJ5_append_3fe6f_42 : decode cJ5_append_3fe6f 42 = .ok (.goto 33, 3) := by decide +kernel
theorem dJ5_append_3fe6f_45 : decode cJ5_append_3fe6f 45 = .ok (.aload_n 0, 1) := by decide +kernel
theorem dJ5_append_3fe6f_46 : decode cJ5_append_3fe6f 46 = .ok (.invokevirtual 83, 3) := by decide +kernel
theorem dJ5_append_3fe6f_49 : decode cJ5_append_3fe6f 49 = .ok (.ifCond .eq 7, 3) := by decide +kernel
theorem dJ5_append_3fe6f_52 : decode cJ5_append_3fe6f 52 = .ok (.aload_n 0, 1) := by decide +kernel
theorem dJ5_append_3fe6f_53 : decode cJ5_append_3fe6f 53 = .ok (.invokevirtual 195, 3) := by decide +kernel
theorem dJ5_append_3fe6f_56 : decode cJ5_append_3fe6f 56 = .ok (.aload_n 0, 1) := by decide +kernel
theorem dJ5_append_3fe6f_57 : decode cJ5_append_3fe6f 57 = .ok (.getfield 15, 3) := by decide +kernel
theorem dJ5_append_3fe6f_60 : decode cJ5_append_3fe6f 60 = .ok (.aload_n 0, 1) := by decide +kernel
theorem dJ5_append_3fe6f_61 : decode cJ5_append_3fe6f 61 = .ok (.dup, 1) := by decide +kernel
theorem dJ5_append_3fe6f_62 : decode cJ5_append_3fe6f 62 = .ok (.getfield 79, 3) := by decide +kernel
theorem dJ5_append_3fe6f_65 : decode cJ5_append_3fe6f 65 = .ok (.dup_x1, 1) := by decide +kernel
theorem dJ5_append_3fe6f_66 : decode cJ5_append_3fe6f 66 = .ok (.iconst 1, 1) := by decide +kernel
theorem dJ5_append_3fe6f_67 : decode cJ5_append_3fe6f 67 = .ok (.iadd, 1) := by decide +kernel
theorem dJ5_append_3fe6f_68 : decode cJ5_append_3fe6f 68 = .ok (.putfield 79, 3) := by decide +kernel
theorem dJ5_append_3fe6f_71 : decode cJ5_append_3fe6f 71 = .ok (.iload_n 1, 1) := by decide +kernel
theorem dJ5_append_3fe6f_72 : decode cJ5_append_3fe6f 72 = .ok (.invokestatic 197, 3) := by decide +kernel
theorem dJ5_append_3fe6f_75 : decode cJ5_append_3fe6f 75 = .ok (.aload_n 0, 1) := by decide +kernel
theorem dJ5_append_3fe6f_76 : decode cJ5_append_3fe6f 76 = .ok (.areturn, 1) := by decide +kernel
theorem dJ5_append_c97b9_0 : decode cJ5_append_c97b9 0 = .ok (.aload_n 0, 1) := by decide +kernel
theorem dJ5_append_c97b9_1 : decode cJ5_append_c97b9 1 = .ok (.getfield 79, 3) := by decide +kernel
theorem dJ5_append_c97b9_4 : decode cJ5_append_c97b9 4 = .ok (.istore_n 2, 1) := by decide +kernel
theorem dJ5_append_c97b9_5 : decode cJ5_append_c97b9 5 = .ok (.iload_n 2, 1) := by decide +kernel
theorem dJ5_append_c97b9_6 : decode cJ5_append_c97b9 6 = .ok (.iload_n 1, 1) := by decide +kernel
theorem dJ5_append_c97b9_7 : decode cJ5_append_c97b9 7 = .ok (.invokestatic 245, 3) := by decide +kernel
theorem dJ5_append_c97b9_10 : decode cJ5_append_c97b9 10 = .ok (.iadd, 1) := by decide +kernel
theorem dJ5_append_c97b9_11 : decode cJ5_append_c97b9 11 = .ok (.istore_n 3, 1) := by decide +kernel
theorem dJ5_append_c97b9_12 : decode cJ5_append_c97b9 12 = .ok (.aload_n 0, 1) := by decide +kernel
theorem dJ5_append_c97b9_13 : decode cJ5_append_c97b9 13 = .ok (.iload_n 3, 1) := by decide +kernel
theorem dJ5_append_c97b9_14 : decode cJ5_append_c97b9 14 = .ok (.invokevirtual 100, 3) := by decide +kernel
theorem dJ5_append_c97b9_17 : decode cJ5_append_c97b9 17 = .ok (.aload_n 0, 1) := by decide +kernel
theorem dJ5_append_c97b9_18 : decode cJ5_append_c97b9 18 = .ok (.invokevirtual 83, 3) := by decide +kernel
theorem dJ5_append_c97b9_21 : decode cJ5_append_c97b9 21 = .ok (.ifCond .eq 16, 3) := by decide +kernel
theorem dJ5_append_c97b9_24 : decode cJ5_append_c97b9 24 = .ok (.iload_n 1, 1) := by decide +kernel
theorem dJ5_append_c97b9_25 : decode cJ5_append_c97b9 25 = .ok (.iload_n 3, 1) := by decide +kernel
theorem dJ5_append_c97b9_26 : decode cJ5_append_c97b9 26 = .ok (.aload_n 0, 1) := by decide +kernel
theorem dJ5_append_c97b9_27 : decode cJ5_append_c97b9 27 = .ok (.getfield 15, 3) := by decide +kernel
theorem dJ5_append_c97b9_30 : decode cJ5_append_c97b9 30 = .ok (.invokestatic 248, 3) := by decide +kernel
theorem dJ5_append_c97b9_33 : decode cJ5_append_c97b9 33 = .ok (.pop, 1) := by decide +kernel
theorem dJ5_append_c97b9_34 : decode cJ5_append_c97b9 34 = .ok (.goto 14, 3) := by decide +kernel
theorem dJ5_append_c97b9_37 : decode cJ5_append_c97b9 37 = .ok (.iload_n 1, 1) := by decide +kernel
theorem dJ5_append_c97b9_38 : decode cJ5_append_c97b9 38 = .ok (.iload_n 2, 1) := by decide +kernel
theorem dJ5_append_c97b9_39 : decode cJ5_append_c97b9 39 = .ok (.iload_n 3, 1) := by decide +kernel
theorem dJ5_append_c97b9_40 : decode cJ5_append_c97b9 40 = .ok (.aload_n 0, 1) := by decide +kernel
theorem dJ5_append_c97b9_41 : decode cJ5_append_c97b9 41 = .ok (.getfield 15, 3) := by decide +kernel
theorem dJ5_append_c97b9_44 : decode cJ5_append_c97b9 44 = .ok (.invokestatic 251, 3) := by decide +kernel
theorem dJ5_append_c97b9_47 : decode cJ5_append_c97b9 47 = .ok (.pop, 1) := by decide +kernel
theorem dJ5_append_c97b9_48 : decode cJ5_append_c97b9 48 = .ok (.aload_n 0, 1) := by decide +kernel
theorem dJ5_append_c97b9_49 : decode cJ5_append_c97b9 49 = .ok (.iload_n 3, 1) := by decide +kernel
theorem dJ5_append_c97b9_50 : decode cJ5_append_c97b9 50 = .ok (.putfield 79, 3) := by decide +kernel
theorem dJ5_append_c97b9_53 : decode cJ5_append_c97b9 53 = .ok (.aload_n 0, 1) := by decide +kernel
theorem dJ5_append_c97b9_54 : decode cJ5_append_c97b9 54 = .ok (.areturn, 1) := by decide +kernel
theorem dJ5_getValue_6d5f1_0 : decode cJ5_getValue_6d5f1 0 = .ok (.aload_n 0, 1) := by decide +kernel
theorem dJ5_getValue_6d5f1_1 : decode cJ5_getValue_6d5f1 1 = .ok (.getfield 15, 3) := by decide +kernel
theorem dJ5_getValue_6d5f1_4 : decode cJ5_getValue_6d5f1 4 = .ok (.areturn, 1) := by decide +kernel
theorem dJ5_isLatin1_aae02_0 : decode cJ5_isLatin1_aae02 0 = .ok (.getstatic 18, 3) := by decide +kernel
theorem dJ5_isLatin1_aae02_3 : decode cJ5_isLatin1_aae02 3 = .ok (.ifCond .eq 14, 3) := by decide +kernel
theorem dJ5_isLatin1_aae02_6 : decode cJ5_isLatin1_aae02 6 = .ok (.aload_n 0, 1) := by decide +kernel
theorem dJ5_isLatin1_aae02_7 : decode cJ5_isLatin1_aae02 7 = .ok (.getfield 22, 3) := by decide +kernel
theorem dJ5_isLatin1_aae02_10 : decode cJ5_isLatin1_aae02 10 = .ok (.ifCond .ne 7, 3) := by decide +kernel
theorem dJ5_isLatin1_aae02_13 : decode cJ5_isLatin1_aae02 13 = .ok (.iconst 1, 1) := by decide +kernel
theorem dJ5_isLatin1_aae02_14 : decode cJ5_isLatin1_aae02 14 = .ok (.goto 4, 3) := by decide +kernel
theorem dJ5_isLatin1_aae02_17 : decode cJ5_isLatin1_aae02 17 = .ok (.iconst 0, 1) := by decide +kernel
theorem dJ5_isLatin1_aae02_18 : decode cJ5_isLatin1_aae02 18 = .ok (.ireturn, 1) := by decide +kernel
theorem dJ5_putStringAt_47b60_0 : decode cJ5_putStringAt_47b60 0 = .ok (.aload_n 0, 1) := by decide +kernel
theorem dJ5_putStringAt_47b60_1 : decode cJ5_putStringAt_47b60 1 = .ok (.aload_n 2, 1) := by decide +kernel
theorem dJ5_putStringAt_47b60_2 : decode cJ5_putStringAt_47b60 2 = .ok (.invokevirtual 397, 3) := by decide +kernel
theorem dJ5_putStringAt_47b60_5 : decode cJ5_putStringAt_47b60 5 = .ok (.aload_n 2, 1) := by decide +kernel
theorem dJ5_putStringAt_47b60_6 : decode cJ5_putStringAt_47b60 6 = .ok (.aload_n 0, 1) := by decide +kernel
theorem dJ5_putStringAt_47b60_7 : decode cJ5_putStringAt_47b60 7 = .ok (.getfield 15, 3) := by decide +kernel
theorem dJ5_putStringAt_47b60_10 : decode cJ5_putStringAt_47b60 10 = .ok (.iload_n 1, 1) := by decide +kernel
theorem dJ5_putStringAt_47b60_11 : decode cJ5_putStringAt_47b60 11 = .ok (.aload_n 0, 1) := by decide +kernel
theorem dJ5_putStringAt_47b60_12 : decode cJ5_putStringAt_47b60 12 = .ok (.getfield 22, 3) := by decide +kernel
theorem dJ5_putStringAt_47b60_15 : decode cJ5_putStringAt_47b60 15 = .ok (.invokevirtual 399, 3) := by decide +kernel
theorem dJ5_putStringAt_47b60_18 : decode cJ5_putStringAt_47b60 18 = .ok (.return_, 1) := by decide +kernel
theorem dJ6_getChars_ba4f3_0 : decode cJ6_getChars_ba4f3 0 = .ok (.iload_n 1, 1) := by decide +kernel
theorem dJ6_getChars_ba4f3_1 : decode cJ6_getChars_ba4f3 1 = .ok (.istore 5, 2) := by decide +kernel
theorem dJ6_getChars_ba4f3_3 : decode cJ6_getChars_ba4f3 3 = .ok (.iload_n 0, 1) := by decide +kernel
theorem dJ6_getChars_ba4f3_4 : decode cJ6_getChars_ba4f3 4 = .ok (.ifCond .ge 7, 3) := by decide +kernel
theorem dJ6_getChars_ba4f3_7 : decode cJ6_getChars_ba4f3 7 = .ok (.iconst 1, 1) := by decide +kernel
theorem dJ6_getChars_ba4f3_8 : decode cJ6_getChars_ba4f3 8 = .ok (.goto 4, 3) := by decide +kernel
theorem dJ6_getChars_ba4f3_11 : decode cJ6_getChars_ba4f3 11 = .ok (.iconst 0, 1) := by decide +kernel
theorem dJ6_getChars_ba4f3_12 : decode cJ6_getChars_ba4f3 12 = .ok (.istore 6, 2) := by decide +kernel
theorem dJ6_getChars_ba4f3_14 : decode cJ6_getChars_ba4f3 14 = .ok (.iload 6, 2) := by decide +kernel
theorem dJ6_getChars_ba4f3_16 : decode cJ6_getChars_ba4f3 16 = .ok (.ifCond .ne 6, 3) := by decide +kernel
theorem dJ6_getChars_ba4f3_19 : decode cJ6_getChars_ba4f3 19 = .ok (.iload_n 0, 1) := by decide +kernel
theorem dJ6_getChars_ba4f3_20 : decode cJ6_getChars_ba4f3 20 = .ok (.ineg, 1) := by decide +kernel
theorem dJ6_getChars_ba4f3_21 : decode cJ6_getChars_ba4f3 21 = .ok (.istore_n 0, 1) := by decide +kernel
theorem dJ6_getChars_ba4f3_22 : decode cJ6_getChars_ba4f3 22 = .ok (.iload_n 0, 1) := by decide +kernel
theorem dJ6_getChars_ba4f3_23 : decode cJ6_getChars_ba4f3 23 = .ok (.bipush (-100), 2) := by decide +kernel
theorem dJ6_getChars_ba4f3_25 : decode cJ6_getChars_ba4f3 25 = .ok (.if_icmp .gt 47, 3) := by decide +kernel
theorem dJ6_getChars_ba4f3_28 : decode cJ6_getChars_ba4f3 28 = .ok (.iload_n 0, 1) := by decide +kernel
theorem dJ6_getChars_ba4f3_29 : decode cJ6_getChars_ba4f3 29 = .ok (.bipush 100, 2) := by decide +kernel
theorem dJ6_getChars_ba4f3_31 : decode cJ6_getChars_ba4f3 31 = .ok (.idiv, 1) := by decide +kernel
theorem dJ6_getChars_ba4f3_32 : decode cJ6_getChars_ba4f3 32 = .ok (.istore_n 3, 1) := by decide +kernel
theorem dJ6_getChars_ba4f3_33 : decode cJ6_getChars_ba4f3 33 = .ok (.iload_n 3, 1) := by decide +kernel
theorem dJ6_getChars_ba4f3_34 : decode cJ6_getChars_ba4f3 34 = .ok (.bipush 100, 2) := by decide +kernel
theorem dJ6_getChars_ba4f3_36 : decode cJ6_getChars_ba4f3 36 = .ok (.imul, 1) := by decide +kernel
theorem dJ6_getChars_ba4f3_37 : decode cJ6_getChars_ba4f3 37 = .ok (.iload_n 0, 1) := by decide +kernel
theorem dJ6_getChars_ba4f3_38 : decode cJ6_getChars_ba4f3 38 = .ok (.isub, 1) := by decide +kernel
theorem dJ6_getChars_ba4f3_39 : decode cJ6_getChars_ba4f3 39 = .ok (.istore 4, 2) := by decide +kernel
theorem dJ6_getChars_ba4f3_41 : decode cJ6_getChars_ba4f3 41 = .ok (.iload_n 3, 1) := by decide +kernel
theorem dJ6_getChars_ba4f3_42 : decode cJ6_getChars_ba4f3 42 = .ok (.istore_n 0, 1) := by decide +kernel
theorem dJ6_getChars_ba4f3_43 : decode cJ6_getChars_ba4f3 43 = .ok (.aload_n 2, 1) := by decide +kernel
theorem dJ6_getChars_ba4f3_44 : decode cJ6_getChars_ba4f3 44 = .ok (.iinc 5 (-1), 3) := by decide +kernel
theorem dJ6_getChars_ba4f3_47 : decode cJ6_getChars_ba4f3 47 = .ok (.iload 5, 2) := by decide +kernel
theorem dJ6_getChars_ba4f3_49 : decode cJ6_getChars_ba4f3 49 = .ok (.getstatic 83, 3) := by decide +kernel
theorem dJ6_getChars_ba4f3_52 : decode cJ6_getChars_ba4f3 52 = .ok (.iload 4, 2) := by decide +kernel
theorem dJ6_getChars_ba4f3_54 : decode cJ6_getChars_ba4f3 54 = .ok (.baload, 1) := by decide +kernel
theorem dJ6_getChars_ba4f3_55 : decode cJ6_getChars_ba4f3 55 = .ok (.bastore, 1) := by decide +kernel
theorem dJ6_getChars_ba4f3_56 : decode cJ6_getChars_ba4f3 56 = .ok (.aload_n 2, 1) := by decide +kernel
theorem dJ6_getChars_ba4f3_57 : decode cJ6_getChars_ba4f3 57 = .ok (.iinc 5 (-1), 3) := by decide +kernel
theorem dJ6_getChars_ba4f3_60 : decode cJ6_getChars_ba4f3 60 = .ok (.iload 5, 2) := by decide +kernel
theorem dJ6_getChars_ba4f3_62 : decode cJ6_getChars_ba4f3 62 = .ok (.getstatic 87, 3) := by decide +kernel
theorem dJ6_getChars_ba4f3_65 : decode cJ6_getChars_ba4f3 65 = .ok (.iload 4, 2) := by decide +kernel
theorem dJ6_getChars_ba4f3_67 : decode cJ6_getChars_ba4f3 67 = .ok (.baload, 1) := by decide +kernel
theorem dJ6_getChars_ba4f3_68 : decode cJ6_getChars_ba4f3 68 = .ok (.bastore, 1) := by decide +kernel
theorem dJ6_getChars_ba4f3_69 : decode cJ6_getChars_ba4f3 69 = .ok (.goto (-47), 3) := by decide +kernel
theorem dJ6_getChars_ba4f3_72 : decode cJ6_getChars_ba4f3 72 = .ok (.aload_n 2, 1) := by decide +kernel
theorem dJ6_getChars_ba4f3_73 : decode cJ6_getChars_ba4f3 73 = .ok (.iinc 5 (-1), 3) := by decide +kernel
theorem dJ6_getChars_ba4f3_76 : decode cJ6_getChars_ba4f3 76 = .ok (.iload 5, 2) := by decide +kernel
theorem dJ6_getChars_ba4f3_78 : decode cJ6_getChars_ba4f3 78 = .ok (.getstatic 83, 3) := by decide +kernel
theorem dJ6_getChars_ba4f3_81 : decode cJ6_getChars_ba4f3 81 = .ok (.iload_n 0, 1) := by decide +kernel
theorem dJ6_getChars_ba4f3_82 : decode cJ6_getChars_ba4f3 82 = .ok (.ineg, 1) := by decide +kernel
theorem dJ6_getChars_ba4f3_83 : decode cJ6_getChars_ba4f3 83 = .ok (.baload, 1) := by decide +kernel
theorem dJ6_getChars_ba4f3_84 : decode cJ6_getChars_ba4f3 84 = .ok (.bastore, 1) := by decide +kernel
theorem dJ6_getChars_ba4f3_85 : decode cJ6_getChars_ba4f3 85 = .ok (.iload_n 0, 1) := by decide +kernel
theorem dJ6_getChars_ba4f3_86 : decode cJ6_getChars_ba4f3 86 = .ok (.bipush (-9), 2) := by decide +kernel
theorem dJ6_getChars_ba4f3_88 : decode cJ6_getChars_ba4f3 88 = .ok (.if_icmp .ge 16, 3) := by decide +kernel
theorem dJ6_getChars_ba4f3_91 : decode cJ6_getChars_ba4f3 91 = .ok (.aload_n 2, 1) := by decide +kernel
theorem dJ6_getChars_ba4f3_92 : decode cJ6_getChars_ba4f3 92 = .ok (.iinc 5 (-1), 3) := by decide +kernel
theorem dJ6_getChars_ba4f3_95 : decode cJ6_getChars_ba4f3 95 = .ok (.iload 5, 2) := by decide +kernel
theorem dJ6_getChars_ba4f3_97 : decode cJ6_getChars_ba4f3 97 = .ok (.getstatic 87, 3) := by decide +kernel
theorem dJ6_getChars_ba4f3_100 : decode cJ6_getChars_ba4f3 100 = .ok (.iload_n 0, 1) := by decide +kernel
theorem dJ6_getChars_ba4f3_101 : decode cJ6_getChars_ba4f3 101 = .ok (.ineg, 1) := by decide +kernel
theorem dJ6_getChars_ba4f3_102 : decode cJ6_getChars_ba4f3 102 = .ok (.baload, 1) := by decide +kernel
theorem dJ6_getChars_ba4f3_103 : decode cJ6_getChars_ba4f3 103 = .ok (.bastore, 1) := by decide +kernel
theorem dJ6_getChars_ba4f3_104 : decode cJ6_getChars_ba4f3 104 = .ok (.iload 6, 2) := by decide +kernel
theorem dJ6_getChars_ba4f3_106 : decode cJ6_getChars_ba4f3 106 = .ok (.ifCond .eq 12, 3) := by decide +kernel
theorem dJ6_getChars_ba4f3_109 : decode cJ6_getChars_ba4f3 109 = .ok (.aload_n 2, 1) := by decide +kernel
theorem dJ6_getChars_ba4f3_110 : decode cJ6_getChars_ba4f3 110 = .ok (.iinc 5 (-1), 3) := by decide +kernel
theorem dJ6_getChars_ba4f3_113 : decode cJ6_getChars_ba4f3 113 = .ok (.iload 5, 2) := by decide +kernel
theorem dJ6_getChars_ba4f3_115 : decode cJ6_getChars_ba4f3 115 = .ok (.bipush 45, 2) := by decide +kernel
theorem dJ6_getChars_ba4f3_117 : decode cJ6_getChars_ba4f3 117 = .ok (.bastore, 1) := by decide +kernel
theorem dJ6_getChars_ba4f3_118 : decode cJ6_getChars_ba4f3 118 = .ok (.iload 5, 2) := by decide +kernel
theorem dJ6_getChars_ba4f3_120 : decode cJ6_getChars_ba4f3 120 = .ok (.ireturn, 1) := by decide +kernel
theorem dJ6_stringSize_0f7a4_0 : decode cJ6_stringSize_0f7a4 0 = .ok (.iconst 1, 1) := by decide +kernel
theorem dJ6_stringSize_0f7a4_1 : decode cJ6_stringSize_0f7a4 1 = .ok (.istore_n 1, 1) := by decide +kernel
theorem dJ6_stringSize_0f7a4_2 : decode cJ6_stringSize_0f7a4 2 = .ok (.iload_n 0, 1) := by decide +kernel
theorem dJ6_stringSize_0f7a4_3 : decode cJ6_stringSize_0f7a4 3 = .ok (.ifCond .lt 8, 3) := by decide +kernel
theorem dJ6_stringSize_0f7a4_6 : decode cJ6_stringSize_0f7a4 6 = .ok (.iconst 0, 1) := by decide +kernel
theorem dJ6_stringSize_0f7a4_7 : decode cJ6_stringSize_0f7a4 7 = .ok (.istore_n 1, 1) := by decide +kernel
theorem dJ6_stringSize_0f7a4_8 : decode cJ6_stringSize_0f7a4 8 = .ok (.iload_n 0, 1) := by decide +kernel
theorem dJ6_stringSize_0f7a4_9 : decode cJ6_stringSize_0f7a4 9 = .ok (.ineg, 1) := by decide +kernel
theorem dJ6_stringSize_0f7a4_10 : decode cJ6_stringSize_0f7a4 10 = .ok (.istore_n 0, 1) := by decide +kernel
theorem dJ6_stringSize_0f7a4_11 : decode cJ6_stringSize_0f7a4 11 = .ok (.bipush (-10), 2) := by decide +kernel
theorem dJ6_stringSize_0f7a4_13 : decode cJ6_stringSize_0f7a4 13 = .ok (.istore_n 2, 1) := by decide +kernel
theorem dJ6_stringSize_0f7a4_14 : decode cJ6_stringSize_0f7a4 14 = .ok (.iconst 1, 1) := by decide +kernel
theorem dJ6_stringSize_0f7a4_15 : decode cJ6_stringSize_0f7a4 15 = .ok (.istore_n 3, 1) := by decide +kernel
theorem dJ6_stringSize_0f7a4_16 : decode cJ6_stringSize_0f7a4 16 = .ok (.iload_n 3, 1) := by decide +kernel
theorem dJ6_stringSize_0f7a4_17 : decode cJ6_stringSize_0f7a4 17 = .ok (.bipush 10, 2) := by decide +kernel
theorem dJ6_stringSize_0f7a4_19 : decode cJ6_stringSize_0f7a4 19 = .ok (.if_icmp .ge 23, 3) := by decide +kernel
theorem dJ6_stringSize_0f7a4_22 : decode cJ6_stringSize_0f7a4 22 = .ok (.iload_n 0, 1) := by decide +kernel
theorem dJ6_stringSize_0f7a4_23 : decode cJ6_stringSize_0f7a4 23 = .ok (.iload_n 2, 1) := by decide +kernel
theorem dJ6_stringSize_0f7a4_24 : decode cJ6_stringSize_0f7a4 24 = .ok (.if_icmp .le 7, 3) := by decide +kernel
theorem dJ6_stringSize_0f7a4_27 : decode cJ6_stringSize_0f7a4 27 = .ok (.iload_n 3, 1) := by decide +kernel
theorem dJ6_stringSize_0f7a4_28 : decode cJ6_stringSize_0f7a4 28 = .ok (.iload_n 1, 1) := by decide +kernel
theorem dJ6_stringSize_0f7a4_29 : decode cJ6_stringSize_0f7a4 29 = .ok (.iadd, 1) := by decide +kernel
theorem dJ6_stringSize_0f7a4_30 : decode cJ6_stringSize_0f7a4 30 = .ok (.ireturn, 1) := by decide +kernel
theorem dJ6_stringSize_0f7a4_31 : decode cJ6_stringSize_0f7a4 31 = .ok (.bipush 10, 2) := by decide +kernel
theorem dJ6_stringSize_0f7a4_33 : decode cJ6_stringSize_0f7a4 33 = .ok (.iload_n 2, 1) := by decide +kernel
theorem dJ6_stringSize_0f7a4_34 : decode cJ6_stringSize_0f7a4 34 = .ok (.imul, 1) := by decide +kernel
theorem dJ6_stringSize_0f7a4_35 : decode cJ6_stringSize_0f7a4 35 = .ok (.istore_n 2, 1) := by decide +kernel
theorem dJ6_stringSize_0f7a4_36 : decode cJ6_stringSize_0f7a4 36 = .ok (.iinc 3 1, 3) := by decide +kernel
theorem dJ6_stringSize_0f7a4_39 : decode cJ6_stringSize_0f7a4 39 = .ok (.goto (-23), 3) := by decide +kernel
theorem dJ6_stringSize_0f7a4_42 : decode cJ6_stringSize_0f7a4 42 = .ok (.bipush 10, 2) := by decide +kernel
theorem dJ6_stringSize_0f7a4_44 : decode cJ6_stringSize_0f7a4 44 = .ok (.iload_n 1, 1) := by decide +kernel
theorem dJ6_stringSize_0f7a4_45 : decode cJ6_stringSize_0f7a4 45 = .ok (.iadd, 1) := by decide +kernel
theorem dJ6_stringSize_0f7a4_46 : decode cJ6_stringSize_0f7a4 46 = .ok (.ireturn, 1) := by decide +kernel
theorem dJ13_bitCount_95d88_0 : decode cJ13_bitCount_95d88 0 = .ok (.lload_n 0, 1) := by decide +kernel
theorem dJ13_bitCount_95d88_1 : decode cJ13_bitCount_95d88 1 = .ok (.lload_n 0, 1) := by decide +kernel
theorem dJ13_bitCount_95d88_2 : decode cJ13_bitCount_95d88 2 = .ok (.iconst 1, 1) := by decide +kernel
theorem dJ13_bitCount_95d88_3 : decode cJ13_bitCount_95d88 3 = .ok (.lushr, 1) := by decide +kernel
theorem dJ13_bitCount_95d88_4 : decode cJ13_bitCount_95d88 4 = .ok (.ldc2_w 314, 3) := by decide +kernel
theorem dJ13_bitCount_95d88_7 : decode cJ13_bitCount_95d88 7 = .ok (.land, 1) := by decide +kernel
theorem dJ13_bitCount_95d88_8 : decode cJ13_bitCount_95d88 8 = .ok (.lsub, 1) := by decide +kernel
theorem dJ13_bitCount_95d88_9 : decode cJ13_bitCount_95d88 9 = .ok (.lstore_n 0, 1) := by decide +kernel
theorem dJ13_bitCount_95d88_10 : decode cJ13_bitCount_95d88 10 = .ok (.lload_n 0, 1) := by decide +kernel
theorem dJ13_bitCount_95d88_11 : decode cJ13_bitCount_95d88 11 = .ok (.ldc2_w 316, 3) := by decide +kernel
theorem dJ13_bitCount_95d88_14 : decode cJ13_bitCount_95d88 14 = .ok (.land, 1) := by decide +kernel
theorem dJ13_bitCount_95d88_15 : decode cJ13_bitCount_95d88 15 = .ok (.lload_n 0, 1) := by decide +kernel
theorem dJ13_bitCount_95d88_16 : decode cJ13_bitCount_95d88 16 = .ok (.iconst 2, 1) := by decide +kernel
theorem dJ13_bitCount_95d88_17 : decode cJ13_bitCount_95d88 17 = .ok (.lushr, 1) := by decide +kernel
theorem dJ13_bitCount_95d88_18 : decode cJ13_bitCount_95d88 18 = .ok (.ldc2_w 316, 3) := by decide +kernel
theorem dJ13_bitCount_95d88_21 : decode cJ13_bitCount_95d88 21 = .ok (.land, 1) := by decide +kernel
theorem dJ13_bitCount_95d88_22 : decode cJ13_bitCount_95d88 22 = .ok (.ladd, 1) := by decide +kernel
theorem dJ13_bitCount_95d88_23 : decode cJ13_bitCount_95d88 23 = .ok (.lstore_n 0, 1) := by decide +kernel
theorem dJ13_bitCount_95d88_24 : decode cJ13_bitCount_95d88 24 = .ok (.lload_n 0, 1) := by decide +kernel
theorem dJ13_bitCount_95d88_25 : decode cJ13_bitCount_95d88 25 = .ok (.lload_n 0, 1) := by decide +kernel
theorem dJ13_bitCount_95d88_26 : decode cJ13_bitCount_95d88 26 = .ok (.iconst 4, 1) := by decide +kernel
theorem dJ13_bitCount_95d88_27 : decode cJ13_bitCount_95d88 27 = .ok (.lushr, 1) := by decide +kernel
theorem dJ13_bitCount_95d88_28 : decode cJ13_bitCount_95d88 28 = .ok (.ladd, 1) := by decide +kernel
theorem dJ13_bitCount_95d88_29 : decode cJ13_bitCount_95d88 29 = .ok (.ldc2_w 318, 3) := by decide +kernel
theorem dJ13_bitCount_95d88_32 : decode cJ13_bitCount_95d88 32 = .ok (.land, 1) := by decide +kernel
theorem dJ13_bitCount_95d88_33 : decode cJ13_bitCount_95d88 33 = .ok (.lstore_n 0, 1) := by decide +kernel
theorem dJ13_bitCount_95d88_34 : decode cJ13_bitCount_95d88 34 = .ok (.lload_n 0, 1) := by decide +kernel
theorem dJ13_bitCount_95d88_35 : decode cJ13_bitCount_95d88 35 = .ok (.lload_n 0, 1) := by decide +kernel
theorem dJ13_bitCount_95d88_36 : decode cJ13_bitCount_95d88 36 = .ok (.bipush 8, 2) := by decide +kernel
theorem dJ13_bitCount_95d88_38 : decode cJ13_bitCount_95d88 38 = .ok (.lushr, 1) := by decide +kernel
theorem dJ13_bitCount_95d88_39 : decode cJ13_bitCount_95d88 39 = .ok (.ladd, 1) := by decide +kernel
theorem dJ13_bitCount_95d88_40 : decode cJ13_bitCount_95d88 40 = .ok (.lstore_n 0, 1) := by decide +kernel
theorem dJ13_bitCount_95d88_41 : decode cJ13_bitCount_95d88 41 = .ok (.lload_n 0, 1) := by decide +kernel
theorem dJ13_bitCount_95d88_42 : decode cJ13_bitCount_95d88 42 = .ok (.lload_n 0, 1) := by decide +kernel
theorem dJ13_bitCount_95d88_43 : decode cJ13_bitCount_95d88 43 = .ok (.bipush 16, 2) := by decide +kernel
theorem dJ13_bitCount_95d88_45 : decode cJ13_bitCount_95d88 45 = .ok (.lushr, 1) := by decide +kernel
theorem dJ13_bitCount_95d88_46 : decode cJ13_bitCount_95d88 46 = .ok (.ladd, 1) := by decide +kernel
theorem dJ13_bitCount_95d88_47 : decode cJ13_bitCount_95d88 47 = .ok (.lstore_n 0, 1) := by decide +kernel
theorem dJ13_bitCount_95d88_48 : decode cJ13_bitCount_95d88 48 = .ok (.lload_n 0, 1) := by decide +kernel
theorem dJ13_bitCount_95d88_49 : decode cJ13_bitCount_95d88 49 = .ok (.lload_n 0, 1) := by decide +kernel
theorem dJ13_bitCount_95d88_50 : decode cJ13_bitCount_95d88 50 = .ok (.bipush 32, 2) := by decide +kernel
theorem dJ13_bitCount_95d88_52 : decode cJ13_bitCount_95d88 52 = .ok (.lushr, 1) := by decide +kernel
theorem dJ13_bitCount_95d88_53 : decode cJ13_bitCount_95d88 53 = .ok (.ladd, 1) := by decide +kernel
theorem dJ13_bitCount_95d88_54 : decode cJ13_bitCount_95d88 54 = .ok (.lstore_n 0, 1) := by decide +kernel
theorem dJ13_bitCount_95d88_55 : decode cJ13_bitCount_95d88 55 = .ok (.lload_n 0, 1) := by decide +kernel
theorem dJ13_bitCount_95d88_56 : decode cJ13_bitCount_95d88 56 = .ok (.l2i, 1) := by decide +kernel
theorem dJ13_bitCount_95d88_57 : decode cJ13_bitCount_95d88 57 = .ok (.bipush 127, 2) := by decide +kernel
theorem dJ13_bitCount_95d88_59 : decode cJ13_bitCount_95d88 59 = .ok (.iand, 1) := by decide +kernel
theorem dJ13_bitCount_95d88_60 : decode cJ13_bitCount_95d88 60 = .ok (.ireturn, 1) := by decide +kernel
theorem dJ9_max_7cf53_0 : decode cJ9_max_7cf53 0 = .ok (.iload_n 0, 1) := by decide +kernel
theorem dJ9_max_7cf53_1 : decode cJ9_max_7cf53 1 = .ok (.iload_n 1, 1) := by decide +kernel
theorem dJ9_max_7cf53_2 : decode cJ9_max_7cf53 2 = .ok (.if_icmp .lt 7, 3) := by decide +kernel
theorem dJ9_max_7cf53_5 : decode cJ9_max_7cf53 5 = .ok (.iload_n 0, 1) := by decide +kernel
theorem dJ9_max_7cf53_6 : decode cJ9_max_7cf53 6 = .ok (.goto 4, 3) := by decide +kernel
theorem dJ9_max_7cf53_9 : decode cJ9_max_7cf53 9 = .ok (.iload_n 1, 1) := by decide +kernel
theorem dJ9_max_7cf53_10 : decode cJ9_max_7cf53 10 = .ok (.ireturn, 1) := by decide +kernel
theorem dJ9_min_7cf53_0 : decode cJ9_min_7cf53 0 = .ok (.iload_n 0, 1) := by decide +kernel
theorem dJ9_min_7cf53_1 : decode cJ9_min_7cf53 1 = .ok (.iload_n 1, 1) := by decide +kernel
theorem dJ9_min_7cf53_2 : decode cJ9_min_7cf53 2 = .ok (.if_icmp .gt 7, 3) := by decide +kernel
theorem dJ9_min_7cf53_5 : decode cJ9_min_7cf53 5 = .ok (.iload_n 0, 1) := by decide +kernel
theorem dJ9_min_7cf53_6 : decode cJ9_min_7cf53 6 = .ok (.goto 4, 3) := by decide +kernel
theorem dJ9_min_7cf53_9 : decode cJ9_min_7cf53 9 = .ok (.iload_n 1, 1) := by decide +kernel
theorem dJ9_min_7cf53_10 : decode cJ9_min_7cf53 10 = .ok (.ireturn, 1) := by decide +kernel
theorem dJ0_init_81219_0 : decode cJ0_init_81219 0 = .ok (.aload_n 0, 1) := by decide +kernel
theorem dJ0_init_81219_1 : decode cJ0_init_81219 1 = .ok (.aload_n 1, 1) := by decide +kernel
theorem dJ0_init_81219_2 : decode cJ0_init_81219 2 = .ok (.aconst_null, 1) := by decide +kernel
theorem dJ0_init_81219_3 : decode cJ0_init_81219 3 = .ok (.invokespecial 489, 3) := by decide +kernel
theorem dJ0_init_81219_6 : decode cJ0_init_81219 6 = .ok (.return_, 1) := by decide +kernel
theorem dJ0_length_8abf5_0 : decode cJ0_length_8abf5 0 = .ok (.aload_n 0, 1) := by decide +kernel
theorem dJ0_length_8abf5_1 : decode cJ0_length_8abf5 1 = .ok (.getfield 9, 3) := by decide +kernel
theorem dJ0_length_8abf5_4 : decode cJ0_length_8abf5 4 = .ok (.arraylength, 1) := by decide +kernel
theorem dJ0_length_8abf5_5 : decode cJ0_length_8abf5 5 = .ok (.aload_n 0, 1) := by decide +kernel
theorem dJ0_length_8abf5_6 : decode cJ0_length_8abf5 6 = .ok (.invokevirtual 335, 3) := by decide +kernel
theorem dJ0_length_8abf5_9 : decode cJ0_length_8abf5 9 = .ok (.ishr, 1) := by decide +kernel
theorem dJ0_length_8abf5_10 : decode cJ0_length_8abf5 10 = .ok (.ireturn, 1) := by decide +kernel
theorem dJ0_getBytes_840e7_0 : decode cJ0_getBytes_840e7 0 = .ok (.aload_n 0, 1) := by decide +kernel
theorem dJ0_getBytes_840e7_1 : decode cJ0_getBytes_840e7 1 = .ok (.invokevirtual 335, 3) := by decide +kernel
theorem dJ0_getBytes_840e7_4 : decode cJ0_getBytes_840e7 4 = .ok (.iload_n 3, 1) := by decide +kernel
theorem dJ0_getBytes_840e7_5 : decode cJ0_getBytes_840e7 5 = .ok (.if_icmp .ne 23, 3) := by decide +kernel
theorem dJ0_getBytes_840e7_8 : decode cJ0_getBytes_840e7 8 = .ok (.aload_n 0, 1) := by decide +kernel
theorem dJ0_getBytes_840e7_9 : decode cJ0_getBytes_840e7 9 = .ok (.getfield 9, 3) := by decide +kernel
theorem dJ0_getBytes_840e7_12 : decode cJ0_getBytes_840e7 12 = .ok (.iconst 0, 1) := by decide +kernel
theorem dJ0_getBytes_840e7_13 : decode cJ0_getBytes_840e7 13 = .ok (.aload_n 1, 1) := by decide +kernel
theorem dJ0_getBytes_840e7_14 : decode cJ0_getBytes_840e7 14 = .ok (.iload_n 2, 1) := by decide +kernel
theorem dJ0_getBytes_840e7_15 : decode cJ0_getBytes_840e7 15 = .ok (.iload_n 3, 1) := by decide +kernel
theorem dJ0_getBytes_840e7_16 : decode cJ0_getBytes_840e7 16 = .ok (.ishl, 1) := by decide +kernel
theorem dJ0_getBytes_840e7_17 : decode cJ0_getBytes_840e7 17 = .ok (.aload_n 0, 1) := by decide +kernel
theorem dJ0_getBytes_840e7_18 : decode cJ0_getBytes_840e7 18 = .ok (.getfield 9, 3) := by decide +kernel
theorem dJ0_getBytes_840e7_21 : decode cJ0_getBytes_840e7 21 = .ok (.arraylength, 1) := by decide +kernel
theorem dJ0_getBytes_840e7_22 : decode cJ0_getBytes_840e7 22 = .ok (.invokestatic 212, 3) := by decide +kernel
theorem dJ0_getBytes_840e7_25 : decode cJ0_getBytes_840e7 25 = .ok (.goto 18, 3) := by decide +kernel
theorem dJ0_getBytes_840e7_28 : decode cJ0_getBytes_840e7 28 = .ok (.aload_n 0, 1) := by decide +kernel
theorem dJ0_getBytes_840e7_29 : decode cJ0_getBytes_840e7 29 = .ok (.getfield 9, 3) := by decide +kernel
theorem dJ0_getBytes_840e7_32 : decode cJ0_getBytes_840e7 32 = .ok (.iconst 0, 1) := by decide +kernel
theorem dJ0_getBytes_840e7_33 : decode cJ0_getBytes_840e7 33 = .ok (.aload_n 1, 1) := by decide +kernel
theorem dJ0_getBytes_840e7_34 : decode cJ0_getBytes_840e7 34 = .ok (.iload_n 2, 1) := by decide +kernel
theorem dJ0_getBytes_840e7_35 : decode cJ0_getBytes_840e7 35 = .ok (.aload_n 0, 1) := by decide +kernel
theorem dJ0_getBytes_840e7_36 : decode cJ0_getBytes_840e7 36 = .ok (.getfield 9, 3) := by decide +kernel
theorem dJ0_getBytes_840e7_39 : decode cJ0_getBytes_840e7 39 = .ok (.arraylength, 1) := by decide +kernel
theorem dJ0_getBytes_840e7_40 : decode cJ0_getBytes_840e7 40 = .ok (.invokestatic 106, 3) := by decide +kernel
theorem dJ0_getBytes_840e7_43 : decode cJ0_getBytes_840e7 43 = .ok (.return_, 1) := by decide +kernel
theorem dJ0_init_db425_0 : decode cJ0_init_db425 0 = .ok (.aload_n 0, 1) := by decide +kernel
theorem dJ0_init_db425_1 : decode cJ0_init_db425 1 = .ok (.invokespecial 1, 3) := by decide +kernel
theorem dJ0_init_db425_4 : decode cJ0_init_db425 4 = .ok (.aload_n 1, 1) := by decide +kernel
theorem dJ0_init_db425_5 : decode cJ0_init_db425 5 = .ok (.invokevirtual 552, 3) := by decide +kernel
theorem dJ0_init_db425_8 : decode cJ0_init_db425 8 = .ok (.astore_n 3, 1) := by decide +kernel
theorem dJ0_init_db425_9 : decode cJ0_init_db425 9 = .ok (.aload_n 1, 1) := by decide +kernel
theorem dJ0_init_db425_10 : decode cJ0_init_db425 10 = .ok (.invokevirtual 549, 3) := by decide +kernel
theorem dJ0_init_db425_13 : decode cJ0_init_db425 13 = .ok (.istore 4, 2) := by decide +kernel
theorem dJ0_init_db425_15 : decode cJ0_init_db425 15 = .ok (.aload_n 1, 1) := by decide +kernel
theorem dJ0_init_db425_16 : decode cJ0_init_db425 16 = .ok (.invokevirtual 1047, 3) := by decide +kernel
theorem dJ0_init_db425_19 : decode cJ0_init_db425 19 = .ok (.ifCond .eq 22, 3) := by decide +kernel
theorem dJ0_init_db425_22 : decode cJ0_init_db425 22 = .ok (.aload_n 0, 1) := by decide +kernel
theorem dJ0_init_db425_23 : decode cJ0_init_db425 23 = .ok (.iconst 0, 1) := by decide +kernel
theorem dJ0_init_db425_24 : decode cJ0_init_db425 24 = .ok (.putfield 15, 3) := by decide +kernel
theorem dJ0_init_db425_27 : decode cJ0_init_db425 27 = .ok (.aload_n 0, 1) := by decide +kernel
theorem dJ0_init_db425_28 : decode cJ0_init_db425 28 = .ok (.aload_n 3, 1) := by decide +kernel
theorem dJ0_init_db425_29 : decode cJ0_init_db425 29 = .ok (.iconst 0, 1) := by decide +kernel
theorem dJ0_init_db425_30 : decode cJ0_init_db425 30 = .ok (.iload 4, 2) := by decide +kernel
theorem dJ0_init_db425_32 : decode cJ0_init_db425 32 = .ok (.invokestatic 54, 3) := by decide +kernel
theorem dJ0_init_db425_35 : decode cJ0_init_db425 35 = .ok (.putfield 9, 3) := by decide +kernel
theorem dJ0_init_db425_38 : decode cJ0_init_db425 38 = .ok (.goto 59, 3) := by decide +kernel
theorem dJ0_init_db425_41 : decode cJ0_init_db425 41 = .ok (.getstatic 38, 3) := by decide +kernel
theorem dJ0_init_db425_44 : decode cJ0_init_db425 44 = .ok (.ifCond .eq 35, 3) := by decide +kernel
theorem dJ0_init_db425_47 : decode cJ0_init_db425 47 = .ok (.aload_n 1, 1) := by decide +kernel
theorem dJ0_init_db425_48 : decode cJ0_init_db425 48 = .ok (.getfield 1048, 3) := by decide +kernel
theorem dJ0_init_db425_51 : decode cJ0_init_db425 51 = .ok (.ifCond .eq 28, 3) := by decide +kernel
theorem dJ0_init_db425_54 : decode cJ0_init_db425 54 = .ok (.aload_n 0, 1) := by decide +kernel
theorem dJ0_init_db425_55 : decode cJ0_init_db425 55 = .ok (.aload_n 3, 1) := by decide +kernel
theorem dJ0_init_db425_56 : decode cJ0_init_db425 56 = .ok (.iconst 0, 1) := by decide +kernel
theorem dJ0_init_db425_57 : decode cJ0_init_db425 57 = .ok (.iload 4, 2) := by decide +kernel
theorem dJ0_init_db425_59 : decode cJ0_init_db425 59 = .ok (.invokestatic 1051, 3) := by decide +kernel
theorem dJ0_init_db425_62 : decode cJ0_init_db425 62 = .ok (.putfield 9, 3) := by decide +kernel
theorem dJ0_init_db425_65 : decode cJ0_init_db425 65 = .ok (.aload_n 0, 1) := by decide +kernel
theorem dJ0_init_db425_66 : decode cJ0_init_db425 66 = .ok (.aload_n 0, 1) := by decide +kernel
theorem dJ0_init_db425_67 : decode cJ0_init_db425 67 = .ok (.getfield 9, 3) := by decide +kernel
theorem dJ0_init_db425_70 : decode cJ0_init_db425 70 = .ok (.iload 4, 2) := by decide +kernel
theorem dJ0_init_db425_72 : decode cJ0_init_db425 72 = .ok (.invokestatic 47, 3) := by decide +kernel
theorem dJ0_init_db425_75 : decode cJ0_init_db425 75 = .ok (.putfield 15, 3) := by decide +kernel
theorem dJ0_init_db425_78 : decode cJ0_init_db425 78 = .ok (.return_, 1) := by decide +kernel
theorem dJ0_init_db425_79 : decode cJ0_init_db425 79 = .ok (.aload_n 0, 1) := by decide +kernel
theorem dJ0_init_db425_80 : decode cJ0_init_db425 80 = .ok (.iconst 1, 1) := by decide +kernel
theorem dJ0_init_db425_81 : decode cJ0_init_db425 81 = .ok (.putfield 15, 3) := by decide +kernel
theorem dJ0_init_db425_84 : decode cJ0_init_db425 84 = .ok (.aload_n 0, 1) := by decide +kernel
theorem dJ0_init_db425_85 : decode cJ0_init_db425 85 = .ok (.aload_n 3, 1) := by decide +kernel
theorem dJ0_init_db425_86 : decode cJ0_init_db425 86 = .ok (.iconst 0, 1) := by decide +kernel
theorem dJ0_init_db425_87 : decode cJ0_init_db425 87 = .ok (.iload 4, 2) := by decide +kernel
theorem dJ0_init_db425_89 : decode cJ0_init_db425 89 = .ok (.iconst 1, 1) := by decide +kernel
theorem dJ0_init_db425_90 : decode cJ0_init_db425 90 = .ok (.ishl, 1) := by decide +kernel
theorem dJ0_init_db425_91 : decode cJ0_init_db425 91 = .ok (.invokestatic 54, 3) := by decide +kernel
theorem dJ0_init_db425_94 : decode cJ0_init_db425 94 = .ok (.putfield 9, 3) := by decide +kernel
theorem dJ0_init_db425_97 : decode cJ0_init_db425 97 = .ok (.return_, 1) := by decide +kernel
theorem dJ0_coder_7d493_0 : decode cJ0_coder_7d493 0 = .ok (.getstatic 38, 3) := by decide +kernel
theorem dJ0_coder_7d493_3 : decode cJ0_coder_7d493 3 = .ok (.ifCond .eq 10, 3) := by decide +kernel
theorem dJ0_coder_7d493_6 : decode cJ0_coder_7d493 6 = .ok (.aload_n 0, 1) := by decide +kernel
theorem dJ0_coder_7d493_7 : decode cJ0_coder_7d493 7 = .ok (.getfield 15, 3) := by decide +kernel
theorem dJ0_coder_7d493_10 : decode cJ0_coder_7d493 10 = .ok (.goto 4, 3) := by decide +kernel
theorem dJ0_coder_7d493_13 : decode cJ0_coder_7d493 13 = .ok (.iconst 1, 1) := by decide +kernel
theorem dJ0_coder_7d493_14 : decode cJ0_coder_7d493 14 = .ok (.ireturn, 1) := by decide +kernel
theorem dJ0_checkIndex_df160_0 : decode cJ0_checkIndex_df160 0 = .ok (.iload_n 0, 1) := by decide +kernel
theorem dJ0_checkIndex_df160_1 : decode cJ0_checkIndex_df160 1 = .ok (.iload_n 1, 1) := by decide +kernel
theorem dJ0_checkIndex_df160_2 : decode cJ0_checkIndex_df160 2 = .ok (.getstatic 1053, 3) := by decide +kernel
theorem dJ0_checkIndex_df160_5 : decode cJ0_checkIndex_df160 5 = .ok (.invokestatic 1059, 3) := by decide +kernel
theorem dJ0_checkIndex_df160_8 : decode cJ0_checkIndex_df160 8 = .ok (.pop, 1) := by decide +kernel
theorem dJ0_checkIndex_df160_9 : decode cJ0_checkIndex_df160 9 = .ok (.return_, 1) := by decide +kernel
theorem dJ0_checkBoundsOffCount_cabcc_0 : decode cJ0_checkBoundsOffCount_cabcc 0 = .ok (.iload_n 0, 1) := by decide +kernel
theorem dJ0_checkBoundsOffCount_cabcc_1 : decode cJ0_checkBoundsOffCount_cabcc 1 = .ok (.iload_n 1, 1) := by decide +kernel
theorem dJ0_checkBoundsOffCount_cabcc_2 : decode cJ0_checkBoundsOffCount_cabcc 2 = .ok (.iload_n 2, 1) := by decide +kernel
theorem dJ0_checkBoundsOffCount_cabcc_3 : decode cJ0_checkBoundsOffCount_cabcc 3 = .ok (.getstatic 1053, 3) := by decide +kernel
theorem dJ0_checkBoundsOffCount_cabcc_6 : decode cJ0_checkBoundsOffCount_cabcc 6 = .ok (.invokestatic 1065, 3) := by decide +kernel
theorem dJ0_checkBoundsOffCount_cabcc_9 : decode cJ0_checkBoundsOffCount_cabcc 9 = .ok (.ireturn, 1) := by decide +kernel
theorem dJ0_checkBoundsBeginEnd_23922_0 : decode cJ0_checkBoundsBeginEnd_23922 0 = .ok (.iload_n 0, 1) := by decide +kernel
theorem dJ0_checkBoundsBeginEnd_23922_1 : decode cJ0_checkBoundsBeginEnd_23922 1 = .ok (.iload_n 1, 1) := by decide +kernel
theorem dJ0_checkBoundsBeginEnd_23922_2 : decode cJ0_checkBoundsBeginEnd_23922 2 = .ok (.iload_n 2, 1) := by decide +kernel
theorem dJ0_checkBoundsBeginEnd_23922_3 : decode cJ0_checkBoundsBeginEnd_23922 3 = .ok (.getstatic 1053, 3) := by decide +kernel
theorem dJ0_checkBoundsBeginEnd_23922_6 : decode cJ0_checkBoundsBeginEnd_23922 6 = .ok (.invokestatic 1062, 3) := by decide +kernel
theorem dJ0_checkBoundsBeginEnd_23922_9 : decode cJ0_checkBoundsBeginEnd_23922 9 = .ok (.pop, 1) := by decide +kernel
theorem dJ0_checkBoundsBeginEnd_23922_10 : decode cJ0_checkBoundsBeginEnd_23922 10 = .ok (.return_, 1) := by decide +kernel
theorem dJ4_init_da8c8_0 : decode cJ4_init_da8c8 0 = .ok (.aload_n 0, 1) := by decide +kernel
theorem dJ4_init_da8c8_1 : decode cJ4_init_da8c8 1 = .ok (.bipush 16, 2) := by decide +kernel
theorem dJ4_init_da8c8_3 : decode cJ4_init_da8c8 3 = .ok (.invokespecial 1, 3) := by decide +kernel
theorem dJ4_init_da8c8_6 : decode cJ4_init_da8c8 6 = .ok (.return_, 1) := by decide +kernel
theorem dJ4_append_15ec4_0 : decode cJ4_append_15ec4 0 = .ok (.aload_n 0, 1) := by decide +kernel
theorem dJ4_append_15ec4_1 : decode cJ4_append_15ec4 1 = .ok (.aload_n 1, 1) := by decide +kernel
theorem dJ4_append_15ec4_2 : decode cJ4_append_15ec4 2 = .ok (.invokespecial 29, 3) := by decide +kernel
theorem dJ4_append_15ec4_5 : decode cJ4_append_15ec4 5 = .ok (.pop, 1) := by decide +kernel
theorem dJ4_append_15ec4_6 : decode cJ4_append_15ec4 6 = .ok (.aload_n 0, 1) := by decide +kernel
theorem dJ4_append_15ec4_7 : decode cJ4_append_15ec4 7 = .ok (.areturn, 1) := by decide +kernel
theorem dJ4_append_cf468_0 : decode cJ4_append_cf468 0 = .ok (.aload_n 0, 1) := by decide +kernel
theorem dJ4_append_cf468_1 : decode cJ4_append_cf468 1 = .ok (.iload_n 1, 1) := by decide +kernel
theorem dJ4_append_cf468_2 : decode cJ4_append_cf468 2 = .ok (.invokespecial 50, 3) := by decide +kernel
theorem dJ4_append_cf468_5 : decode cJ4_append_cf468 5 = .ok (.pop, 1) := by decide +kernel
theorem dJ4_append_cf468_6 : decode cJ4_append_cf468 6 = .ok (.aload_n 0, 1) := by decide +kernel
theorem dJ4_append_cf468_7 : decode cJ4_append_cf468 7 = .ok (.areturn, 1) := by decide +kernel
theorem dJ4_append_bf812_0 : decode cJ4_append_bf812 0 = .ok (.aload_n 0, 1) := by decide +kernel
theorem dJ4_append_bf812_1 : decode cJ4_append_bf812 1 = .ok (.iload_n 1, 1) := by decide +kernel
theorem dJ4_append_bf812_2 : decode cJ4_append_bf812 2 = .ok (.invokespecial 53, 3) := by decide +kernel
theorem dJ4_append_bf812_5 : decode cJ4_append_bf812 5 = .ok (.pop, 1) := by decide +kernel
theorem dJ4_append_bf812_6 : decode cJ4_append_bf812 6 = .ok (.aload_n 0, 1) := by decide +kernel
theorem dJ4_append_bf812_7 : decode cJ4_append_bf812 7 = .ok (.areturn, 1) := by decide +kernel
theorem dJ4_toString_0e30d_0 : decode cJ4_toString_0e30d 0 = .ok (.new 18, 3) := by decide +kernel
theorem dJ4_toString_0e30d_3 : decode cJ4_toString_0e30d 3 = .ok (.dup, 1) := by decide +kernel
theorem dJ4_toString_0e30d_4 : decode cJ4_toString_0e30d 4 = .ok (.aload_n 0, 1) := by decide +kernel
theorem dJ4_toString_0e30d_5 : decode cJ4_toString_0e30d 5 = .ok (.invokespecial 137, 3) := by decide +kernel
theorem dJ4_toString_0e30d_8 : decode cJ4_toString_0e30d 8 = .ok (.areturn, 1) := by decide +kernel
theorem dJ4_charAt_5068e_0 : decode cJ4_charAt_5068e 0 = .ok (.aload_n 0, 1) := by decide +kernel
theorem dJ4_charAt_5068e_1 : decode cJ4_charAt_5068e 1 = .ok (.iload_n 1, 1) := by decide +kernel
theorem dJ4_charAt_5068e_2 : decode cJ4_charAt_5068e 2 = .ok (.invokespecial 329, 3) := by decide +kernel
theorem dJ4_charAt_5068e_5 : decode cJ4_charAt_5068e 5 = .ok (.ireturn, 1) := by decide +kernel
theorem dJ4_setLength_d00df_0 : decode cJ4_setLength_d00df 0 = .ok (.aload_n 0, 1) := by decide +kernel
theorem dJ4_setLength_d00df_1 : decode cJ4_setLength_d00df 1 = .ok (.iload_n 1, 1) := by decide +kernel
theorem dJ4_setLength_d00df_2 : decode cJ4_setLength_d00df 2 = .ok (.invokespecial 333, 3) := by decide +kernel
theorem dJ4_setLength_d00df_5 : decode cJ4_setLength_d00df 5 = .ok (.return_, 1) := by decide +kernel
theorem dJ4_length_8abf5_0 : decode cJ4_length_8abf5 0 = .ok (.aload_n 0, 1) := by decide +kernel
theorem dJ4_length_8abf5_1 : decode cJ4_length_8abf5 1 = .ok (.invokespecial 343, 3) := by decide +kernel
theorem dJ4_length_8abf5_4 : decode cJ4_length_8abf5 4 = .ok (.ireturn, 1) := by decide +kernel
theorem dJ1_canEncode_fc78d_0 : decode cJ1_canEncode_fc78d 0 = .ok (.iload_n 0, 1) := by decide +kernel
theorem dJ1_canEncode_fc78d_1 : decode cJ1_canEncode_fc78d 1 = .ok (.sipush 255, 3) := by decide +kernel
theorem dJ1_canEncode_fc78d_4 : decode cJ1_canEncode_fc78d 4 = .ok (.if_icmp .gt 7, 3) := by decide +kernel
theorem dJ1_canEncode_fc78d_7 : decode cJ1_canEncode_fc78d 7 = .ok (.iconst 1, 1) := by decide +kernel
theorem dJ1_canEncode_fc78d_8 : decode cJ1_canEncode_fc78d 8 = .ok (.goto 4, 3) := by decide +kernel
theorem dJ1_canEncode_fc78d_11 : decode cJ1_canEncode_fc78d 11 = .ok (.iconst 0, 1) := by decide +kernel
theorem dJ1_canEncode_fc78d_12 : decode cJ1_canEncode_fc78d 12 = .ok (.ireturn, 1) := by decide +kernel
theorem dJ1_fillNull_b72d1_0 : decode cJ1_fillNull_b72d1 0 = .ok (.aload_n 0, 1) := by decide +kernel
theorem dJ1_fillNull_b72d1_1 : decode cJ1_fillNull_b72d1 1 = .ok (.iload_n 1, 1) := by decide +kernel
theorem dJ1_fillNull_b72d1_2 : decode cJ1_fillNull_b72d1 2 = .ok (.iload_n 2, 1) := by decide +kernel
theorem dJ1_fillNull_b72d1_3 : decode cJ1_fillNull_b72d1 3 = .ok (.iconst 0, 1) := by decide +kernel
theorem dJ1_fillNull_b72d1_4 : decode cJ1_fillNull_b72d1 4 = .ok (.invokestatic 236, 3) := by decide +kernel
theorem dJ1_fillNull_b72d1_7 : decode cJ1_fillNull_b72d1 7 = .ok (.return_, 1) := by decide +kernel
theorem dJ7_rangeCheck_23922_0 : decode cJ7_rangeCheck_23922 0 = .ok (.iload_n 1, 1) := by decide +kernel
theorem dJ7_rangeCheck_23922_1 : decode cJ7_rangeCheck_23922 1 = .ok (.iload_n 2, 1) := by decide +kernel
theorem dJ7_rangeCheck_23922_2 : decode cJ7_rangeCheck_23922 2 = .ok (.if_icmp .le 44, 3) := by decide +kernel
theorem dJ7_rangeCheck_23922_5 : decode cJ7_rangeCheck_23922 5 = .ok (.new 43, 3) := by decide +kernel
theorem dJ7_rangeCheck_23922_8 : decode cJ7_rangeCheck_23922 8 = .ok (.dup, 1) := by decide +kernel
theorem dJ7_rangeCheck_23922_9 : decode cJ7_rangeCheck_23922 9 = .ok (.new 45, 3) := by decide +kernel
theorem dJ7_rangeCheck_23922_12 : decode cJ7_rangeCheck_23922 12 = .ok (.dup, 1) := by decide +kernel
theorem dJ7_rangeCheck_23922_13 : decode cJ7_rangeCheck_23922 13 = .ok (.invokespecial 47, 3) := by decide +kernel
theorem dJ7_rangeCheck_23922_16 : decode cJ7_rangeCheck_23922 16 = .ok (.ldc 48, 2) := by decide +kernel
theorem dJ7_rangeCheck_23922_18 : decode cJ7_rangeCheck_23922 18 = .ok (.invokevirtual 50, 3) := by decide +kernel
theorem dJ7_rangeCheck_23922_21 : decode cJ7_rangeCheck_23922 21 = .ok (.iload_n 1, 1) := by decide +kernel
theorem dJ7_rangeCheck_23922_22 : decode cJ7_rangeCheck_23922 22 = .ok (.invokevirtual 54, 3) := by decide +kernel
theorem dJ7_rangeCheck_23922_25 : decode cJ7_rangeCheck_23922 25 = .ok (.ldc 57, 2) := by decide +kernel
theorem dJ7_rangeCheck_23922_27 : decode cJ7_rangeCheck_23922 27 = .ok (.invokevirtual 50, 3) := by decide +kernel
theorem dJ7_rangeCheck_23922_30 : decode cJ7_rangeCheck_23922 30 = .ok (.iload_n 2, 1) := by decide +kernel
theorem dJ7_rangeCheck_23922_31 : decode cJ7_rangeCheck_23922 31 = .ok (.invokevirtual 54, 3) := by decide +kernel
theorem dJ7_rangeCheck_23922_34 : decode cJ7_rangeCheck_23922 34 = .ok (.ldc 59, 2) := by decide +kernel
theorem dJ7_rangeCheck_23922_36 : decode cJ7_rangeCheck_23922 36 = .ok (.invokevirtual 50, 3) := by decide +kernel
theorem dJ7_rangeCheck_23922_39 : decode cJ7_rangeCheck_23922 39 = .ok (.invokevirtual 61, 3) := by decide +kernel
theorem dJ7_rangeCheck_23922_42 : decode cJ7_rangeCheck_23922 42 = .ok (.invokespecial 65, 3) := by decide +kernel
theorem dJ7_rangeCheck_23922_45 : decode cJ7_rangeCheck_23922 45 = .ok (.athrow, 1) := by decide +kernel
theorem dJ7_rangeCheck_23922_46 : decode cJ7_rangeCheck_23922 46 = .ok (.iload_n 1, 1) := by decide +kernel
theorem dJ7_rangeCheck_23922_47 : decode cJ7_rangeCheck_23922 47 = .ok (.ifCond .ge 12, 3) := by decide +kernel
theorem dJ7_rangeCheck_23922_50 : decode cJ7_rangeCheck_23922 50 = .ok (.new 68, 3) := by decide +kernel
theorem dJ7_rangeCheck_23922_53 : decode cJ7_rangeCheck_23922 53 = .ok (.dup, 1) := by decide +kernel
theorem dJ7_rangeCheck_23922_54 : decode cJ7_rangeCheck_23922 54 = .ok (.iload_n 1, 1) := by decide +kernel
theorem dJ7_rangeCheck_23922_55 : decode cJ7_rangeCheck_23922 55 = .ok (.invokespecial 70, 3) := by decide +kernel
theorem dJ7_rangeCheck_23922_58 : decode cJ7_rangeCheck_23922 58 = .ok (.athrow, 1) := by decide +kernel
theorem dJ7_rangeCheck_23922_59 : decode cJ7_rangeCheck_23922 59 = .ok (.iload_n 2, 1) := by decide +kernel
theorem dJ7_rangeCheck_23922_60 : decode cJ7_rangeCheck_23922 60 = .ok (.iload_n 0, 1) := by decide +kernel
theorem dJ7_rangeCheck_23922_61 : decode cJ7_rangeCheck_23922 61 = .ok (.if_icmp .le 12, 3) := by decide +kernel
theorem dJ7_rangeCheck_23922_64 : decode cJ7_rangeCheck_23922 64 = .ok (.new 68, 3) := by decide +kernel
theorem dJ7_rangeCheck_23922_67 : decode cJ7_rangeCheck_23922 67 = .ok (.dup, 1) := by decide +kernel
theorem dJ7_rangeCheck_23922_68 : decode cJ7_rangeCheck_23922 68 = .ok (.iload_n 2, 1) := by decide +kernel
theorem dJ7_rangeCheck_23922_69 : decode cJ7_rangeCheck_23922 69 = .ok (.invokespecial 70, 3) := by decide +kernel
theorem dJ7_rangeCheck_23922_72 : decode cJ7_rangeCheck_23922 72 = .ok (.athrow, 1) := by decide +kernel
theorem dJ7_rangeCheck_23922_73 : decode cJ7_rangeCheck_23922 73 = .ok (.return_, 1) := by decide +kernel
theorem dJ7_fill_53178_0 : decode cJ7_fill_53178 0 = .ok (.iconst 0, 1) := by decide +kernel
theorem dJ7_fill_53178_1 : decode cJ7_fill_53178 1 = .ok (.istore_n 2, 1) := by decide +kernel
theorem dJ7_fill_53178_2 : decode cJ7_fill_53178 2 = .ok (.aload_n 0, 1) := by decide +kernel
theorem dJ7_fill_53178_3 : decode cJ7_fill_53178 3 = .ok (.arraylength, 1) := by decide +kernel
theorem dJ7_fill_53178_4 : decode cJ7_fill_53178 4 = .ok (.istore_n 3, 1) := by decide +kernel
theorem dJ7_fill_53178_5 : decode cJ7_fill_53178 5 = .ok (.iload_n 2, 1) := by decide +kernel
theorem dJ7_fill_53178_6 : decode cJ7_fill_53178 6 = .ok (.iload_n 3, 1) := by decide +kernel
theorem dJ7_fill_53178_7 : decode cJ7_fill_53178 7 = .ok (.if_icmp .ge 13, 3) := by decide +kernel
theorem dJ7_fill_53178_10 : decode cJ7_fill_53178 10 = .ok (.aload_n 0, 1) := by decide +kernel
theorem dJ7_fill_53178_11 : decode cJ7_fill_53178 11 = .ok (.iload_n 2, 1) := by decide +kernel
theorem dJ7_fill_53178_12 : decode cJ7_fill_53178 12 = .ok (.iload_n 1, 1) := by decide +kernel
theorem dJ7_fill_53178_13 : decode cJ7_fill_53178 13 = .ok (.iastore, 1) := by decide +kernel
theorem dJ7_fill_53178_14 : decode cJ7_fill_53178 14 = .ok (.iinc 2 1, 3) := by decide +kernel
theorem dJ7_fill_53178_17 : decode cJ7_fill_53178 17 = .ok (.goto (-12), 3) := by decide +kernel
theorem dJ7_fill_53178_20 : decode cJ7_fill_53178 20 = .ok (.return_, 1) := by decide +kernel
theorem dJ7_fill_eb02e_0 : decode cJ7_fill_eb02e 0 = .ok (.aload_n 0, 1) := by decide +kernel
theorem dJ7_fill_eb02e_1 : decode cJ7_fill_eb02e 1 = .ok (.arraylength, 1) := by decide +kernel
theorem dJ7_fill_eb02e_2 : decode cJ7_fill_eb02e 2 = .ok (.iload_n 1, 1) := by decide +kernel
theorem dJ7_fill_eb02e_3 : decode cJ7_fill_eb02e 3 = .ok (.iload_n 2, 1) := by decide +kernel
theorem dJ7_fill_eb02e_4 : decode cJ7_fill_eb02e 4 = .ok (.invokestatic 13, 3) := by decide +kernel
theorem dJ7_fill_eb02e_7 : decode cJ7_fill_eb02e 7 = .ok (.iload_n 1, 1) := by decide +kernel
theorem dJ7_fill_eb02e_8 : decode cJ7_fill_eb02e 8 = .ok (.istore 4, 2) := by decide +kernel
theorem dJ7_fill_eb02e_10 : decode cJ7_fill_eb02e 10 = .ok (.iload 4, 2) := by decide +kernel
theorem dJ7_fill_eb02e_12 : decode cJ7_fill_eb02e 12 = .ok (.iload_n 2, 1) := by decide +kernel
theorem dJ7_fill_eb02e_13 : decode cJ7_fill_eb02e 13 = .ok (.if_icmp .ge 14, 3) := by decide +kernel
theorem dJ7_fill_eb02e_16 : decode cJ7_fill_eb02e 16 = .ok (.aload_n 0, 1) := by decide +kernel
theorem dJ7_fill_eb02e_17 : decode cJ7_fill_eb02e 17 = .ok (.iload 4, 2) := by decide +kernel
theorem dJ7_fill_eb02e_19 : decode cJ7_fill_eb02e 19 = .ok (.iload_n 3, 1) := by decide +kernel
theorem dJ7_fill_eb02e_20 : decode cJ7_fill_eb02e 20 = .ok (.bastore, 1) := by decide +kernel
theorem dJ7_fill_eb02e_21 : decode cJ7_fill_eb02e 21 = .ok (.iinc 4 1, 3) := by decide +kernel
theorem dJ7_fill_eb02e_24 : decode cJ7_fill_eb02e 24 = .ok (.goto (-14), 3) := by decide +kernel
theorem dJ7_fill_eb02e_27 : decode cJ7_fill_eb02e 27 = .ok (.return_, 1) := by decide +kernel
theorem dJ7_copyOf_9075b_0 : decode cJ7_copyOf_9075b 0 = .ok (.iload_n 1, 1) := by decide +kernel
theorem dJ7_copyOf_9075b_1 : decode cJ7_copyOf_9075b 1 = .ok (.aload_n 0, 1) := by decide +kernel
theorem dJ7_copyOf_9075b_2 : decode cJ7_copyOf_9075b 2 = .ok (.arraylength, 1) := by decide +kernel
theorem dJ7_copyOf_9075b_3 : decode cJ7_copyOf_9075b 3 = .ok (.if_icmp .ne 11, 3) := by decide +kernel
theorem dJ7_copyOf_9075b_6 : decode cJ7_copyOf_9075b 6 = .ok (.aload_n 0, 1) := by decide +kernel
theorem dJ7_copyOf_9075b_7 : decode cJ7_copyOf_9075b 7 = .ok (.invokevirtual 310, 3) := by decide +kernel
theorem dJ7_copyOf_9075b_10 : decode cJ7_copyOf_9075b 10 = .ok (.checkcast 311, 3) := by decide +kernel
theorem dJ7_copyOf_9075b_13 : decode cJ7_copyOf_9075b 13 = .ok (.areturn, 1) := by decide +kernel
theorem dJ7_copyOf_9075b_14 : decode cJ7_copyOf_9075b 14 = .ok (.iload_n 1, 1) := by decide +kernel
theorem dJ7_copyOf_9075b_15 : decode cJ7_copyOf_9075b 15 = .ok (.newarray .byte, 2) := by decide +kernel
theorem dJ7_copyOf_9075b_17 : decode cJ7_copyOf_9075b 17 = .ok (.astore_n 2, 1) := by decide +kernel
theorem dJ7_copyOf_9075b_18 : decode cJ7_copyOf_9075b 18 = .ok (.aload_n 0, 1) := by decide +kernel
theorem dJ7_copyOf_9075b_19 : decode cJ7_copyOf_9075b 19 = .ok (.iconst 0, 1) := by decide +kernel
theorem dJ7_copyOf_9075b_20 : decode cJ7_copyOf_9075b 20 = .ok (.aload_n 2, 1) := by decide +kernel
theorem dJ7_copyOf_9075b_21 : decode cJ7_copyOf_9075b 21 = .ok (.iconst 0, 1) := by decide +kernel
theorem dJ7_copyOf_9075b_22 : decode cJ7_copyOf_9075b 22 = .ok (.aload_n 0, 1) := by decide +kernel
theorem dJ7_copyOf_9075b_23 : decode cJ7_copyOf_9075b 23 = .ok (.arraylength, 1) := by decide +kernel
theorem dJ7_copyOf_9075b_24 : decode cJ7_copyOf_9075b 24 = .ok (.iload_n 1, 1) := by decide +kernel
theorem dJ7_copyOf_9075b_25 : decode cJ7_copyOf_9075b 25 = .ok (.invokestatic 304, 3) := by decide +kernel
theorem dJ7_copyOf_9075b_28 : decode cJ7_copyOf_9075b 28 = .ok (.invokestatic 150, 3) := by decide +kernel
theorem dJ7_copyOf_9075b_31 : decode cJ7_copyOf_9075b 31 = .ok (.aload_n 2, 1) := by decide +kernel
theorem dJ7_copyOf_9075b_32 : decode cJ7_copyOf_9075b 32 = .ok (.areturn, 1) := by decide +kernel
theorem dJ7_checkLength_df160_0 : decode cJ7_checkLength_df160 0 = .ok (.iload_n 1, 1) := by decide +kernel
theorem dJ7_checkLength_df160_1 : decode cJ7_checkLength_df160 1 = .ok (.iload_n 0, 1) := by decide +kernel
theorem dJ7_checkLength_df160_2 : decode cJ7_checkLength_df160 2 = .ok (.if_icmp .ge 35, 3) := by decide +kernel
theorem dJ7_checkLength_df160_5 : decode cJ7_checkLength_df160 5 = .ok (.new 43, 3) := by decide +kernel
theorem dJ7_checkLength_df160_8 : decode cJ7_checkLength_df160 8 = .ok (.dup, 1) := by decide +kernel
theorem dJ7_checkLength_df160_9 : decode cJ7_checkLength_df160 9 = .ok (.new 45, 3) := by decide +kernel
theorem dJ7_checkLength_df160_12 : decode cJ7_checkLength_df160 12 = .ok (.dup, 1) := by decide +kernel
theorem dJ7_checkLength_df160_13 : decode cJ7_checkLength_df160 13 = .ok (.invokespecial 47, 3) := by decide +kernel
theorem dJ7_checkLength_df160_16 : decode cJ7_checkLength_df160 16 = .ok (.iload_n 0, 1) := by decide +kernel
theorem dJ7_checkLength_df160_17 : decode cJ7_checkLength_df160 17 = .ok (.invokevirtual 54, 3) := by decide +kernel
theorem dJ7_checkLength_df160_20 : decode cJ7_checkLength_df160 20 = .ok (.ldc_w 337, 3) := by decide +kernel
theorem dJ7_checkLength_df160_23 : decode cJ7_checkLength_df160 23 = .ok (.invokevirtual 50, 3) := by decide +kernel
theorem dJ7_checkLength_df160_26 : decode cJ7_checkLength_df160 26 = .ok (.iload_n 1, 1) := by decide +kernel
theorem dJ7_checkLength_df160_27 : decode cJ7_checkLength_df160 27 = .ok (.invokevirtual 54, 3) := by decide +kernel
theorem dJ7_checkLength_df160_30 : decode cJ7_checkLength_df160 30 = .ok (.invokevirtual 61, 3) := by decide +kernel
theorem dJ7_checkLength_df160_33 : decode cJ7_checkLength_df160 33 = .ok (.invokespecial 65, 3) := by decide +kernel
theorem dJ7_checkLength_df160_36 : decode cJ7_checkLength_df160 36 = .ok (.athrow, 1) := by decide +kernel
theorem dJ7_checkLength_df160_37 : decode cJ7_checkLength_df160 37 = .ok (.return_, 1) := by decide +kernel
theorem dJ7_copyOfRange_39247_0 : decode cJ7_copyOfRange_39247 0 = .ok (.iload_n 1, 1) := by decide +kernel
theorem dJ7_copyOfRange_39247_1 : decode cJ7_copyOfRange_39247 1 = .ok (.ifCond .ne 9, 3) := by decide +kernel
theorem dJ7_copyOfRange_39247_4 : decode cJ7_copyOfRange_39247 4 = .ok (.iload_n 2, 1) := by decide +kernel
theorem dJ7_copyOfRange_39247_5 : decode cJ7_copyOfRange_39247 5 = .ok (.aload_n 0, 1) := by decide +kernel
theorem dJ7_copyOfRange_39247_6 : decode cJ7_copyOfRange_39247 6 = .ok (.arraylength, 1) := by decide +kernel
theorem dJ7_copyOfRange_39247_7 : decode cJ7_copyOfRange_39247 7 = .ok (.if_icmp .eq 10, 3) := by decide +kernel
theorem dJ7_copyOfRange_39247_10 : decode cJ7_copyOfRange_39247 10 = .ok (.aload_n 0, 1) := by decide +kernel
theorem dJ7_copyOfRange_39247_11 : decode cJ7_copyOfRange_39247 11 = .ok (.iload_n 1, 1) := by decide +kernel
theorem dJ7_copyOfRange_39247_12 : decode cJ7_copyOfRange_39247 12 = .ok (.iload_n 2, 1) := by decide +kernel
theorem dJ7_copyOfRange_39247_13 : decode cJ7_copyOfRange_39247 13 = .ok (.invokestatic 339, 3) := by decide +kernel
theorem dJ7_copyOfRange_39247_16 : decode cJ7_copyOfRange_39247 16 = .ok (.areturn, 1) := by decide +kernel
theorem dJ7_copyOfRange_39247_17 : decode cJ7_copyOfRange_39247 17 = .ok (.aload_n 0, 1) := by decide +kernel
theorem dJ7_copyOfRange_39247_18 : decode cJ7_copyOfRange_39247 18 = .ok (.invokevirtual 310, 3) := by decide +kernel
theorem dJ7_copyOfRange_39247_21 : decode cJ7_copyOfRange_39247 21 = .ok (.checkcast 311, 3) := by decide +kernel
theorem dJ7_copyOfRange_39247_24 : decode cJ7_copyOfRange_39247 24 = .ok (.areturn, 1) := by decide +kernel
theorem dJ7_copyOfRangeByte_39247_0 : decode cJ7_copyOfRangeByte_39247 0 = .ok (.iload_n 1, 1) := by decide +kernel
theorem dJ7_copyOfRangeByte_39247_1 : decode cJ7_copyOfRangeByte_39247 1 = .ok (.iload_n 2, 1) := by decide +kernel
theorem dJ7_copyOfRangeByte_39247_2 : decode cJ7_copyOfRangeByte_39247 2 = .ok (.invokestatic 343, 3) := by decide +kernel
theorem dJ7_copyOfRangeByte_39247_5 : decode cJ7_copyOfRangeByte_39247 5 = .ok (.iload_n 2, 1) := by decide +kernel
theorem dJ7_copyOfRangeByte_39247_6 : decode cJ7_copyOfRangeByte_39247 6 = .ok (.iload_n 1, 1) := by decide +kernel
theorem dJ7_copyOfRangeByte_39247_7 : decode cJ7_copyOfRangeByte_39247 7 = .ok (.isub, 1) := by decide +kernel
theorem dJ7_copyOfRangeByte_39247_8 : decode cJ7_copyOfRangeByte_39247 8 = .ok (.istore_n 3, 1) := by decide +kernel
theorem dJ7_copyOfRangeByte_39247_9 : decode cJ7_copyOfRangeByte_39247 9 = .ok (.iload_n 3, 1) := by decide +kernel
theorem dJ7_copyOfRangeByte_39247_10 : decode cJ7_copyOfRangeByte_39247 10 = .ok (.newarray .byte, 2) := by decide +kernel
theorem dJ7_copyOfRangeByte_39247_12 : decode cJ7_copyOfRangeByte_39247 12 = .ok (.astore 4, 2) := by decide +kernel
theorem dJ7_copyOfRangeByte_39247_14 : decode cJ7_copyOfRangeByte_39247 14 = .ok (.aload_n 0, 1) := by decide +kernel
theorem dJ7_copyOfRangeByte_39247_15 : decode cJ7_copyOfRangeByte_39247 15 = .ok (.iload_n 1, 1) := by decide +kernel
theorem dJ7_copyOfRangeByte_39247_16 : decode cJ7_copyOfRangeByte_39247 16 = .ok (.aload 4, 2) := by decide +kernel
theorem dJ7_copyOfRangeByte_39247_18 : decode cJ7_copyOfRangeByte_39247 18 = .ok (.iconst 0, 1) := by decide +kernel
theorem dJ7_copyOfRangeByte_39247_19 : decode cJ7_copyOfRangeByte_39247 19 = .ok (.aload_n 0, 1) := by decide +kernel
theorem dJ7_copyOfRangeByte_39247_20 : decode cJ7_copyOfRangeByte_39247 20 = .ok (.arraylength, 1) := by decide +kernel
theorem dJ7_copyOfRangeByte_39247_21 : decode cJ7_copyOfRangeByte_39247 21 = .ok (.iload_n 1, 1) := by decide +kernel
theorem dJ7_copyOfRangeByte_39247_22 : decode cJ7_copyOfRangeByte_39247 22 = .ok (.isub, 1) := by decide +kernel
theorem dJ7_copyOfRangeByte_39247_23 : decode cJ7_copyOfRangeByte_39247 23 = .ok (.iload_n 3, 1) := by decide +kernel
theorem dJ7_copyOfRangeByte_39247_24 : decode cJ7_copyOfRangeByte_39247 24 = .ok (.invokestatic 304, 3) := by decide +kernel
theorem dJ7_copyOfRangeByte_39247_27 : decode cJ7_copyOfRangeByte_39247 27 = .ok (.invokestatic 150, 3) := by decide +kernel
theorem dJ7_copyOfRangeByte_39247_30 : decode cJ7_copyOfRangeByte_39247 30 = .ok (.aload 4, 2) := by decide +kernel
theorem dJ7_copyOfRangeByte_39247_32 : decode cJ7_copyOfRangeByte_39247 32 = .ok (.areturn, 1) := by decide +kernel
theorem dJ8_newLength_cabcc_0 : decode cJ8_newLength_cabcc 0 = .ok (.iload_n 0, 1) := by decide +kernel
theorem dJ8_newLength_cabcc_1 : decode cJ8_newLength_cabcc 1 = .ok (.iload_n 1, 1) := by decide +kernel
theorem dJ8_newLength_cabcc_2 : decode cJ8_newLength_cabcc 2 = .ok (.iload_n 2, 1) := by decide +kernel
theorem dJ8_newLength_cabcc_3 : decode cJ8_newLength_cabcc 3 = .ok (.invokestatic 194, 3) := by decide +kernel
theorem dJ8_newLength_cabcc_6 : decode cJ8_newLength_cabcc 6 = .ok (.iadd, 1) := by decide +kernel
theorem dJ8_newLength_cabcc_7 : decode cJ8_newLength_cabcc 7 = .ok (.istore_n 3, 1) := by decide +kernel
theorem dJ8_newLength_cabcc_8 : decode cJ8_newLength_cabcc 8 = .ok (.iconst 0, 1) := by decide +kernel
theorem dJ8_newLength_cabcc_9 : decode cJ8_newLength_cabcc 9 = .ok (.iload_n 3, 1) := by decide +kernel
theorem dJ8_newLength_cabcc_10 : decode cJ8_newLength_cabcc 10 = .ok (.if_icmp .ge 11, 3) := by decide +kernel
theorem dJ8_newLength_cabcc_13 : decode cJ8_newLength_cabcc 13 = .ok (.iload_n 3, 1) := by decide +kernel
theorem dJ8_newLength_cabcc_14 : decode cJ8_newLength_cabcc 14 = .ok (.ldc 200, 2) := by decide +kernel
theorem dJ8_newLength_cabcc_16 : decode cJ8_newLength_cabcc 16 = .ok (.if_icmp .gt 5, 3) := by decide +kernel
theorem dJ8_newLength_cabcc_19 : decode cJ8_newLength_cabcc 19 = .ok (.iload_n 3, 1) := by decide +kernel
theorem dJ8_newLength_cabcc_20 : decode cJ8_newLength_cabcc 20 = .ok (.ireturn, 1) := by decide +kernel
theorem dJ8_newLength_cabcc_21 : decode cJ8_newLength_cabcc 21 = .ok (.iload_n 0, 1) := by decide +kernel
theorem dJ8_newLength_cabcc_22 : decode cJ8_newLength_cabcc 22 = .ok (.iload_n 1, 1) := by decide +kernel
theorem dJ8_newLength_cabcc_23 : decode cJ8_newLength_cabcc 23 = .ok (.invokestatic 201, 3) := by decide +kernel
theorem dJ8_newLength_cabcc_26 : decode cJ8_newLength_cabcc 26 = .ok (.ireturn, 1) := by decide +kernel
theorem dJ3_checkIndex_8e157_0 : decode cJ3_checkIndex_8e157 0 = .ok (.iload_n 0, 1) := by decide +kernel
theorem dJ3_checkIndex_8e157_1 : decode cJ3_checkIndex_8e157 1 = .ok (.ifCond .lt 8, 3) := by decide +kernel
theorem dJ3_checkIndex_8e157_4 : decode cJ3_checkIndex_8e157 4 = .ok (.iload_n 0, 1) := by decide +kernel
theorem dJ3_checkIndex_8e157_5 : decode cJ3_checkIndex_8e157 5 = .ok (.iload_n 1, 1) := by decide +kernel
theorem dJ3_checkIndex_8e157_6 : decode cJ3_checkIndex_8e157 6 = .ok (.if_icmp .lt 10, 3) := by decide +kernel
theorem dJ3_checkIndex_8e157_9 : decode cJ3_checkIndex_8e157 9 = .ok (.aload_n 2, 1) := by decide +kernel
theorem dJ3_checkIndex_8e157_10 : decode cJ3_checkIndex_8e157 10 = .ok (.iload_n 0, 1) := by decide +kernel
theorem dJ3_checkIndex_8e157_11 : decode cJ3_checkIndex_8e157 11 = .ok (.iload_n 1, 1) := by decide +kernel
theorem dJ3_checkIndex_8e157_12 : decode cJ3_checkIndex_8e157 12 = .ok (.invokestatic 95, 3) := by decide +kernel
theorem dJ3_checkIndex_8e157_15 : decode cJ3_checkIndex_8e157 15 = .ok (.athrow, 1) := by decide +kernel
theorem dJ3_checkIndex_8e157_16 : decode cJ3_checkIndex_8e157 16 = .ok (.iload_n 0, 1) := by decide +kernel
theorem dJ3_checkIndex_8e157_17 : decode cJ3_checkIndex_8e157 17 = .ok (.ireturn, 1) := by decide +kernel
theorem dJ3_checkFromToIndex_8c36e_0 : decode cJ3_checkFromToIndex_8c36e 0 = .ok (.iload_n 0, 1) := by decide +kernel
theorem dJ3_checkFromToIndex_8c36e_1 : decode cJ3_checkFromToIndex_8c36e 1 = .ok (.ifCond .lt 13, 3) := by decide +kernel
theorem dJ3_checkFromToIndex_8c36e_4 : decode cJ3_checkFromToIndex_8c36e 4 = .ok (.iload_n 0, 1) := by decide +kernel
theorem dJ3_checkFromToIndex_8c36e_5 : decode cJ3_checkFromToIndex_8c36e 5 = .ok (.iload_n 1, 1) := by decide +kernel
theorem dJ3_checkFromToIndex_8c36e_6 : decode cJ3_checkFromToIndex_8c36e 6 = .ok (.if_icmp .gt 8, 3) := by decide +kernel
theorem dJ3_checkFromToIndex_8c36e_9 : decode cJ3_checkFromToIndex_8c36e 9 = .ok (.iload_n 1, 1) := by decide +kernel
theorem dJ3_checkFromToIndex_8c36e_10 : decode cJ3_checkFromToIndex_8c36e 10 = .ok (.iload_n 2, 1) := by decide +kernel
theorem dJ3_checkFromToIndex_8c36e_11 : decode cJ3_checkFromToIndex_8c36e 11 = .ok (.if_icmp .le 11, 3) := by decide +kernel
theorem dJ3_checkFromToIndex_8c36e_14 : decode cJ3_checkFromToIndex_8c36e 14 = .ok (.aload_n 3, 1) := by decide +kernel
theorem dJ3_checkFromToIndex_8c36e_15 : decode cJ3_checkFromToIndex_8c36e 15 = .ok (.iload_n 0, 1) := by decide +kernel
theorem dJ3_checkFromToIndex_8c36e_16 : decode cJ3_checkFromToIndex_8c36e 16 = .ok (.iload_n 1, 1) := by decide +kernel
theorem dJ3_checkFromToIndex_8c36e_17 : decode cJ3_checkFromToIndex_8c36e 17 = .ok (.iload_n 2, 1) := by decide +kernel
theorem dJ3_checkFromToIndex_8c36e_18 : decode cJ3_checkFromToIndex_8c36e 18 = .ok (.invokestatic 99, 3) := by decide +kernel
theorem dJ3_checkFromToIndex_8c36e_21 : decode cJ3_checkFromToIndex_8c36e 21 = .ok (.athrow, 1) := by decide +kernel
theorem dJ3_checkFromToIndex_8c36e_22 : decode cJ3_checkFromToIndex_8c36e 22 = .ok (.iload_n 0, 1) := by decide +kernel
theorem dJ3_checkFromToIndex_8c36e_23 : decode cJ3_checkFromToIndex_8c36e 23 = .ok (.ireturn, 1) := by decide +kernel
theorem dJ3_checkFromIndexSize_8c36e_0 : decode cJ3_checkFromIndexSize_8c36e 0 = .ok (.iload_n 2, 1) := by decide +kernel
theorem dJ3_checkFromIndexSize_8c36e_1 : decode cJ3_checkFromIndexSize_8c36e 1 = .ok (.iload_n 0, 1) := by decide +kernel
theorem dJ3_checkFromIndexSize_8c36e_2 : decode cJ3_checkFromIndexSize_8c36e 2 = .ok (.ior, 1) := by decide +kernel
theorem dJ3_checkFromIndexSize_8c36e_3 : decode cJ3_checkFromIndexSize_8c36e 3 = .ok (.iload_n 1, 1) := by decide +kernel
theorem dJ3_checkFromIndexSize_8c36e_4 : decode cJ3_checkFromIndexSize_8c36e 4 = .ok (.ior, 1) := by decide +kernel
theorem dJ3_checkFromIndexSize_8c36e_5 : decode cJ3_checkFromIndexSize_8c36e 5 = .ok (.ifCond .lt 10, 3) := by decide +kernel
theorem dJ3_checkFromIndexSize_8c36e_8 : decode cJ3_checkFromIndexSize_8c36e 8 = .ok (.iload_n 1, 1) := by decide +kernel
theorem dJ3_checkFromIndexSize_8c36e_9 : decode cJ3_checkFromIndexSize_8c36e 9 = .ok (.iload_n 2, 1) := by decide +kernel
theorem dJ3_checkFromIndexSize_8c36e_10 : decode cJ3_checkFromIndexSize_8c36e 10 = .ok (.iload_n 0, 1) := by decide +kernel
theorem dJ3_checkFromIndexSize_8c36e_11 : decode cJ3_checkFromIndexSize_8c36e 11 = .ok (.isub, 1) := by decide +kernel
theorem dJ3_checkFromIndexSize_8c36e_12 : decode cJ3_checkFromIndexSize_8c36e 12 = .ok (.if_icmp .le 11, 3) := by decide +kernel
theorem dJ3_checkFromIndexSize_8c36e_15 : decode cJ3_checkFromIndexSize_8c36e 15 = .ok (.aload_n 3, 1) := by decide +kernel
theorem dJ3_checkFromIndexSize_8c36e_16 : decode cJ3_checkFromIndexSize_8c36e 16 = .ok (.iload_n 0, 1) := by decide +kernel
theorem dJ3_checkFromIndexSize_8c36e_17 : decode cJ3_checkFromIndexSize_8c36e 17 = .ok (.iload_n 1, 1) := by decide +kernel
theorem dJ3_checkFromIndexSize_8c36e_18 : decode cJ3_checkFromIndexSize_8c36e 18 = .ok (.iload_n 2, 1) := by decide +kernel
theorem dJ3_checkFromIndexSize_8c36e_19 : decode cJ3_checkFromIndexSize_8c36e 19 = .ok (.invokestatic 103, 3) := by decide +kernel
theorem dJ3_checkFromIndexSize_8c36e_22 : decode cJ3_checkFromIndexSize_8c36e 22 = .ok (.athrow, 1) := by decide +kernel
theorem dJ3_checkFromIndexSize_8c36e_23 : decode cJ3_checkFromIndexSize_8c36e 23 = .ok (.iload_n 0, 1) := by decide +kernel
theorem dJ3_checkFromIndexSize_8c36e_24 : decode cJ3_checkFromIndexSize_8c36e 24 = .ok (.ireturn, 1) := by decide +kernel
theorem dL_cell_0 : decode cL_cell 0 = .ok (.iload_n 1, 1) := by decide +kernel
theorem dL_cell_1 : decode cL_cell 1 = .ok (.aload_n 0, 1) := by decide +kernel
theorem dL_cell_2 : decode cL_cell 2 = .ok (.arraylength, 1) := by decide +kernel
theorem dL_cell_3 : decode cL_cell 3 = .ok (.if_icmp .ge 9, 3) := by decide +kernel
theorem dL_cell_6 : decode cL_cell 6 = .ok (.aload_n 0, 1) := by decide +kernel
theorem dL_cell_7 : decode cL_cell 7 = .ok (.iload_n 1, 1) := by decide +kernel
theorem dL_cell_8 : decode cL_cell 8 = .ok (.iaload, 1) := by decide +kernel
theorem dL_cell_9 : decode cL_cell 9 = .ok (.goto 10, 3) := by decide +kernel
theorem dL_cell_12 : decode cL_cell 12 = .ok (.ldc 7, 2) := by decide +kernel
theorem dL_cell_14 : decode cL_cell 14 = .ok (.iload_n 1, 1) := by decide +kernel
theorem dL_cell_15 : decode cL_cell 15 = .ok (.imul, 1) := by decide +kernel
theorem dL_cell_16 : decode cL_cell 16 = .ok (.bipush 89, 2) := by decide +kernel
theorem dL_cell_18 : decode cL_cell 18 = .ok (.iadd, 1) := by decide +kernel
theorem dL_cell_19 : decode cL_cell 19 = .ok (.ireturn, 1) := by decide +kernel
theorem dL_low_0 : decode cL_low 0 = .ok (.iload_n 0, 1) := by decide +kernel
theorem dL_low_1 : decode cL_low 1 = .ok (.ldc 8, 2) := by decide +kernel
theorem dL_low_3 : decode cL_low 3 = .ok (.iand, 1) := by decide +kernel
theorem dL_low_4 : decode cL_low 4 = .ok (.iload_n 1, 1) := by decide +kernel
theorem dL_low_5 : decode cL_low 5 = .ok (.irem, 1) := by decide +kernel
theorem dL_low_6 : decode cL_low 6 = .ok (.ireturn, 1) := by decide +kernel
theorem dL_call_0 : decode cL_call 0 = .ok (.iload_n 1, 1) := by decide +kernel
theorem dL_call_1 : decode cL_call 1 = .ok (.tableswitch 386 0 33 #[151, 157, 163, 177, 183, 189, 195, 204, 211, 218, 225, 231, 237, 243, 249, 256, 262, 268, 274, 288, 297, 303, 308, 315, 322, 328, 342, 348, 353, 359, 364, 369, 374, 380], 151) := by decide +kernel
theorem dL_call_152 : decode cL_call 152 = .ok (.aload_n 0, 1) := by decide +kernel
theorem dL_call_153 : decode cL_call 153 = .ok (.iload_n 2, 1) := by decide +kernel
theorem dL_call_154 : decode cL_call 154 = .ok (.invokevirtual 9, 3) := by decide +kernel
theorem dL_call_157 : decode cL_call 157 = .ok (.ireturn, 1) := by decide +kernel
theorem dL_call_158 : decode cL_call 158 = .ok (.aload_n 0, 1) := by decide +kernel
theorem dL_call_159 : decode cL_call 159 = .ok (.iload_n 2, 1) := by decide +kernel
theorem dL_call_160 : decode cL_call 160 = .ok (.invokevirtual 15, 3) := by decide +kernel
theorem dL_call_163 : decode cL_call 163 = .ok (.ireturn, 1) := by decide +kernel
theorem dL_call_164 : decode cL_call 164 = .ok (.aload_n 0, 1) := by decide +kernel
theorem dL_call_165 : decode cL_call 165 = .ok (.iload_n 2, 1) := by decide +kernel
theorem dL_call_166 : decode cL_call 166 = .ok (.invokevirtual 18, 3) := by decide +kernel
theorem dL_call_169 : decode cL_call 169 = .ok (.ifCond .eq 7, 3) := by decide +kernel
theorem dL_call_172 : decode cL_call 172 = .ok (.iconst 1, 1) := by decide +kernel
theorem dL_call_173 : decode cL_call 173 = .ok (.goto 4, 3) := by decide +kernel
theorem dL_call_176 : decode cL_call 176 = .ok (.iconst 0, 1) := by decide +kernel
theorem dL_call_177 : decode cL_call 177 = .ok (.ireturn, 1) := by decide +kernel
theorem dL_call_178 : decode cL_call 178 = .ok (.aload_n 0, 1) := by decide +kernel
theorem dL_call_179 : decode cL_call 179 = .ok (.iload_n 2, 1) := by decide +kernel
theorem dL_call_180 : decode cL_call 180 = .ok (.invokevirtual 22, 3) := by decide +kernel
theorem dL_call_183 : decode cL_call 183 = .ok (.ireturn, 1) := by decide +kernel
theorem dL_call_184 : decode cL_call 184 = .ok (.aload_n 0, 1) := by decide +kernel
theorem dL_call_185 : decode cL_call 185 = .ok (.iload_n 2, 1) := by decide +kernel
theorem dL_call_186 : decode cL_call 186 = .ok (.invokevirtual 25, 3) := by decide +kernel
theorem dL_call_189 : decode cL_call 189 = .ok (.ireturn, 1) := by decide +kernel
theorem dL_call_190 : decode cL_call 190 = .ok (.aload_n 0, 1) := by decide +kernel
theorem dL_call_191 : decode cL_call 191 = .ok (.iload_n 2, 1) := by decide +kernel
theorem dL_call_192 : decode cL_call 192 = .ok (.invokevirtual 28, 3) := by decide +kernel
theorem dL_call_195 : decode cL_call 195 = .ok (.ireturn, 1) := by decide +kernel
theorem dL_call_196 : decode cL_call 196 = .ok (.aload_n 0, 1) := by decide +kernel
theorem dL_call_197 : decode cL_call 197 = .ok (.iload_n 2, 1) := by decide +kernel
theorem dL_call_198 : decode cL_call 198 = .ok (.iload_n 3, 1) := by decide +kernel
theorem dL_call_199 : decode cL_call 199 = .ok (.iload 4, 2) := by decide +kernel
theorem dL_call_201 : decode cL_call 201 = .ok (.invokevirtual 31, 3) := by decide +kernel
theorem dL_call_204 : decode cL_call 204 = .ok (.ireturn, 1) := by decide +kernel
theorem dL_call_205 : decode cL_call 205 = .ok (.aload_n 0, 1) := by decide +kernel
theorem dL_call_206 : decode cL_call 206 = .ok (.iload_n 2, 1) := by decide +kernel
theorem dL_call_207 : decode cL_call 207 = .ok (.iload_n 3, 1) := by decide +kernel
theorem dL_call_208 : decode cL_call 208 = .ok (.invokevirtual 35, 3) := by decide +kernel
theorem dL_call_211 : decode cL_call 211 = .ok (.ireturn, 1) := by decide +kernel
theorem dL_call_212 : decode cL_call 212 = .ok (.aload_n 0, 1) := by decide +kernel
theorem dL_call_213 : decode cL_call 213 = .ok (.iload_n 2, 1) := by decide +kernel
theorem dL_call_214 : decode cL_call 214 = .ok (.iload_n 3, 1) := by decide +kernel
theorem dL_call_215 : decode cL_call 215 = .ok (.invokevirtual 39, 3) := by decide +kernel
theorem dL_call_218 : decode cL_call 218 = .ok (.ireturn, 1) := by decide +kernel
theorem dL_call_219 : decode cL_call 219 = .ok (.aload_n 0, 1) := by decide +kernel
theorem dL_call_220 : decode cL_call 220 = .ok (.iload_n 2, 1) := by decide +kernel
theorem dL_call_221 : decode cL_call 221 = .ok (.iload_n 3, 1) := by decide +kernel
theorem dL_call_222 : decode cL_call 222 = .ok (.invokevirtual 42, 3) := by decide +kernel
theorem dL_call_225 : decode cL_call 225 = .ok (.ireturn, 1) := by decide +kernel
theorem dL_call_226 : decode cL_call 226 = .ok (.aload_n 0, 1) := by decide +kernel
theorem dL_call_227 : decode cL_call 227 = .ok (.iload_n 2, 1) := by decide +kernel
theorem dL_call_228 : decode cL_call 228 = .ok (.invokevirtual 45, 3) := by decide +kernel
theorem dL_call_231 : decode cL_call 231 = .ok (.ireturn, 1) := by decide +kernel
theorem dL_call_232 : decode cL_call 232 = .ok (.aload_n 0, 1) := by decide +kernel
theorem dL_call_233 : decode cL_call 233 = .ok (.iload_n 2, 1) := by decide +kernel
theorem dL_call_234 : decode cL_call 234 = .ok (.invokevirtual 48, 3) := by decide +kernel
theorem dL_call_237 : decode cL_call 237 = .ok (.ireturn, 1) := by decide +kernel
theorem dL_call_238 : decode cL_call 238 = .ok (.aload_n 0, 1) := by decide +kernel
theorem dL_call_239 : decode cL_call 239 = .ok (.iload_n 2, 1) := by decide +kernel
theorem dL_call_240 : decode cL_call 240 = .ok (.invokevirtual 51, 3) := by decide +kernel
theorem dL_call_243 : decode cL_call 243 = .ok (.ireturn, 1) := by decide +kernel
theorem dL_call_244 : decode cL_call 244 = .ok (.aload_n 0, 1) := by decide +kernel
theorem dL_call_245 : decode cL_call 245 = .ok (.iload_n 2, 1) := by decide +kernel
theorem dL_call_246 : decode cL_call 246 = .ok (.invokevirtual 54, 3) := by decide +kernel
theorem dL_call_249 : decode cL_call 249 = .ok (.ireturn, 1) := by decide +kernel
theorem dL_call_250 : decode cL_call 250 = .ok (.aload_n 0, 1) := by decide +kernel
theorem dL_call_251 : decode cL_call 251 = .ok (.iload_n 2, 1) := by decide +kernel
theorem dL_call_252 : decode cL_call 252 = .ok (.iload_n 3, 1) := by decide +kernel
theorem dL_call_253 : decode cL_call 253 = .ok (.invokevirtual 57, 3) := by decide +kernel
theorem dL_call_256 : decode cL_call 256 = .ok (.ireturn, 1) := by decide +kernel
theorem dL_call_257 : decode cL_call 257 = .ok (.aload_n 0, 1) := by decide +kernel
theorem dL_call_258 : decode cL_call 258 = .ok (.iload_n 2, 1) := by decide +kernel
theorem dL_call_259 : decode cL_call 259 = .ok (.invokevirtual 60, 3) := by decide +kernel
theorem dL_call_262 : decode cL_call 262 = .ok (.ireturn, 1) := by decide +kernel
theorem dL_call_263 : decode cL_call 263 = .ok (.aload_n 0, 1) := by decide +kernel
theorem dL_call_264 : decode cL_call 264 = .ok (.iload_n 2, 1) := by decide +kernel
theorem dL_call_265 : decode cL_call 265 = .ok (.invokevirtual 63, 3) := by decide +kernel
theorem dL_call_268 : decode cL_call 268 = .ok (.ireturn, 1) := by decide +kernel
theorem dL_call_269 : decode cL_call 269 = .ok (.aload_n 0, 1) := by decide +kernel
theorem dL_call_270 : decode cL_call 270 = .ok (.iload_n 2, 1) := by decide +kernel
theorem dL_call_271 : decode cL_call 271 = .ok (.invokevirtual 66, 3) := by decide +kernel
theorem dL_call_274 : decode cL_call 274 = .ok (.ireturn, 1) := by decide +kernel
theorem dL_call_275 : decode cL_call 275 = .ok (.aload_n 0, 1) := by decide +kernel
theorem dL_call_276 : decode cL_call 276 = .ok (.iload_n 2, 1) := by decide +kernel
theorem dL_call_277 : decode cL_call 277 = .ok (.invokevirtual 69, 3) := by decide +kernel
theorem dL_call_280 : decode cL_call 280 = .ok (.ifCond .eq 7, 3) := by decide +kernel
theorem dL_call_283 : decode cL_call 283 = .ok (.iconst 1, 1) := by decide +kernel
theorem dL_call_284 : decode cL_call 284 = .ok (.goto 4, 3) := by decide +kernel
theorem dL_call_287 : decode cL_call 287 = .ok (.iconst 0, 1) := by decide +kernel
theorem dL_call_288 : decode cL_call 288 = .ok (.ireturn, 1) := by decide +kernel
theorem dL_call_289 : decode cL_call 289 = .ok (.aload_n 0, 1) := by decide +kernel
theorem dL_call_290 : decode cL_call 290 = .ok (.iload_n 2, 1) := by decide +kernel
theorem dL_call_291 : decode cL_call 291 = .ok (.iload_n 3, 1) := by decide +kernel
theorem dL_call_292 : decode cL_call 292 = .ok (.iload 4, 2) := by decide +kernel
theorem dL_call_294 : decode cL_call 294 = .ok (.invokevirtual 72, 3) := by decide +kernel
theorem dL_call_297 : decode cL_call 297 = .ok (.ireturn, 1) := by decide +kernel
theorem dL_call_298 : decode cL_call 298 = .ok (.aload_n 0, 1) := by decide +kernel
theorem dL_call_299 : decode cL_call 299 = .ok (.iload_n 2, 1) := by decide +kernel
theorem dL_call_300 : decode cL_call 300 = .ok (.invokevirtual 75, 3) := by decide +kernel
theorem dL_call_303 : decode cL_call 303 = .ok (.ireturn, 1) := by decide +kernel
theorem dL_call_304 : decode cL_call 304 = .ok (.aload_n 0, 1) := by decide +kernel
theorem dL_call_305 : decode cL_call 305 = .ok (.invokevirtual 78, 3) := by decide +kernel
theorem dL_call_308 : decode cL_call 308 = .ok (.ireturn, 1) := by decide +kernel
theorem dL_call_309 : decode cL_call 309 = .ok (.aload_n 0, 1) := by decide +kernel
theorem dL_call_310 : decode cL_call 310 = .ok (.iload_n 2, 1) := by decide +kernel
theorem dL_call_311 : decode cL_call 311 = .ok (.iload_n 3, 1) := by decide +kernel
theorem dL_call_312 : decode cL_call 312 = .ok (.invokevirtual 82, 3) := by decide +kernel
theorem dL_call_315 : decode cL_call 315 = .ok (.ireturn, 1) := by decide +kernel
theorem dL_call_316 : decode cL_call 316 = .ok (.aload_n 0, 1) := by decide +kernel
theorem dL_call_317 : decode cL_call 317 = .ok (.iload_n 2, 1) := by decide +kernel
theorem dL_call_318 : decode cL_call 318 = .ok (.iload_n 3, 1) := by decide +kernel
theorem dL_call_319 : decode cL_call 319 = .ok (.invokevirtual 85, 3) := by decide +kernel
theorem dL_call_322 : decode cL_call 322 = .ok (.ireturn, 1) := by decide +kernel
theorem dL_call_323 : decode cL_call 323 = .ok (.aload_n 0, 1) := by decide +kernel
theorem dL_call_324 : decode cL_call 324 = .ok (.iload_n 2, 1) := by decide +kernel
theorem dL_call_325 : decode cL_call 325 = .ok (.invokevirtual 88, 3) := by decide +kernel
theorem dL_call_328 : decode cL_call 328 = .ok (.ireturn, 1) := by decide +kernel
theorem dL_call_329 : decode cL_call 329 = .ok (.aload_n 0, 1) := by decide +kernel
theorem dL_call_330 : decode cL_call 330 = .ok (.iload_n 2, 1) := by decide +kernel
theorem dL_call_331 : decode cL_call 331 = .ok (.invokevirtual 91, 3) := by decide +kernel
theorem dL_call_334 : decode cL_call 334 = .ok (.ifCond .eq 7, 3) := by decide +kernel
theorem dL_call_337 : decode cL_call 337 = .ok (.iconst 1, 1) := by decide +kernel
theorem dL_call_338 : decode cL_call 338 = .ok (.goto 4, 3) := by decide +kernel
theorem dL_call_341 : decode cL_call 341 = .ok (.iconst 0, 1) := by decide +kernel
theorem dL_call_342 : decode cL_call 342 = .ok (.ireturn, 1) := by decide +kernel
theorem dL_call_343 : decode cL_call 343 = .ok (.aload_n 0, 1) := by decide +kernel
theorem dL_call_344 : decode cL_call 344 = .ok (.iload_n 2, 1) := by decide +kernel
theorem dL_call_345 : decode cL_call 345 = .ok (.invokevirtual 94, 3) := by decide +kernel
theorem dL_call_348 : decode cL_call 348 = .ok (.ireturn, 1) := by decide +kernel
theorem dL_call_349 : decode cL_call 349 = .ok (.aload_n 0, 1) := by decide +kernel
theorem dL_call_350 : decode cL_call 350 = .ok (.invokevirtual 97, 3) := by decide +kernel
theorem dL_call_353 : decode cL_call 353 = .ok (.ireturn, 1) := by decide +kernel
theorem dL_call_354 : decode cL_call 354 = .ok (.aload_n 0, 1) := by decide +kernel
theorem dL_call_355 : decode cL_call 355 = .ok (.iload_n 2, 1) := by decide +kernel
theorem dL_call_356 : decode cL_call 356 = .ok (.invokevirtual 100, 3) := by decide +kernel
theorem dL_call_359 : decode cL_call 359 = .ok (.ireturn, 1) := by decide +kernel
theorem dL_call_360 : decode cL_call 360 = .ok (.aload_n 0, 1) := by decide +kernel
theorem dL_call_361 : decode cL_call 361 = .ok (.invokevirtual 103, 3) := by decide +kernel
theorem dL_call_364 : decode cL_call 364 = .ok (.ireturn, 1) := by decide +kernel
theorem dL_call_365 : decode cL_call 365 = .ok (.aload_n 0, 1) := by decide +kernel
theorem dL_call_366 : decode cL_call 366 = .ok (.invokevirtual 106, 3) := by decide +kernel
theorem dL_call_369 : decode cL_call 369 = .ok (.ireturn, 1) := by decide +kernel
theorem dL_call_370 : decode cL_call 370 = .ok (.aload_n 0, 1) := by decide +kernel
theorem dL_call_371 : decode cL_call 371 = .ok (.invokevirtual 109, 3) := by decide +kernel
theorem dL_call_374 : decode cL_call 374 = .ok (.ireturn, 1) := by decide +kernel
theorem dL_call_375 : decode cL_call 375 = .ok (.aload_n 0, 1) := by decide +kernel
theorem dL_call_376 : decode cL_call 376 = .ok (.iload_n 2, 1) := by decide +kernel
theorem dL_call_377 : decode cL_call 377 = .ok (.invokevirtual 112, 3) := by decide +kernel
theorem dL_call_380 : decode cL_call 380 = .ok (.ireturn, 1) := by decide +kernel
theorem dL_call_381 : decode cL_call 381 = .ok (.aload_n 0, 1) := by decide +kernel
theorem dL_call_382 : decode cL_call 382 = .ok (.iload_n 2, 1) := by decide +kernel
theorem dL_call_383 : decode cL_call 383 = .ok (.invokevirtual 116, 3) := by decide +kernel
theorem dL_call_386 : decode cL_call 386 = .ok (.ireturn, 1) := by decide +kernel
theorem dL_call_387 : decode cL_call 387 = .ok (.aload_n 0, 1) := by decide +kernel
theorem dL_call_388 : decode cL_call 388 = .ok (.iload_n 2, 1) := by decide +kernel
theorem dL_call_389 : decode cL_call 389 = .ok (.invokevirtual 119, 3) := by decide +kernel
theorem dL_call_392 : decode cL_call 392 = .ok (.ireturn, 1) := by decide +kernel
theorem dL_call_393 : decode cL_call 393 = .ok (.astore 5, 2) := by decide +kernel
theorem dL_call_395 : decode cL_call 395 = .ok (.sipush (-1001), 3) := by decide +kernel
theorem dL_call_398 : decode cL_call 398 = .ok (.ireturn, 1) := by decide +kernel
theorem dL_call_399 : decode cL_call 399 = .ok (.astore 5, 2) := by decide +kernel
theorem dL_call_401 : decode cL_call 401 = .ok (.sipush (-1002), 3) := by decide +kernel
theorem dL_call_404 : decode cL_call 404 = .ok (.ireturn, 1) := by decide +kernel
theorem dL_call_405 : decode cL_call 405 = .ok (.astore 5, 2) := by decide +kernel
theorem dL_call_407 : decode cL_call 407 = .ok (.sipush (-1003), 3) := by decide +kernel
theorem dL_call_410 : decode cL_call 410 = .ok (.ireturn, 1) := by decide +kernel
theorem dL_call_411 : decode cL_call 411 = .ok (.astore 5, 2) := by decide +kernel
theorem dL_call_413 : decode cL_call 413 = .ok (.sipush (-1004), 3) := by decide +kernel
theorem dL_call_416 : decode cL_call 416 = .ok (.ireturn, 1) := by decide +kernel
theorem dL_call_417 : decode cL_call 417 = .ok (.astore 5, 2) := by decide +kernel
theorem dL_call_419 : decode cL_call 419 = .ok (.sipush (-1005), 3) := by decide +kernel
theorem dL_call_422 : decode cL_call 422 = .ok (.ireturn, 1) := by decide +kernel
theorem dL_state_0 : decode cL_state 0 = .ok (.ldc2_w 132, 3) := by decide +kernel
theorem dL_state_3 : decode cL_state 3 = .ok (.lstore 4, 2) := by decide +kernel
theorem dL_state_5 : decode cL_state 5 = .ok (.iconst 0, 1) := by decide +kernel
theorem dL_state_6 : decode cL_state 6 = .ok (.istore 6, 2) := by decide +kernel
theorem dL_state_8 : decode cL_state 8 = .ok (.iload 6, 2) := by decide +kernel
theorem dL_state_10 : decode cL_state 10 = .ok (.aload_n 0, 1) := by decide +kernel
theorem dL_state_11 : decode cL_state 11 = .ok (.invokevirtual 134, 3) := by decide +kernel
theorem dL_state_14 : decode cL_state 14 = .ok (.if_icmp .ge 98, 3) := by decide +kernel
theorem dL_state_17 : decode cL_state 17 = .ok (.ldc2_w 137, 3) := by decide +kernel
theorem dL_state_20 : decode cL_state 20 = .ok (.ldc2_w 137, 3) := by decide +kernel
theorem dL_state_23 : decode cL_state 23 = .ok (.lload 4, 2) := by decide +kernel
theorem dL_state_25 : decode cL_state 25 = .ok (.lmul, 1) := by decide +kernel
theorem dL_state_26 : decode cL_state 26 = .ok (.aload_n 0, 1) := by decide +kernel
theorem dL_state_27 : decode cL_state 27 = .ok (.iconst 3, 1) := by decide +kernel
theorem dL_state_28 : decode cL_state 28 = .ok (.iload 6, 2) := by decide +kernel
theorem dL_state_30 : decode cL_state 30 = .ok (.iconst 0, 1) := by decide +kernel
theorem dL_state_31 : decode cL_state 31 = .ok (.iconst 0, 1) := by decide +kernel
theorem dL_state_32 : decode cL_state 32 = .ok (.invokestatic 139, 3) := by decide +kernel
theorem dL_state_35 : decode cL_state 35 = .ok (.i2l, 1) := by decide +kernel
theorem dL_state_36 : decode cL_state 36 = .ok (.ladd, 1) := by decide +kernel
theorem dL_state_37 : decode cL_state 37 = .ok (.lmul, 1) := by decide +kernel
theorem dL_state_38 : decode cL_state 38 = .ok (.aload_n 0, 1) := by decide +kernel
theorem dL_state_39 : decode cL_state 39 = .ok (.bipush 26, 2) := by decide +kernel
theorem dL_state_41 : decode cL_state 41 = .ok (.iload 6, 2) := by decide +kernel
theorem dL_state_43 : decode cL_state 43 = .ok (.iconst 0, 1) := by decide +kernel
theorem dL_state_44 : decode cL_state 44 = .ok (.iconst 0, 1) := by decide +kernel
theorem dL_state_45 : decode cL_state 45 = .ok (.invokestatic 139, 3) := by decide +kernel
theorem dL_state_48 : decode cL_state 48 = .ok (.i2l, 1) := by decide +kernel
theorem dL_state_49 : decode cL_state 49 = .ok (.ladd, 1) := by decide +kernel
theorem dL_state_50 : decode cL_state 50 = .ok (.lstore 4, 2) := by decide +kernel
theorem dL_state_52 : decode cL_state 52 = .ok (.iconst 0, 1) := by decide +kernel
theorem dL_state_53 : decode cL_state 53 = .ok (.istore 7, 2) := by decide +kernel
theorem dL_state_55 : decode cL_state 55 = .ok (.iload 7, 2) := by decide +kernel
theorem dL_state_57 : decode cL_state 57 = .ok (.bipush 16, 2) := by decide +kernel
theorem dL_state_59 : decode cL_state 59 = .ok (.if_icmp .ge 47, 3) := by decide +kernel
theorem dL_state_62 : decode cL_state 62 = .ok (.ldc2_w 137, 3) := by decide +kernel
theorem dL_state_65 : decode cL_state 65 = .ok (.ldc2_w 137, 3) := by decide +kernel
theorem dL_state_68 : decode cL_state 68 = .ok (.lload 4, 2) := by decide +kernel
theorem dL_state_70 : decode cL_state 70 = .ok (.lmul, 1) := by decide +kernel
theorem dL_state_71 : decode cL_state 71 = .ok (.aload_n 0, 1) := by decide +kernel
theorem dL_state_72 : decode cL_state 72 = .ok (.bipush 8, 2) := by decide +kernel
theorem dL_state_74 : decode cL_state 74 = .ok (.iload 6, 2) := by decide +kernel
theorem dL_state_76 : decode cL_state 76 = .ok (.iload 7, 2) := by decide +kernel
theorem dL_state_78 : decode cL_state 78 = .ok (.iconst 0, 1) := by decide +kernel
theorem dL_state_79 : decode cL_state 79 = .ok (.invokestatic 139, 3) := by decide +kernel
theorem dL_state_82 : decode cL_state 82 = .ok (.i2l, 1) := by decide +kernel
theorem dL_state_83 : decode cL_state 83 = .ok (.ladd, 1) := by decide +kernel
theorem dL_state_84 : decode cL_state 84 = .ok (.lmul, 1) := by decide +kernel
theorem dL_state_85 : decode cL_state 85 = .ok (.aload_n 0, 1) := by decide +kernel
theorem dL_state_86 : decode cL_state 86 = .ok (.bipush 9, 2) := by decide +kernel
theorem dL_state_88 : decode cL_state 88 = .ok (.iload 6, 2) := by decide +kernel
theorem dL_state_90 : decode cL_state 90 = .ok (.iload 7, 2) := by decide +kernel
theorem dL_state_92 : decode cL_state 92 = .ok (.iconst 0, 1) := by decide +kernel
theorem dL_state_93 : decode cL_state 93 = .ok (.invokestatic 139, 3) := by decide +kernel
theorem dL_state_96 : decode cL_state 96 = .ok (.i2l, 1) := by decide +kernel
theorem dL_state_97 : decode cL_state 97 = .ok (.ladd, 1) := by decide +kernel
theorem dL_state_98 : decode cL_state 98 = .ok (.lstore 4, 2) := by decide +kernel
theorem dL_state_100 : decode cL_state 100 = .ok (.iinc 7 3, 3) := by decide +kernel
theorem dL_state_103 : decode cL_state 103 = .ok (.goto (-48), 3) := by decide +kernel
theorem dL_state_106 : decode cL_state 106 = .ok (.iinc 6 1, 3) := by decide +kernel
theorem dL_state_109 : decode cL_state 109 = .ok (.goto (-101), 3) := by decide +kernel
theorem dL_state_112 : decode cL_state 112 = .ok (.iconst 0, 1) := by decide +kernel
theorem dL_state_113 : decode cL_state 113 = .ok (.istore 6, 2) := by decide +kernel
theorem dL_state_115 : decode cL_state 115 = .ok (.iload 6, 2) := by decide +kernel
theorem dL_state_117 : decode cL_state 117 = .ok (.iload_n 1, 1) := by decide +kernel
theorem dL_state_118 : decode cL_state 118 = .ok (.if_icmp .ge 45, 3) := by decide +kernel
theorem dL_state_121 : decode cL_state 121 = .ok (.ldc2_w 137, 3) := by decide +kernel
theorem dL_state_124 : decode cL_state 124 = .ok (.ldc2_w 137, 3) := by decide +kernel
theorem dL_state_127 : decode cL_state 127 = .ok (.lload 4, 2) := by decide +kernel
theorem dL_state_129 : decode cL_state 129 = .ok (.lmul, 1) := by decide +kernel
theorem dL_state_130 : decode cL_state 130 = .ok (.aload_n 0, 1) := by decide +kernel
theorem dL_state_131 : decode cL_state 131 = .ok (.bipush 11, 2) := by decide +kernel
theorem dL_state_133 : decode cL_state 133 = .ok (.iload 6, 2) := by decide +kernel
theorem dL_state_135 : decode cL_state 135 = .ok (.iconst 0, 1) := by decide +kernel
theorem dL_state_136 : decode cL_state 136 = .ok (.iconst 0, 1) := by decide +kernel
theorem dL_state_137 : decode cL_state 137 = .ok (.invokestatic 139, 3) := by decide +kernel
theorem dL_state_140 : decode cL_state 140 = .ok (.i2l, 1) := by decide +kernel
theorem dL_state_141 : decode cL_state 141 = .ok (.ladd, 1) := by decide +kernel
theorem dL_state_142 : decode cL_state 142 = .ok (.lmul, 1) := by decide +kernel
theorem dL_state_143 : decode cL_state 143 = .ok (.aload_n 0, 1) := by decide +kernel
theorem dL_state_144 : decode cL_state 144 = .ok (.bipush 15, 2) := by decide +kernel
theorem dL_state_146 : decode cL_state 146 = .ok (.iload 6, 2) := by decide +kernel
theorem dL_state_148 : decode cL_state 148 = .ok (.iconst 0, 1) := by decide +kernel
theorem dL_state_149 : decode cL_state 149 = .ok (.iconst 0, 1) := by decide +kernel
theorem dL_state_150 : decode cL_state 150 = .ok (.invokestatic 139, 3) := by decide +kernel
theorem dL_state_153 : decode cL_state 153 = .ok (.i2l, 1) := by decide +kernel
theorem dL_state_154 : decode cL_state 154 = .ok (.ladd, 1) := by decide +kernel
theorem dL_state_155 : decode cL_state 155 = .ok (.lstore 4, 2) := by decide +kernel
theorem dL_state_157 : decode cL_state 157 = .ok (.iinc 6 1, 3) := by decide +kernel
theorem dL_state_160 : decode cL_state 160 = .ok (.goto (-45), 3) := by decide +kernel
theorem dL_state_163 : decode cL_state 163 = .ok (.iconst 0, 1) := by decide +kernel
theorem dL_state_164 : decode cL_state 164 = .ok (.istore 6, 2) := by decide +kernel
theorem dL_state_166 : decode cL_state 166 = .ok (.iload 6, 2) := by decide +kernel
theorem dL_state_168 : decode cL_state 168 = .ok (.iload_n 2, 1) := by decide +kernel
theorem dL_state_169 : decode cL_state 169 = .ok (.if_icmp .ge 29, 3) := by decide +kernel
theorem dL_state_172 : decode cL_state 172 = .ok (.ldc2_w 137, 3) := by decide +kernel
theorem dL_state_175 : decode cL_state 175 = .ok (.lload 4, 2) := by decide +kernel
theorem dL_state_177 : decode cL_state 177 = .ok (.lmul, 1) := by decide +kernel
theorem dL_state_178 : decode cL_state 178 = .ok (.aload_n 0, 1) := by decide +kernel
theorem dL_state_179 : decode cL_state 179 = .ok (.bipush 18, 2) := by decide +kernel
theorem dL_state_181 : decode cL_state 181 = .ok (.iload 6, 2) := by decide +kernel
theorem dL_state_183 : decode cL_state 183 = .ok (.iconst 0, 1) := by decide +kernel
theorem dL_state_184 : decode cL_state 184 = .ok (.iconst 0, 1) := by decide +kernel
theorem dL_state_185 : decode cL_state 185 = .ok (.invokestatic 139, 3) := by decide +kernel
theorem dL_state_188 : decode cL_state 188 = .ok (.i2l, 1) := by decide +kernel
theorem dL_state_189 : decode cL_state 189 = .ok (.ladd, 1) := by decide +kernel
theorem dL_state_190 : decode cL_state 190 = .ok (.lstore 4, 2) := by decide +kernel
theorem dL_state_192 : decode cL_state 192 = .ok (.iinc 6 1, 3) := by decide +kernel
theorem dL_state_195 : decode cL_state 195 = .ok (.goto (-29), 3) := by decide +kernel
theorem dL_state_198 : decode cL_state 198 = .ok (.iconst 0, 1) := by decide +kernel
theorem dL_state_199 : decode cL_state 199 = .ok (.istore 6, 2) := by decide +kernel
theorem dL_state_201 : decode cL_state 201 = .ok (.iload 6, 2) := by decide +kernel
theorem dL_state_203 : decode cL_state 203 = .ok (.iload_n 3, 1) := by decide +kernel
theorem dL_state_204 : decode cL_state 204 = .ok (.if_icmp .ge 29, 3) := by decide +kernel
theorem dL_state_207 : decode cL_state 207 = .ok (.ldc2_w 137, 3) := by decide +kernel
theorem dL_state_210 : decode cL_state 210 = .ok (.lload 4, 2) := by decide +kernel
theorem dL_state_212 : decode cL_state 212 = .ok (.lmul, 1) := by decide +kernel
theorem dL_state_213 : decode cL_state 213 = .ok (.aload_n 0, 1) := by decide +kernel
theorem dL_state_214 : decode cL_state 214 = .ok (.bipush 25, 2) := by decide +kernel
theorem dL_state_216 : decode cL_state 216 = .ok (.iload 6, 2) := by decide +kernel
theorem dL_state_218 : decode cL_state 218 = .ok (.iconst 0, 1) := by decide +kernel
theorem dL_state_219 : decode cL_state 219 = .ok (.iconst 0, 1) := by decide +kernel
theorem dL_state_220 : decode cL_state 220 = .ok (.invokestatic 139, 3) := by decide +kernel
theorem dL_state_223 : decode cL_state 223 = .ok (.i2l, 1) := by decide +kernel
theorem dL_state_224 : decode cL_state 224 = .ok (.ladd, 1) := by decide +kernel
theorem dL_state_225 : decode cL_state 225 = .ok (.lstore 4, 2) := by decide +kernel
theorem dL_state_227 : decode cL_state 227 = .ok (.iinc 6 1, 3) := by decide +kernel
theorem dL_state_230 : decode cL_state 230 = .ok (.goto (-29), 3) := by decide +kernel
theorem dL_state_233 : decode cL_state 233 = .ok (.ldc2_w 137, 3) := by decide +kernel
theorem dL_state_236 : decode cL_state 236 = .ok (.ldc2_w 137, 3) := by decide +kernel
theorem dL_state_239 : decode cL_state 239 = .ok (.ldc2_w 137, 3) := by decide +kernel
theorem dL_state_242 : decode cL_state 242 = .ok (.ldc2_w 137, 3) := by decide +kernel
theorem dL_state_245 : decode cL_state 245 = .ok (.lload 4, 2) := by decide +kernel
theorem dL_state_247 : decode cL_state 247 = .ok (.lmul, 1) := by decide +kernel
theorem dL_state_248 : decode cL_state 248 = .ok (.aload_n 0, 1) := by decide +kernel
theorem dL_state_249 : decode cL_state 249 = .ok (.invokevirtual 134, 3) := by decide +kernel
theorem dL_state_252 : decode cL_state 252 = .ok (.i2l, 1) := by decide +kernel
theorem dL_state_253 : decode cL_state 253 = .ok (.ladd, 1) := by decide +kernel
theorem dL_state_254 : decode cL_state 254 = .ok (.lmul, 1) := by decide +kernel
theorem dL_state_255 : decode cL_state 255 = .ok (.aload_n 0, 1) := by decide +kernel
theorem dL_state_256 : decode cL_state 256 = .ok (.invokevirtual 145, 3) := by decide +kernel
theorem dL_state_259 : decode cL_state 259 = .ok (.i2l, 1) := by decide +kernel
theorem dL_state_260 : decode cL_state 260 = .ok (.ladd, 1) := by decide +kernel
theorem dL_state_261 : decode cL_state 261 = .ok (.lmul, 1) := by decide +kernel
theorem dL_state_262 : decode cL_state 262 = .ok (.aload_n 0, 1) := by decide +kernel
theorem dL_state_263 : decode cL_state 263 = .ok (.invokevirtual 148, 3) := by decide +kernel
theorem dL_state_266 : decode cL_state 266 = .ok (.i2l, 1) := by decide +kernel
theorem dL_state_267 : decode cL_state 267 = .ok (.ladd, 1) := by decide +kernel
theorem dL_state_268 : decode cL_state 268 = .ok (.lmul, 1) := by decide +kernel
theorem dL_state_269 : decode cL_state 269 = .ok (.aload_n 0, 1) := by decide +kernel
theorem dL_state_270 : decode cL_state 270 = .ok (.invokevirtual 151, 3) := by decide +kernel
theorem dL_state_273 : decode cL_state 273 = .ok (.i2l, 1) := by decide +kernel
theorem dL_state_274 : decode cL_state 274 = .ok (.ladd, 1) := by decide +kernel
theorem dL_state_275 : decode cL_state 275 = .ok (.lreturn, 1) := by decide +kernel
theorem dL_sound_0 : decode cL_sound 0 = .ok (.iconst 0, 1) := by decide +kernel
theorem dL_sound_1 : decode cL_sound 1 = .ok (.istore_n 3, 1) := by decide +kernel
theorem dL_sound_2 : decode cL_sound 2 = .ok (.iconst 0, 1) := by decide +kernel
theorem dL_sound_3 : decode cL_sound 3 = .ok (.istore 4, 2) := by decide +kernel
theorem dL_sound_5 : decode cL_sound 5 = .ok (.iconst 0, 1) := by decide +kernel
theorem dL_sound_6 : decode cL_sound 6 = .ok (.istore 5, 2) := by decide +kernel
theorem dL_sound_8 : decode cL_sound 8 = .ok (.iconst 0, 1) := by decide +kernel
theorem dL_sound_9 : decode cL_sound 9 = .ok (.istore 6, 2) := by decide +kernel
theorem dL_sound_11 : decode cL_sound 11 = .ok (.iconst 0, 1) := by decide +kernel
theorem dL_sound_12 : decode cL_sound 12 = .ok (.istore 7, 2) := by decide +kernel
theorem dL_sound_14 : decode cL_sound 14 = .ok (.iload 7, 2) := by decide +kernel
theorem dL_sound_16 : decode cL_sound 16 = .ok (.bipush 64, 2) := by decide +kernel
theorem dL_sound_18 : decode cL_sound 18 = .ok (.if_icmp .ge 63, 3) := by decide +kernel
theorem dL_sound_21 : decode cL_sound 21 = .ok (.aload_n 0, 1) := by decide +kernel
theorem dL_sound_22 : decode cL_sound 22 = .ok (.bipush 12, 2) := by decide +kernel
theorem dL_sound_24 : decode cL_sound 24 = .ok (.iload 7, 2) := by decide +kernel
theorem dL_sound_26 : decode cL_sound 26 = .ok (.iconst 0, 1) := by decide +kernel
theorem dL_sound_27 : decode cL_sound 27 = .ok (.iconst 0, 1) := by decide +kernel
theorem dL_sound_28 : decode cL_sound 28 = .ok (.invokestatic 139, 3) := by decide +kernel
theorem dL_sound_31 : decode cL_sound 31 = .ok (.istore 8, 2) := by decide +kernel
theorem dL_sound_33 : decode cL_sound 33 = .ok (.iload_n 3, 1) := by decide +kernel
theorem dL_sound_34 : decode cL_sound 34 = .ok (.iload 8, 2) := by decide +kernel
theorem dL_sound_36 : decode cL_sound 36 = .ok (.ifCond .ne 7, 3) := by decide +kernel
theorem dL_sound_39 : decode cL_sound 39 = .ok (.iconst 1, 1) := by decide +kernel
theorem dL_sound_40 : decode cL_sound 40 = .ok (.goto 4, 3) := by decide +kernel
theorem dL_sound_43 : decode cL_sound 43 = .ok (.iconst 0, 1) := by decide +kernel
theorem dL_sound_44 : decode cL_sound 44 = .ok (.iadd, 1) := by decide +kernel
theorem dL_sound_45 : decode cL_sound 45 = .ok (.istore_n 3, 1) := by decide +kernel
theorem dL_sound_46 : decode cL_sound 46 = .ok (.iload 6, 2) := by decide +kernel
theorem dL_sound_48 : decode cL_sound 48 = .ok (.iload 8, 2) := by decide +kernel
theorem dL_sound_50 : decode cL_sound 50 = .ok (.iadd, 1) := by decide +kernel
theorem dL_sound_51 : decode cL_sound 51 = .ok (.istore 6, 2) := by decide +kernel
theorem dL_sound_53 : decode cL_sound 53 = .ok (.iload 8, 2) := by decide +kernel
theorem dL_sound_55 : decode cL_sound 55 = .ok (.ifCond .lt 18, 3) := by decide +kernel
theorem dL_sound_58 : decode cL_sound 58 = .ok (.iload 8, 2) := by decide +kernel
theorem dL_sound_60 : decode cL_sound 60 = .ok (.aload_n 0, 1) := by decide +kernel
theorem dL_sound_61 : decode cL_sound 61 = .ok (.bipush 13, 2) := by decide +kernel
theorem dL_sound_63 : decode cL_sound 63 = .ok (.iload 7, 2) := by decide +kernel
theorem dL_sound_65 : decode cL_sound 65 = .ok (.iconst 0, 1) := by decide +kernel
theorem dL_sound_66 : decode cL_sound 66 = .ok (.iconst 0, 1) := by decide +kernel
theorem dL_sound_67 : decode cL_sound 67 = .ok (.invokestatic 139, 3) := by decide +kernel
theorem dL_sound_70 : decode cL_sound 70 = .ok (.if_icmp .eq 5, 3) := by decide +kernel
theorem dL_sound_73 : decode cL_sound 73 = .ok (.iconst 0, 1) := by decide +kernel
theorem dL_sound_74 : decode cL_sound 74 = .ok (.ireturn, 1) := by decide +kernel
theorem dL_sound_75 : decode cL_sound 75 = .ok (.iinc 7 1, 3) := by decide +kernel
theorem dL_sound_78 : decode cL_sound 78 = .ok (.goto (-64), 3) := by decide +kernel
theorem dL_sound_81 : decode cL_sound 81 = .ok (.iconst 0, 1) := by decide +kernel
theorem dL_sound_82 : decode cL_sound 82 = .ok (.istore 7, 2) := by decide +kernel
theorem dL_sound_84 : decode cL_sound 84 = .ok (.iload 7, 2) := by decide +kernel
theorem dL_sound_86 : decode cL_sound 86 = .ok (.aload_n 0, 1) := by decide +kernel
theorem dL_sound_87 : decode cL_sound 87 = .ok (.invokevirtual 134, 3) := by decide +kernel
theorem dL_sound_90 : decode cL_sound 90 = .ok (.if_icmp .ge 193, 3) := by decide +kernel
theorem dL_sound_93 : decode cL_sound 93 = .ok (.iconst 0, 1) := by decide +kernel
theorem dL_sound_94 : decode cL_sound 94 = .ok (.istore 8, 2) := by decide +kernel
theorem dL_sound_96 : decode cL_sound 96 = .ok (.iconst 0, 1) := by decide +kernel
theorem dL_sound_97 : decode cL_sound 97 = .ok (.istore 9, 2) := by decide +kernel
theorem dL_sound_99 : decode cL_sound 99 = .ok (.iload 9, 2) := by decide +kernel
theorem dL_sound_101 : decode cL_sound 101 = .ok (.bipush 16, 2) := by decide +kernel
theorem dL_sound_103 : decode cL_sound 103 = .ok (.if_icmp .ge 90, 3) := by decide +kernel
theorem dL_sound_106 : decode cL_sound 106 = .ok (.aload_n 0, 1) := by decide +kernel
theorem dL_sound_107 : decode cL_sound 107 = .ok (.bipush 9, 2) := by decide +kernel
theorem dL_sound_109 : decode cL_sound 109 = .ok (.iload 7, 2) := by decide +kernel
theorem dL_sound_111 : decode cL_sound 111 = .ok (.iload 9, 2) := by decide +kernel
theorem dL_sound_113 : decode cL_sound 113 = .ok (.iconst 0, 1) := by decide +kernel
theorem dL_sound_114 : decode cL_sound 114 = .ok (.invokestatic 139, 3) := by decide +kernel
theorem dL_sound_117 : decode cL_sound 117 = .ok (.istore 10, 2) := by decide +kernel
theorem dL_sound_119 : decode cL_sound 119 = .ok (.iload 8, 2) := by decide +kernel
theorem dL_sound_121 : decode cL_sound 121 = .ok (.iload 10, 2) := by decide +kernel
theorem dL_sound_123 : decode cL_sound 123 = .ok (.ifCond .lt 7, 3) := by decide +kernel
theorem dL_sound_126 : decode cL_sound 126 = .ok (.iconst 1, 1) := by decide +kernel
theorem dL_sound_127 : decode cL_sound 127 = .ok (.goto 4, 3) := by decide +kernel
theorem dL_sound_130 : decode cL_sound 130 = .ok (.iconst 0, 1) := by decide +kernel
theorem dL_sound_131 : decode cL_sound 131 = .ok (.iadd, 1) := by decide +kernel
theorem dL_sound_132 : decode cL_sound 132 = .ok (.istore 8, 2) := by decide +kernel
theorem dL_sound_134 : decode cL_sound 134 = .ok (.iload 10, 2) := by decide +kernel
theorem dL_sound_136 : decode cL_sound 136 = .ok (.ifCond .lt 17, 3) := by decide +kernel
theorem dL_sound_139 : decode cL_sound 139 = .ok (.aload_n 0, 1) := by decide +kernel
theorem dL_sound_140 : decode cL_sound 140 = .ok (.bipush 12, 2) := by decide +kernel
theorem dL_sound_142 : decode cL_sound 142 = .ok (.iload 10, 2) := by decide +kernel
theorem dL_sound_144 : decode cL_sound 144 = .ok (.iconst 0, 1) := by decide +kernel
theorem dL_sound_145 : decode cL_sound 145 = .ok (.iconst 0, 1) := by decide +kernel
theorem dL_sound_146 : decode cL_sound 146 = .ok (.invokestatic 139, 3) := by decide +kernel
theorem dL_sound_149 : decode cL_sound 149 = .ok (.iconst 1, 1) := by decide +kernel
theorem dL_sound_150 : decode cL_sound 150 = .ok (.if_icmp .lt 35, 3) := by decide +kernel
theorem dL_sound_153 : decode cL_sound 153 = .ok (.iload 10, 2) := by decide +kernel
theorem dL_sound_155 : decode cL_sound 155 = .ok (.ifCond .lt 7, 3) := by decide +kernel
theorem dL_sound_158 : decode cL_sound 158 = .ok (.iconst 1, 1) := by decide +kernel
theorem dL_sound_159 : decode cL_sound 159 = .ok (.goto 4, 3) := by decide +kernel
theorem dL_sound_162 : decode cL_sound 162 = .ok (.iconst 0, 1) := by decide +kernel
theorem dL_sound_163 : decode cL_sound 163 = .ok (.aload_n 0, 1) := by decide +kernel
theorem dL_sound_164 : decode cL_sound 164 = .ok (.bipush 8, 2) := by decide +kernel
theorem dL_sound_166 : decode cL_sound 166 = .ok (.iload 7, 2) := by decide +kernel
theorem dL_sound_168 : decode cL_sound 168 = .ok (.iload 9, 2) := by decide +kernel
theorem dL_sound_170 : decode cL_sound 170 = .ok (.iconst 0, 1) := by decide +kernel
theorem dL_sound_171 : decode cL_sound 171 = .ok (.invokestatic 139, 3) := by decide +kernel
theorem dL_sound_174 : decode cL_sound 174 = .ok (.ifCond .lt 7, 3) := by decide +kernel
theorem dL_sound_177 : decode cL_sound 177 = .ok (.iconst 1, 1) := by decide +kernel
theorem dL_sound_178 : decode cL_sound 178 = .ok (.goto 4, 3) := by decide +kernel
theorem dL_sound_181 : decode cL_sound 181 = .ok (.iconst 0, 1) := by decide +kernel
theorem dL_sound_182 : decode cL_sound 182 = .ok (.if_icmp .eq 5, 3) := by decide +kernel
theorem dL_sound_185 : decode cL_sound 185 = .ok (.iconst 0, 1) := by decide +kernel
theorem dL_sound_186 : decode cL_sound 186 = .ok (.ireturn, 1) := by decide +kernel
theorem dL_sound_187 : decode cL_sound 187 = .ok (.iinc 9 1, 3) := by decide +kernel
theorem dL_sound_190 : decode cL_sound 190 = .ok (.goto (-91), 3) := by decide +kernel
theorem dL_sound_193 : decode cL_sound 193 = .ok (.iload 5, 2) := by decide +kernel
theorem dL_sound_195 : decode cL_sound 195 = .ok (.iload 8, 2) := by decide +kernel
theorem dL_sound_197 : decode cL_sound 197 = .ok (.iadd, 1) := by decide +kernel
theorem dL_sound_198 : decode cL_sound 198 = .ok (.istore 5, 2) := by decide +kernel
theorem dL_sound_200 : decode cL_sound 200 = .ok (.aload_n 0, 1) := by decide +kernel
theorem dL_sound_201 : decode cL_sound 201 = .ok (.bipush 10, 2) := by decide +kernel
theorem dL_sound_203 : decode cL_sound 203 = .ok (.iload 7, 2) := by decide +kernel
theorem dL_sound_205 : decode cL_sound 205 = .ok (.iconst 0, 1) := by decide +kernel
theorem dL_sound_206 : decode cL_sound 206 = .ok (.iconst 0, 1) := by decide +kernel
theorem dL_sound_207 : decode cL_sound 207 = .ok (.invokestatic 139, 3) := by decide +kernel
theorem dL_sound_210 : decode cL_sound 210 = .ok (.iload 8, 2) := by decide +kernel
theorem dL_sound_212 : decode cL_sound 212 = .ok (.if_icmp .ne 63, 3) := by decide +kernel
theorem dL_sound_215 : decode cL_sound 215 = .ok (.iload 8, 2) := by decide +kernel
theorem dL_sound_217 : decode cL_sound 217 = .ok (.ifCond .le 16, 3) := by decide +kernel
theorem dL_sound_220 : decode cL_sound 220 = .ok (.aload_n 0, 1) := by decide +kernel
theorem dL_sound_221 : decode cL_sound 221 = .ok (.iconst 2, 1) := by decide +kernel
theorem dL_sound_222 : decode cL_sound 222 = .ok (.iload 7, 2) := by decide +kernel
theorem dL_sound_224 : decode cL_sound 224 = .ok (.iconst 0, 1) := by decide +kernel
theorem dL_sound_225 : decode cL_sound 225 = .ok (.iconst 0, 1) := by decide +kernel
theorem dL_sound_226 : decode cL_sound 226 = .ok (.invokestatic 139, 3) := by decide +kernel
theorem dL_sound_229 : decode cL_sound 229 = .ok (.iconst 1, 1) := by decide +kernel
theorem dL_sound_230 : decode cL_sound 230 = .ok (.if_icmp .ne 45, 3) := by decide +kernel
theorem dL_sound_233 : decode cL_sound 233 = .ok (.aload_n 0, 1) := by decide +kernel
theorem dL_sound_234 : decode cL_sound 234 = .ok (.iconst 2, 1) := by decide +kernel
theorem dL_sound_235 : decode cL_sound 235 = .ok (.iload 7, 2) := by decide +kernel
theorem dL_sound_237 : decode cL_sound 237 = .ok (.iconst 0, 1) := by decide +kernel
theorem dL_sound_238 : decode cL_sound 238 = .ok (.iconst 0, 1) := by decide +kernel
theorem dL_sound_239 : decode cL_sound 239 = .ok (.invokestatic 139, 3) := by decide +kernel
theorem dL_sound_242 : decode cL_sound 242 = .ok (.aload_n 0, 1) := by decide +kernel
theorem dL_sound_243 : decode cL_sound 243 = .ok (.iconst 3, 1) := by decide +kernel
theorem dL_sound_244 : decode cL_sound 244 = .ok (.iload 7, 2) := by decide +kernel
theorem dL_sound_246 : decode cL_sound 246 = .ok (.iconst 0, 1) := by decide +kernel
theorem dL_sound_247 : decode cL_sound 247 = .ok (.iconst 0, 1) := by decide +kernel
theorem dL_sound_248 : decode cL_sound 248 = .ok (.invokestatic 139, 3) := by decide +kernel
theorem dL_sound_251 : decode cL_sound 251 = .ok (.ifCond .gt 16, 3) := by decide +kernel
theorem dL_sound_254 : decode cL_sound 254 = .ok (.aload_n 0, 1) := by decide +kernel
theorem dL_sound_255 : decode cL_sound 255 = .ok (.bipush 26, 2) := by decide +kernel
theorem dL_sound_257 : decode cL_sound 257 = .ok (.iload 7, 2) := by decide +kernel
theorem dL_sound_259 : decode cL_sound 259 = .ok (.iconst 0, 1) := by decide +kernel
theorem dL_sound_260 : decode cL_sound 260 = .ok (.iconst 0, 1) := by decide +kernel
theorem dL_sound_261 : decode cL_sound 261 = .ok (.invokestatic 139, 3) := by decide +kernel
theorem dL_sound_264 : decode cL_sound 264 = .ok (.ifCond .le 7, 3) := by decide +kernel
theorem dL_sound_267 : decode cL_sound 267 = .ok (.iconst 1, 1) := by decide +kernel
theorem dL_sound_268 : decode cL_sound 268 = .ok (.goto 4, 3) := by decide +kernel
theorem dL_sound_271 : decode cL_sound 271 = .ok (.iconst 0, 1) := by decide +kernel
theorem dL_sound_272 : decode cL_sound 272 = .ok (.if_icmp .eq 5, 3) := by decide +kernel
theorem dL_sound_275 : decode cL_sound 275 = .ok (.iconst 0, 1) := by decide +kernel
theorem dL_sound_276 : decode cL_sound 276 = .ok (.ireturn, 1) := by decide +kernel
theorem dL_sound_277 : decode cL_sound 277 = .ok (.iinc 7 1, 3) := by decide +kernel
theorem dL_sound_280 : decode cL_sound 280 = .ok (.goto (-196), 3) := by decide +kernel
theorem dL_sound_283 : decode cL_sound 283 = .ok (.iconst 0, 1) := by decide +kernel
theorem dL_sound_284 : decode cL_sound 284 = .ok (.istore 7, 2) := by decide +kernel
theorem dL_sound_286 : decode cL_sound 286 = .ok (.iload 7, 2) := by decide +kernel
theorem dL_sound_288 : decode cL_sound 288 = .ok (.iload_n 1, 1) := by decide +kernel
theorem dL_sound_289 : decode cL_sound 289 = .ok (.if_icmp .ge 43, 3) := by decide +kernel
theorem dL_sound_292 : decode cL_sound 292 = .ok (.iload 4, 2) := by decide +kernel
theorem dL_sound_294 : decode cL_sound 294 = .ok (.aload_n 0, 1) := by decide +kernel
theorem dL_sound_295 : decode cL_sound 295 = .ok (.bipush 15, 2) := by decide +kernel
theorem dL_sound_297 : decode cL_sound 297 = .ok (.iload 7, 2) := by decide +kernel
theorem dL_sound_299 : decode cL_sound 299 = .ok (.iconst 0, 1) := by decide +kernel
theorem dL_sound_300 : decode cL_sound 300 = .ok (.iconst 0, 1) := by decide +kernel
theorem dL_sound_301 : decode cL_sound 301 = .ok (.invokestatic 139, 3) := by decide +kernel
theorem dL_sound_304 : decode cL_sound 304 = .ok (.iadd, 1) := by decide +kernel
theorem dL_sound_305 : decode cL_sound 305 = .ok (.istore 4, 2) := by decide +kernel
theorem dL_sound_307 : decode cL_sound 307 = .ok (.aload_n 0, 1) := by decide +kernel
theorem dL_sound_308 : decode cL_sound 308 = .ok (.bipush 11, 2) := by decide +kernel
theorem dL_sound_310 : decode cL_sound 310 = .ok (.iload 7, 2) := by decide +kernel
theorem dL_sound_312 : decode cL_sound 312 = .ok (.iconst 0, 1) := by decide +kernel
theorem dL_sound_313 : decode cL_sound 313 = .ok (.iconst 0, 1) := by decide +kernel
theorem dL_sound_314 : decode cL_sound 314 = .ok (.invokestatic 139, 3) := by decide +kernel
theorem dL_sound_317 : decode cL_sound 317 = .ok (.aload_n 2, 1) := by decide +kernel
theorem dL_sound_318 : decode cL_sound 318 = .ok (.iload 7, 2) := by decide +kernel
theorem dL_sound_320 : decode cL_sound 320 = .ok (.iaload, 1) := by decide +kernel
theorem dL_sound_321 : decode cL_sound 321 = .ok (.if_icmp .le 5, 3) := by decide +kernel
theorem dL_sound_324 : decode cL_sound 324 = .ok (.iconst 0, 1) := by decide +kernel
theorem dL_sound_325 : decode cL_sound 325 = .ok (.ireturn, 1) := by decide +kernel
theorem dL_sound_326 : decode cL_sound 326 = .ok (.iinc 7 1, 3) := by decide +kernel
theorem dL_sound_329 : decode cL_sound 329 = .ok (.goto (-43), 3) := by decide +kernel
theorem dL_sound_332 : decode cL_sound 332 = .ok (.aload_n 0, 1) := by decide +kernel
theorem dL_sound_333 : decode cL_sound 333 = .ok (.invokevirtual 148, 3) := by decide +kernel
theorem dL_sound_336 : decode cL_sound 336 = .ok (.iload_n 3, 1) := by decide +kernel
theorem dL_sound_337 : decode cL_sound 337 = .ok (.if_icmp .ne 27, 3) := by decide +kernel
theorem dL_sound_340 : decode cL_sound 340 = .ok (.iload 4, 2) := by decide +kernel
theorem dL_sound_342 : decode cL_sound 342 = .ok (.iload_n 3, 1) := by decide +kernel
theorem dL_sound_343 : decode cL_sound 343 = .ok (.if_icmp .gt 21, 3) := by decide +kernel
theorem dL_sound_346 : decode cL_sound 346 = .ok (.iload 6, 2) := by decide +kernel
theorem dL_sound_348 : decode cL_sound 348 = .ok (.iload 5, 2) := by decide +kernel
theorem dL_sound_350 : decode cL_sound 350 = .ok (.if_icmp .lt 14, 3) := by decide +kernel
theorem dL_sound_353 : decode cL_sound 353 = .ok (.aload_n 0, 1) := by decide +kernel
theorem dL_sound_354 : decode cL_sound 354 = .ok (.invokevirtual 154, 3) := by decide +kernel
theorem dL_sound_357 : decode cL_sound 357 = .ok (.ifCond .eq 7, 3) := by decide +kernel
theorem dL_sound_360 : decode cL_sound 360 = .ok (.iconst 1, 1) := by decide +kernel
theorem dL_sound_361 : decode cL_sound 361 = .ok (.goto 4, 3) := by decide +kernel
theorem dL_sound_364 : decode cL_sound 364 = .ok (.iconst 0, 1) := by decide +kernel
theorem dL_sound_365 : decode cL_sound 365 = .ok (.ireturn, 1) := by decide +kernel
theorem dL_law_0 : decode cL_law 0 = .ok (.new 10, 3) := by decide +kernel
theorem dL_law_3 : decode cL_law 3 = .ok (.dup, 1) := by decide +kernel
theorem dL_law_4 : decode cL_law 4 = .ok (.invokespecial 158, 3) := by decide +kernel
theorem dL_law_7 : decode cL_law 7 = .ok (.astore_n 1, 1) := by decide +kernel
theorem dL_law_8 : decode cL_law 8 = .ok (.iconst 4, 1) := by decide +kernel
theorem dL_law_9 : decode cL_law 9 = .ok (.newarray .int, 2) := by decide +kernel
theorem dL_law_11 : decode cL_law 11 = .ok (.astore_n 2, 1) := by decide +kernel
theorem dL_law_12 : decode cL_law 12 = .ok (.sipush 520, 3) := by decide +kernel
theorem dL_law_15 : decode cL_law 15 = .ok (.newarray .int, 2) := by decide +kernel
theorem dL_law_17 : decode cL_law 17 = .ok (.astore_n 3, 1) := by decide +kernel
theorem dL_law_18 : decode cL_law 18 = .ok (.iconst 0, 1) := by decide +kernel
theorem dL_law_19 : decode cL_law 19 = .ok (.istore 4, 2) := by decide +kernel
theorem dL_law_21 : decode cL_law 21 = .ok (.iconst 0, 1) := by decide +kernel
theorem dL_law_22 : decode cL_law 22 = .ok (.istore 5, 2) := by decide +kernel
theorem dL_law_24 : decode cL_law 24 = .ok (.iconst 0, 1) := by decide +kernel
theorem dL_law_25 : decode cL_law 25 = .ok (.istore 6, 2) := by decide +kernel
theorem dL_law_27 : decode cL_law 27 = .ok (.iconst 0, 1) := by decide +kernel
theorem dL_law_28 : decode cL_law 28 = .ok (.istore 7, 2) := by decide +kernel
theorem dL_law_30 : decode cL_law 30 = .ok (.iconst 0, 1) := by decide +kernel
theorem dL_law_31 : decode cL_law 31 = .ok (.istore 8, 2) := by decide +kernel
theorem dL_law_33 : decode cL_law 33 = .ok (.iload 8, 2) := by decide +kernel
theorem dL_law_35 : decode cL_law 35 = .ok (.bipush 46, 2) := by decide +kernel
theorem dL_law_37 : decode cL_law 37 = .ok (.if_icmp .ge 1073, 3) := by decide +kernel
theorem dL_law_40 : decode cL_law 40 = .ok (.aload_n 0, 1) := by decide +kernel
theorem dL_law_41 : decode cL_law 41 = .ok (.iload 8, 2) := by decide +kernel
theorem dL_law_43 : decode cL_law 43 = .ok (.invokestatic 159, 3) := by decide +kernel
theorem dL_law_46 : decode cL_law 46 = .ok (.istore 9, 2) := by decide +kernel
theorem dL_law_48 : decode cL_law 48 = .ok (.iload 9, 2) := by decide +kernel
theorem dL_law_50 : decode cL_law 50 = .ok (.iconst 5, 1) := by decide +kernel
theorem dL_law_51 : decode cL_law 51 = .ok (.ishr, 1) := by decide +kernel
theorem dL_law_52 : decode cL_law 52 = .ok (.aload_n 1, 1) := by decide +kernel
theorem dL_law_53 : decode cL_law 53 = .ok (.invokevirtual 134, 3) := by decide +kernel
theorem dL_law_56 : decode cL_law 56 = .ok (.iconst 1, 1) := by decide +kernel
theorem dL_law_57 : decode cL_law 57 = .ok (.iadd, 1) := by decide +kernel
theorem dL_law_58 : decode cL_law 58 = .ok (.invokestatic 163, 3) := by decide +kernel
theorem dL_law_61 : decode cL_law 61 = .ok (.istore 10, 2) := by decide +kernel
theorem dL_law_63 : decode cL_law 63 = .ok (.iload 9, 2) := by decide +kernel
theorem dL_law_65 : decode cL_law 65 = .ok (.iconst 5, 1) := by decide +kernel
theorem dL_law_66 : decode cL_law 66 = .ok (.ishr, 1) := by decide +kernel
theorem dL_law_67 : decode cL_law 67 = .ok (.iload 5, 2) := by decide +kernel
theorem dL_law_69 : decode cL_law 69 = .ok (.iconst 1, 1) := by decide +kernel
theorem dL_law_70 : decode cL_law 70 = .ok (.iadd, 1) := by decide +kernel
theorem dL_law_71 : decode cL_law 71 = .ok (.invokestatic 163, 3) := by decide +kernel
theorem dL_law_74 : decode cL_law 74 = .ok (.istore 11, 2) := by decide +kernel
theorem dL_law_76 : decode cL_law 76 = .ok (.iload 9, 2) := by decide +kernel
theorem dL_law_78 : decode cL_law 78 = .ok (.bipush 10, 2) := by decide +kernel
theorem dL_law_80 : decode cL_law 80 = .ok (.ishr, 1) := by decide +kernel
theorem dL_law_81 : decode cL_law 81 = .ok (.bipush 16, 2) := by decide +kernel
theorem dL_law_83 : decode cL_law 83 = .ok (.iload 9, 2) := by decide +kernel
theorem dL_law_85 : decode cL_law 85 = .ok (.bipush 29, 2) := by decide +kernel
theorem dL_law_87 : decode cL_law 87 = .ok (.invokestatic 163, 3) := by decide +kernel
theorem dL_law_90 : decode cL_law 90 = .ok (.ifCond .ne 7, 3) := by decide +kernel
theorem dL_law_93 : decode cL_law 93 = .ok (.iconst 1, 1) := by decide +kernel
theorem dL_law_94 : decode cL_law 94 = .ok (.goto 4, 3) := by decide +kernel
theorem dL_law_97 : decode cL_law 97 = .ok (.iconst 0, 1) := by decide +kernel
theorem dL_law_98 : decode cL_law 98 = .ok (.iadd, 1) := by decide +kernel
theorem dL_law_99 : decode cL_law 99 = .ok (.invokestatic 163, 3) := by decide +kernel
theorem dL_law_102 : decode cL_law 102 = .ok (.istore 12, 2) := by decide +kernel
theorem dL_law_104 : decode cL_law 104 = .ok (.iload 8, 2) := by decide +kernel
theorem dL_law_106 : decode cL_law 106 = .ok (.iconst 2, 1) := by decide +kernel
theorem dL_law_107 : decode cL_law 107 = .ok (.if_icmp .ge 7, 3) := by decide +kernel
theorem dL_law_110 : decode cL_law 110 = .ok (.iconst 0, 1) := by decide +kernel
theorem dL_law_111 : decode cL_law 111 = .ok (.goto 18, 3) := by decide +kernel
theorem dL_law_114 : decode cL_law 114 = .ok (.iload 8, 2) := by decide +kernel
theorem dL_law_116 : decode cL_law 116 = .ok (.iconst 4, 1) := by decide +kernel
theorem dL_law_117 : decode cL_law 117 = .ok (.if_icmp .ge 7, 3) := by decide +kernel
theorem dL_law_120 : decode cL_law 120 = .ok (.iconst 1, 1) := by decide +kernel
theorem dL_law_121 : decode cL_law 121 = .ok (.goto 8, 3) := by decide +kernel
theorem dL_law_124 : decode cL_law 124 = .ok (.iload 9, 2) := by decide +kernel
theorem dL_law_126 : decode cL_law 126 = .ok (.bipush 31, 2) := by decide +kernel
theorem dL_law_128 : decode cL_law 128 = .ok (.iand, 1) := by decide +kernel
theorem dL_law_129 : decode cL_law 129 = .ok (.istore 13, 2) := by decide +kernel
theorem dL_law_131 : decode cL_law 131 = .ok (.aload_n 1, 1) := by decide +kernel
theorem dL_law_132 : decode cL_law 132 = .ok (.iload 5, 2) := by decide +kernel
theorem dL_law_134 : decode cL_law 134 = .ok (.iload 6, 2) := by decide +kernel
theorem dL_law_136 : decode cL_law 136 = .ok (.iload 7, 2) := by decide +kernel
theorem dL_law_138 : decode cL_law 138 = .ok (.invokestatic 166, 3) := by decide +kernel
theorem dL_law_141 : decode cL_law 141 = .ok (.lstore 14, 2) := by decide +kernel
theorem dL_law_143 : decode cL_law 143 = .ok (.iconst 0, 1) := by decide +kernel
theorem dL_law_144 : decode cL_law 144 = .ok (.istore 16, 2) := by decide +kernel
theorem dL_law_146 : decode cL_law 146 = .ok (.iload 13, 2) := by decide +kernel
theorem dL_law_148 : decode cL_law 148 = .ok (.ifCond .ne 42, 3) := by decide +kernel
theorem dL_law_151 : decode cL_law 151 = .ok (.iload 9, 2) := by decide +kernel
theorem dL_law_153 : decode cL_law 153 = .ok (.iconst 5, 1) := by decide +kernel
theorem dL_law_154 : decode cL_law 154 = .ok (.ishr, 1) := by decide +kernel
theorem dL_law_155 : decode cL_law 155 = .ok (.bipush 70, 2) := by decide +kernel
theorem dL_law_157 : decode cL_law 157 = .ok (.invokestatic 163, 3) := by decide +kernel
theorem dL_law_160 : decode cL_law 160 = .ok (.istore 17, 2) := by decide +kernel
theorem dL_law_162 : decode cL_law 162 = .ok (.aload_n 1, 1) := by decide +kernel
theorem dL_law_163 : decode cL_law 163 = .ok (.iconst 0, 1) := by decide +kernel
theorem dL_law_164 : decode cL_law 164 = .ok (.iload 17, 2) := by decide +kernel
theorem dL_law_166 : decode cL_law 166 = .ok (.iconst 0, 1) := by decide +kernel
theorem dL_law_167 : decode cL_law 167 = .ok (.iconst 0, 1) := by decide +kernel
theorem dL_law_168 : decode cL_law 168 = .ok (.invokestatic 139, 3) := by decide +kernel
theorem dL_law_171 : decode cL_law 171 = .ok (.istore 16, 2) := by decide +kernel
theorem dL_law_173 : decode cL_law 173 = .ok (.iload 16, 2) := by decide +kernel
theorem dL_law_175 : decode cL_law 175 = .ok (.ifCond .lt 12, 3) := by decide +kernel
theorem dL_law_178 : decode cL_law 178 = .ok (.aload_n 2, 1) := by decide +kernel
theorem dL_law_179 : decode cL_law 179 = .ok (.iload 16, 2) := by decide +kernel
theorem dL_law_181 : decode cL_law 181 = .ok (.iload 17, 2) := by decide +kernel
theorem dL_law_183 : decode cL_law 183 = .ok (.iastore, 1) := by decide +kernel
theorem dL_law_184 : decode cL_law 184 = .ok (.iinc 5 1, 3) := by decide +kernel
theorem dL_law_187 : decode cL_law 187 = .ok (.goto 797, 3) := by decide +kernel
theorem dL_law_190 : decode cL_law 190 = .ok (.iload 13, 2) := by decide +kernel
theorem dL_law_192 : decode cL_law 192 = .ok (.iconst 4, 1) := by decide +kernel
theorem dL_law_193 : decode cL_law 193 = .ok (.if_icmp .ge 47, 3) := by decide +kernel
theorem dL_law_196 : decode cL_law 196 = .ok (.aload_n 1, 1) := by decide +kernel
theorem dL_law_197 : decode cL_law 197 = .ok (.iconst 1, 1) := by decide +kernel
theorem dL_law_198 : decode cL_law 198 = .ok (.iload 11, 2) := by decide +kernel
theorem dL_law_200 : decode cL_law 200 = .ok (.iconst 0, 1) := by decide +kernel
theorem dL_law_201 : decode cL_law 201 = .ok (.iconst 0, 1) := by decide +kernel
theorem dL_law_202 : decode cL_law 202 = .ok (.invokestatic 139, 3) := by decide +kernel
theorem dL_law_205 : decode cL_law 205 = .ok (.istore 16, 2) := by decide +kernel
theorem dL_law_207 : decode cL_law 207 = .ok (.iload 16, 2) := by decide +kernel
theorem dL_law_209 : decode cL_law 209 = .ok (.ifCond .lt 775, 3) := by decide +kernel
theorem dL_law_212 : decode cL_law 212 = .ok (.aload_n 1, 1) := by decide +kernel
theorem dL_law_213 : decode cL_law 213 = .ok (.iconst 3, 1) := by decide +kernel
theorem dL_law_214 : decode cL_law 214 = .ok (.iload 16, 2) := by decide +kernel
theorem dL_law_216 : decode cL_law 216 = .ok (.iconst 0, 1) := by decide +kernel
theorem dL_law_217 : decode cL_law 217 = .ok (.iconst 0, 1) := by decide +kernel
theorem dL_law_218 : decode cL_law 218 = .ok (.invokestatic 139, 3) := by decide +kernel
theorem dL_law_221 : decode cL_law 221 = .ok (.iconst 1, 1) := by decide +kernel
theorem dL_law_222 : decode cL_law 222 = .ok (.if_icmp .ne 16, 3) := by decide +kernel
theorem dL_law_225 : decode cL_law 225 = .ok (.aload_n 1, 1) := by decide +kernel
theorem dL_law_226 : decode cL_law 226 = .ok (.bipush 10, 2) := by decide +kernel
theorem dL_law_228 : decode cL_law 228 = .ok (.iload 16, 2) := by decide +kernel
theorem dL_law_230 : decode cL_law 230 = .ok (.iconst 0, 1) := by decide +kernel
theorem dL_law_231 : decode cL_law 231 = .ok (.iconst 0, 1) := by decide +kernel
theorem dL_law_232 : decode cL_law 232 = .ok (.invokestatic 139, 3) := by decide +kernel
theorem dL_law_235 : decode cL_law 235 = .ok (.ifCond .eq 749, 3) := by decide +kernel
theorem dL_law_238 : decode cL_law 238 = .ok (.iconst 0, 1) := by decide +kernel
theorem dL_law_239 : decode cL_law 239 = .ok (.ireturn, 1) := by decide +kernel
theorem dL_law_240 : decode cL_law 240 = .ok (.iload 13, 2) := by decide +kernel
theorem dL_law_242 : decode cL_law 242 = .ok (.bipush 13, 2) := by decide +kernel
theorem dL_law_244 : decode cL_law 244 = .ok (.if_icmp .ge 86, 3) := by decide +kernel
theorem dL_law_247 : decode cL_law 247 = .ok (.iload 9, 2) := by decide +kernel
theorem dL_law_249 : decode cL_law 249 = .ok (.bipush 14, 2) := by decide +kernel
theorem dL_law_251 : decode cL_law 251 = .ok (.ishr, 1) := by decide +kernel
theorem dL_law_252 : decode cL_law 252 = .ok (.sipush 1010, 3) := by decide +kernel
theorem dL_law_255 : decode cL_law 255 = .ok (.invokestatic 163, 3) := by decide +kernel
theorem dL_law_258 : decode cL_law 258 = .ok (.istore 17, 2) := by decide +kernel
theorem dL_law_260 : decode cL_law 260 = .ok (.aload_n 1, 1) := by decide +kernel
theorem dL_law_261 : decode cL_law 261 = .ok (.bipush 6, 2) := by decide +kernel
theorem dL_law_263 : decode cL_law 263 = .ok (.iload 10, 2) := by decide +kernel
theorem dL_law_265 : decode cL_law 265 = .ok (.iload 12, 2) := by decide +kernel
theorem dL_law_267 : decode cL_law 267 = .ok (.iload 17, 2) := by decide +kernel
theorem dL_law_269 : decode cL_law 269 = .ok (.invokestatic 139, 3) := by decide +kernel
theorem dL_law_272 : decode cL_law 272 = .ok (.istore 16, 2) := by decide +kernel
theorem dL_law_274 : decode cL_law 274 = .ok (.iload 16, 2) := by decide +kernel
theorem dL_law_276 : decode cL_law 276 = .ok (.ifCond .lt 51, 3) := by decide +kernel
theorem dL_law_279 : decode cL_law 279 = .ok (.aload_n 1, 1) := by decide +kernel
theorem dL_law_280 : decode cL_law 280 = .ok (.bipush 8, 2) := by decide +kernel
theorem dL_law_282 : decode cL_law 282 = .ok (.iload 10, 2) := by decide +kernel
theorem dL_law_284 : decode cL_law 284 = .ok (.iload 12, 2) := by decide +kernel
theorem dL_law_286 : decode cL_law 286 = .ok (.iconst 0, 1) := by decide +kernel
theorem dL_law_287 : decode cL_law 287 = .ok (.invokestatic 139, 3) := by decide +kernel
theorem dL_law_290 : decode cL_law 290 = .ok (.iload 17, 2) := by decide +kernel
theorem dL_law_292 : decode cL_law 292 = .ok (.if_icmp .ne 33, 3) := by decide +kernel
theorem dL_law_295 : decode cL_law 295 = .ok (.aload_n 1, 1) := by decide +kernel
theorem dL_law_296 : decode cL_law 296 = .ok (.bipush 9, 2) := by decide +kernel
theorem dL_law_298 : decode cL_law 298 = .ok (.iload 10, 2) := by decide +kernel
theorem dL_law_300 : decode cL_law 300 = .ok (.iload 12, 2) := by decide +kernel
theorem dL_law_302 : decode cL_law 302 = .ok (.iconst 0, 1) := by decide +kernel
theorem dL_law_303 : decode cL_law 303 = .ok (.invokestatic 139, 3) := by decide +kernel
theorem dL_law_306 : decode cL_law 306 = .ok (.iload 16, 2) := by decide +kernel
theorem dL_law_308 : decode cL_law 308 = .ok (.if_icmp .ne 17, 3) := by decide +kernel
theorem dL_law_311 : decode cL_law 311 = .ok (.aload_n 1, 1) := by decide +kernel
theorem dL_law_312 : decode cL_law 312 = .ok (.bipush 12, 2) := by decide +kernel
theorem dL_law_314 : decode cL_law 314 = .ok (.iload 16, 2) := by decide +kernel
theorem dL_law_316 : decode cL_law 316 = .ok (.iconst 0, 1) := by decide +kernel
theorem dL_law_317 : decode cL_law 317 = .ok (.iconst 0, 1) := by decide +kernel
theorem dL_law_318 : decode cL_law 318 = .ok (.invokestatic 139, 3) := by decide +kernel
theorem dL_law_321 : decode cL_law 321 = .ok (.iconst 1, 1) := by decide +kernel
theorem dL_law_322 : decode cL_law 322 = .ok (.if_icmp .eq 5, 3) := by decide +kernel
theorem dL_law_325 : decode cL_law 325 = .ok (.iconst 0, 1) := by decide +kernel
theorem dL_law_326 : decode cL_law 326 = .ok (.ireturn, 1) := by decide +kernel
theorem dL_law_327 : decode cL_law 327 = .ok (.goto 657, 3) := by decide +kernel
theorem dL_law_330 : decode cL_law 330 = .ok (.iload 13, 2) := by decide +kernel
theorem dL_law_332 : decode cL_law 332 = .ok (.bipush 13, 2) := by decide +kernel
theorem dL_law_334 : decode cL_law 334 = .ok (.if_icmp .ne 40, 3) := by decide +kernel
theorem dL_law_337 : decode cL_law 337 = .ok (.aload_n 1, 1) := by decide +kernel
theorem dL_law_338 : decode cL_law 338 = .ok (.bipush 7, 2) := by decide +kernel
theorem dL_law_340 : decode cL_law 340 = .ok (.iload 10, 2) := by decide +kernel
theorem dL_law_342 : decode cL_law 342 = .ok (.iload 12, 2) := by decide +kernel
theorem dL_law_344 : decode cL_law 344 = .ok (.iconst 0, 1) := by decide +kernel
theorem dL_law_345 : decode cL_law 345 = .ok (.invokestatic 139, 3) := by decide +kernel
theorem dL_law_348 : decode cL_law 348 = .ok (.istore 16, 2) := by decide +kernel
theorem dL_law_350 : decode cL_law 350 = .ok (.iload 16, 2) := by decide +kernel
theorem dL_law_352 : decode cL_law 352 = .ok (.ifCond .lt 632, 3) := by decide +kernel
theorem dL_law_355 : decode cL_law 355 = .ok (.aload_n 1, 1) := by decide +kernel
theorem dL_law_356 : decode cL_law 356 = .ok (.bipush 8, 2) := by decide +kernel
theorem dL_law_358 : decode cL_law 358 = .ok (.iload 10, 2) := by decide +kernel
theorem dL_law_360 : decode cL_law 360 = .ok (.iload 12, 2) := by decide +kernel
theorem dL_law_362 : decode cL_law 362 = .ok (.iconst 0, 1) := by decide +kernel
theorem dL_law_363 : decode cL_law 363 = .ok (.invokestatic 139, 3) := by decide +kernel
theorem dL_law_366 : decode cL_law 366 = .ok (.sipush (-1005), 3) := by decide +kernel
theorem dL_law_369 : decode cL_law 369 = .ok (.if_icmp .eq 615, 3) := by decide +kernel
theorem dL_law_372 : decode cL_law 372 = .ok (.iconst 0, 1) := by decide +kernel
theorem dL_law_373 : decode cL_law 373 = .ok (.ireturn, 1) := by decide +kernel
theorem dL_law_374 : decode cL_law 374 = .ok (.iload 13, 2) := by decide +kernel
theorem dL_law_376 : decode cL_law 376 = .ok (.bipush 14, 2) := by decide +kernel
theorem dL_law_378 : decode cL_law 378 = .ok (.if_icmp .ne 17, 3) := by decide +kernel
theorem dL_law_381 : decode cL_law 381 = .ok (.aload_n 1, 1) := by decide +kernel
theorem dL_law_382 : decode cL_law 382 = .ok (.iconst 4, 1) := by decide +kernel
theorem dL_law_383 : decode cL_law 383 = .ok (.iload 10, 2) := by decide +kernel
theorem dL_law_385 : decode cL_law 385 = .ok (.iconst 0, 1) := by decide +kernel
theorem dL_law_386 : decode cL_law 386 = .ok (.iconst 0, 1) := by decide +kernel
theorem dL_law_387 : decode cL_law 387 = .ok (.invokestatic 139, 3) := by decide +kernel
theorem dL_law_390 : decode cL_law 390 = .ok (.istore 16, 2) := by decide +kernel
theorem dL_law_392 : decode cL_law 392 = .ok (.goto 592, 3) := by decide +kernel
theorem dL_law_395 : decode cL_law 395 = .ok (.iload 13, 2) := by decide +kernel
theorem dL_law_397 : decode cL_law 397 = .ok (.bipush 17, 2) := by decide +kernel
theorem dL_law_399 : decode cL_law 399 = .ok (.if_icmp .ge 17, 3) := by decide +kernel
theorem dL_law_402 : decode cL_law 402 = .ok (.aload_n 1, 1) := by decide +kernel
theorem dL_law_403 : decode cL_law 403 = .ok (.iconst 5, 1) := by decide +kernel
theorem dL_law_404 : decode cL_law 404 = .ok (.iload 10, 2) := by decide +kernel
theorem dL_law_406 : decode cL_law 406 = .ok (.iconst 0, 1) := by decide +kernel
theorem dL_law_407 : decode cL_law 407 = .ok (.iconst 0, 1) := by decide +kernel
theorem dL_law_408 : decode cL_law 408 = .ok (.invokestatic 139, 3) := by decide +kernel
theorem dL_law_411 : decode cL_law 411 = .ok (.istore 16, 2) := by decide +kernel
theorem dL_law_413 : decode cL_law 413 = .ok (.goto 571, 3) := by decide +kernel
theorem dL_law_416 : decode cL_law 416 = .ok (.iload 13, 2) := by decide +kernel
theorem dL_law_418 : decode cL_law 418 = .ok (.bipush 17, 2) := by decide +kernel
theorem dL_law_420 : decode cL_law 420 = .ok (.if_icmp .ne 27, 3) := by decide +kernel
theorem dL_law_423 : decode cL_law 423 = .ok (.aload_n 1, 1) := by decide +kernel
theorem dL_law_424 : decode cL_law 424 = .ok (.bipush 14, 2) := by decide +kernel
theorem dL_law_426 : decode cL_law 426 = .ok (.iload 11, 2) := by decide +kernel
theorem dL_law_428 : decode cL_law 428 = .ok (.iload 9, 2) := by decide +kernel
theorem dL_law_430 : decode cL_law 430 = .ok (.bipush 8, 2) := by decide +kernel
theorem dL_law_432 : decode cL_law 432 = .ok (.ishr, 1) := by decide +kernel
theorem dL_law_433 : decode cL_law 433 = .ok (.bipush 9, 2) := by decide +kernel
theorem dL_law_435 : decode cL_law 435 = .ok (.invokestatic 163, 3) := by decide +kernel
theorem dL_law_438 : decode cL_law 438 = .ok (.iconst 0, 1) := by decide +kernel
theorem dL_law_439 : decode cL_law 439 = .ok (.invokestatic 139, 3) := by decide +kernel
theorem dL_law_442 : decode cL_law 442 = .ok (.istore 16, 2) := by decide +kernel
theorem dL_law_444 : decode cL_law 444 = .ok (.goto 540, 3) := by decide +kernel
theorem dL_law_447 : decode cL_law 447 = .ok (.iload 13, 2) := by decide +kernel
theorem dL_law_449 : decode cL_law 449 = .ok (.bipush 18, 2) := by decide +kernel
theorem dL_law_451 : decode cL_law 451 = .ok (.if_icmp .ne 18, 3) := by decide +kernel
theorem dL_law_454 : decode cL_law 454 = .ok (.aload_n 1, 1) := by decide +kernel
theorem dL_law_455 : decode cL_law 455 = .ok (.bipush 16, 2) := by decide +kernel
theorem dL_law_457 : decode cL_law 457 = .ok (.iload 11, 2) := by decide +kernel
theorem dL_law_459 : decode cL_law 459 = .ok (.iconst 0, 1) := by decide +kernel
theorem dL_law_460 : decode cL_law 460 = .ok (.iconst 0, 1) := by decide +kernel
theorem dL_law_461 : decode cL_law 461 = .ok (.invokestatic 139, 3) := by decide +kernel
theorem dL_law_464 : decode cL_law 464 = .ok (.istore 16, 2) := by decide +kernel
theorem dL_law_466 : decode cL_law 466 = .ok (.goto 518, 3) := by decide +kernel
theorem dL_law_469 : decode cL_law 469 = .ok (.iload 13, 2) := by decide +kernel
theorem dL_law_471 : decode cL_law 471 = .ok (.bipush 22, 2) := by decide +kernel
theorem dL_law_473 : decode cL_law 473 = .ok (.if_icmp .ge 158, 3) := by decide +kernel
theorem dL_law_476 : decode cL_law 476 = .ok (.aload_n 1, 1) := by decide +kernel
theorem dL_law_477 : decode cL_law 477 = .ok (.bipush 17, 2) := by decide +kernel
theorem dL_law_479 : decode cL_law 479 = .ok (.iload 9, 2) := by decide +kernel
theorem dL_law_481 : decode cL_law 481 = .ok (.iconst 5, 1) := by decide +kernel
theorem dL_law_482 : decode cL_law 482 = .ok (.ishr, 1) := by decide +kernel
theorem dL_law_483 : decode cL_law 483 = .ok (.bipush 11, 2) := by decide +kernel
theorem dL_law_485 : decode cL_law 485 = .ok (.invokestatic 163, 3) := by decide +kernel
theorem dL_law_488 : decode cL_law 488 = .ok (.iconst 0, 1) := by decide +kernel
theorem dL_law_489 : decode cL_law 489 = .ok (.iconst 0, 1) := by decide +kernel
theorem dL_law_490 : decode cL_law 490 = .ok (.invokestatic 139, 3) := by decide +kernel
theorem dL_law_493 : decode cL_law 493 = .ok (.istore 16, 2) := by decide +kernel
theorem dL_law_495 : decode cL_law 495 = .ok (.iload 16, 2) := by decide +kernel
theorem dL_law_497 : decode cL_law 497 = .ok (.ifCond .lt 487, 3) := by decide +kernel
theorem dL_law_500 : decode cL_law 500 = .ok (.iinc 6 1, 3) := by decide +kernel
theorem dL_law_503 : decode cL_law 503 = .ok (.iconst 0, 1) := by decide +kernel
theorem dL_law_504 : decode cL_law 504 = .ok (.istore 17, 2) := by decide +kernel
theorem dL_law_506 : decode cL_law 506 = .ok (.iload 17, 2) := by decide +kernel
theorem dL_law_508 : decode cL_law 508 = .ok (.iconst 4, 1) := by decide +kernel
end
section
theorem dL_law_509 : decode cL_law 509 = .ok (.if_icmp .ge 119, 3) := by decide +kernel
theorem dL_law_512 : decode cL_law 512 = .ok (.aload_n 1, 1) := by decide +kernel
theorem dL_law_513 : decode cL_law 513 = .ok (.invokevirtual 134, 3) := by decide +kernel
theorem dL_law_516 : decode cL_law 516 = .ok (.ifCond .le 112, 3) := by decide +kernel
theorem dL_law_519 : decode cL_law 519 = .ok (.iload 9, 2) := by decide +kernel
theorem dL_law_521 : decode cL_law 521 = .ok (.iconst 3, 1) := by decide +kernel
theorem dL_law_522 : decode cL_law 522 = .ok (.iload 17, 2) := by decide +kernel
theorem dL_law_524 : decode cL_law 524 = .ok (.imul, 1) := by decide +kernel
theorem dL_law_525 : decode cL_law 525 = .ok (.ishr, 1) := by decide +kernel
theorem dL_law_526 : decode cL_law 526 = .ok (.aload_n 1, 1) := by decide +kernel
theorem dL_law_527 : decode cL_law 527 = .ok (.invokevirtual 134, 3) := by decide +kernel
theorem dL_law_530 : decode cL_law 530 = .ok (.invokestatic 163, 3) := by decide +kernel
theorem dL_law_533 : decode cL_law 533 = .ok (.istore 18, 2) := by decide +kernel
theorem dL_law_535 : decode cL_law 535 = .ok (.iload 9, 2) := by decide +kernel
theorem dL_law_537 : decode cL_law 537 = .ok (.iconst 5, 1) := by decide +kernel
theorem dL_law_538 : decode cL_law 538 = .ok (.iload 17, 2) := by decide +kernel
theorem dL_law_540 : decode cL_law 540 = .ok (.iadd, 1) := by decide +kernel
theorem dL_law_541 : decode cL_law 541 = .ok (.ishr, 1) := by decide +kernel
theorem dL_law_542 : decode cL_law 542 = .ok (.bipush 16, 2) := by decide +kernel
theorem dL_law_544 : decode cL_law 544 = .ok (.invokestatic 163, 3) := by decide +kernel
theorem dL_law_547 : decode cL_law 547 = .ok (.istore 19, 2) := by decide +kernel
theorem dL_law_549 : decode cL_law 549 = .ok (.aload_n 1, 1) := by decide +kernel
theorem dL_law_550 : decode cL_law 550 = .ok (.bipush 8, 2) := by decide +kernel
theorem dL_law_552 : decode cL_law 552 = .ok (.iload 18, 2) := by decide +kernel
theorem dL_law_554 : decode cL_law 554 = .ok (.iload 19, 2) := by decide +kernel
theorem dL_law_556 : decode cL_law 556 = .ok (.iconst 0, 1) := by decide +kernel
theorem dL_law_557 : decode cL_law 557 = .ok (.invokestatic 139, 3) := by decide +kernel
theorem dL_law_560 : decode cL_law 560 = .ok (.istore 20, 2) := by decide +kernel
theorem dL_law_562 : decode cL_law 562 = .ok (.aload_n 1, 1) := by decide +kernel
theorem dL_law_563 : decode cL_law 563 = .ok (.bipush 19, 2) := by decide +kernel
theorem dL_law_565 : decode cL_law 565 = .ok (.iload 16, 2) := by decide +kernel
theorem dL_law_567 : decode cL_law 567 = .ok (.iload 18, 2) := by decide +kernel
theorem dL_law_569 : decode cL_law 569 = .ok (.iload 19, 2) := by decide +kernel
theorem dL_law_571 : decode cL_law 571 = .ok (.invokestatic 139, 3) := by decide +kernel
theorem dL_law_574 : decode cL_law 574 = .ok (.iload 20, 2) := by decide +kernel
theorem dL_law_576 : decode cL_law 576 = .ok (.if_icmp .eq 5, 3) := by decide +kernel
theorem dL_law_579 : decode cL_law 579 = .ok (.iconst 0, 1) := by decide +kernel
theorem dL_law_580 : decode cL_law 580 = .ok (.ireturn, 1) := by decide +kernel
theorem dL_law_581 : decode cL_law 581 = .ok (.aload_n 3, 1) := by decide +kernel
theorem dL_law_582 : decode cL_law 582 = .ok (.iconst 4, 1) := by decide +kernel
theorem dL_law_583 : decode cL_law 583 = .ok (.iload 4, 2) := by decide +kernel
theorem dL_law_585 : decode cL_law 585 = .ok (.imul, 1) := by decide +kernel
theorem dL_law_586 : decode cL_law 586 = .ok (.iload 16, 2) := by decide +kernel
theorem dL_law_588 : decode cL_law 588 = .ok (.iastore, 1) := by decide +kernel
theorem dL_law_589 : decode cL_law 589 = .ok (.aload_n 3, 1) := by decide +kernel
theorem dL_law_590 : decode cL_law 590 = .ok (.iconst 4, 1) := by decide +kernel
theorem dL_law_591 : decode cL_law 591 = .ok (.iload 4, 2) := by decide +kernel
theorem dL_law_593 : decode cL_law 593 = .ok (.imul, 1) := by decide +kernel
theorem dL_law_594 : decode cL_law 594 = .ok (.iconst 1, 1) := by decide +kernel
theorem dL_law_595 : decode cL_law 595 = .ok (.iadd, 1) := by decide +kernel
theorem dL_law_596 : decode cL_law 596 = .ok (.iload 18, 2) := by decide +kernel
theorem dL_law_598 : decode cL_law 598 = .ok (.iastore, 1) := by decide +kernel
theorem dL_law_599 : decode cL_law 599 = .ok (.aload_n 3, 1) := by decide +kernel
theorem dL_law_600 : decode cL_law 600 = .ok (.iconst 4, 1) := by decide +kernel
theorem dL_law_601 : decode cL_law 601 = .ok (.iload 4, 2) := by decide +kernel
theorem dL_law_603 : decode cL_law 603 = .ok (.imul, 1) := by decide +kernel
theorem dL_law_604 : decode cL_law 604 = .ok (.iconst 2, 1) := by decide +kernel
theorem dL_law_605 : decode cL_law 605 = .ok (.iadd, 1) := by decide +kernel
theorem dL_law_606 : decode cL_law 606 = .ok (.iload 19, 2) := by decide +kernel
theorem dL_law_608 : decode cL_law 608 = .ok (.iastore, 1) := by decide +kernel
theorem dL_law_609 : decode cL_law 609 = .ok (.aload_n 3, 1) := by decide +kernel
theorem dL_law_610 : decode cL_law 610 = .ok (.iconst 4, 1) := by decide +kernel
theorem dL_law_611 : decode cL_law 611 = .ok (.iload 4, 2) := by decide +kernel
theorem dL_law_613 : decode cL_law 613 = .ok (.imul, 1) := by decide +kernel
theorem dL_law_614 : decode cL_law 614 = .ok (.iconst 3, 1) := by decide +kernel
theorem dL_law_615 : decode cL_law 615 = .ok (.iadd, 1) := by decide +kernel
theorem dL_law_616 : decode cL_law 616 = .ok (.iload 20, 2) := by decide +kernel
theorem dL_law_618 : decode cL_law 618 = .ok (.iastore, 1) := by decide +kernel
theorem dL_law_619 : decode cL_law 619 = .ok (.iinc 4 1, 3) := by decide +kernel
theorem dL_law_622 : decode cL_law 622 = .ok (.iinc 17 1, 3) := by decide +kernel
theorem dL_law_625 : decode cL_law 625 = .ok (.goto (-119), 3) := by decide +kernel
theorem dL_law_628 : decode cL_law 628 = .ok (.goto 356, 3) := by decide +kernel
theorem dL_law_631 : decode cL_law 631 = .ok (.iload 13, 2) := by decide +kernel
theorem dL_law_633 : decode cL_law 633 = .ok (.bipush 22, 2) := by decide +kernel
theorem dL_law_635 : decode cL_law 635 = .ok (.if_icmp .ne 56, 3) := by decide +kernel
theorem dL_law_638 : decode cL_law 638 = .ok (.aload_n 1, 1) := by decide +kernel
theorem dL_law_639 : decode cL_law 639 = .ok (.bipush 21, 2) := by decide +kernel
theorem dL_law_641 : decode cL_law 641 = .ok (.iconst 0, 1) := by decide +kernel
theorem dL_law_642 : decode cL_law 642 = .ok (.iconst 0, 1) := by decide +kernel
theorem dL_law_643 : decode cL_law 643 = .ok (.iconst 0, 1) := by decide +kernel
theorem dL_law_644 : decode cL_law 644 = .ok (.invokestatic 139, 3) := by decide +kernel
theorem dL_law_647 : decode cL_law 647 = .ok (.istore 17, 2) := by decide +kernel
theorem dL_law_649 : decode cL_law 649 = .ok (.aload_n 1, 1) := by decide +kernel
theorem dL_law_650 : decode cL_law 650 = .ok (.bipush 20, 2) := by decide +kernel
theorem dL_law_652 : decode cL_law 652 = .ok (.iload 9, 2) := by decide +kernel
theorem dL_law_654 : decode cL_law 654 = .ok (.iconst 5, 1) := by decide +kernel
theorem dL_law_655 : decode cL_law 655 = .ok (.ishr, 1) := by decide +kernel
theorem dL_law_656 : decode cL_law 656 = .ok (.bipush 10, 2) := by decide +kernel
theorem dL_law_658 : decode cL_law 658 = .ok (.invokestatic 163, 3) := by decide +kernel
theorem dL_law_661 : decode cL_law 661 = .ok (.iconst 0, 1) := by decide +kernel
theorem dL_law_662 : decode cL_law 662 = .ok (.iconst 0, 1) := by decide +kernel
theorem dL_law_663 : decode cL_law 663 = .ok (.invokestatic 139, 3) := by decide +kernel
theorem dL_law_666 : decode cL_law 666 = .ok (.istore 16, 2) := by decide +kernel
theorem dL_law_668 : decode cL_law 668 = .ok (.iload 16, 2) := by decide +kernel
theorem dL_law_670 : decode cL_law 670 = .ok (.ifCond .le 18, 3) := by decide +kernel
theorem dL_law_673 : decode cL_law 673 = .ok (.aload_n 1, 1) := by decide +kernel
theorem dL_law_674 : decode cL_law 674 = .ok (.bipush 18, 2) := by decide +kernel
theorem dL_law_676 : decode cL_law 676 = .ok (.iload 17, 2) := by decide +kernel
theorem dL_law_678 : decode cL_law 678 = .ok (.iconst 0, 1) := by decide +kernel
theorem dL_law_679 : decode cL_law 679 = .ok (.iconst 0, 1) := by decide +kernel
theorem dL_law_680 : decode cL_law 680 = .ok (.invokestatic 139, 3) := by decide +kernel
theorem dL_law_683 : decode cL_law 683 = .ok (.ifCond .eq 5, 3) := by decide +kernel
theorem dL_law_686 : decode cL_law 686 = .ok (.iconst 0, 1) := by decide +kernel
theorem dL_law_687 : decode cL_law 687 = .ok (.ireturn, 1) := by decide +kernel
theorem dL_law_688 : decode cL_law 688 = .ok (.goto 296, 3) := by decide +kernel
theorem dL_law_691 : decode cL_law 691 = .ok (.iload 13, 2) := by decide +kernel
theorem dL_law_693 : decode cL_law 693 = .ok (.bipush 25, 2) := by decide +kernel
theorem dL_law_695 : decode cL_law 695 = .ok (.if_icmp .ge 103, 3) := by decide +kernel
theorem dL_law_698 : decode cL_law 698 = .ok (.iload 9, 2) := by decide +kernel
theorem dL_law_700 : decode cL_law 700 = .ok (.bipush 12, 2) := by decide +kernel
theorem dL_law_702 : decode cL_law 702 = .ok (.ishr, 1) := by decide +kernel
theorem dL_law_703 : decode cL_law 703 = .ok (.iload 6, 2) := by decide +kernel
theorem dL_law_705 : decode cL_law 705 = .ok (.iconst 1, 1) := by decide +kernel
theorem dL_law_706 : decode cL_law 706 = .ok (.iadd, 1) := by decide +kernel
theorem dL_law_707 : decode cL_law 707 = .ok (.invokestatic 163, 3) := by decide +kernel
theorem dL_law_710 : decode cL_law 710 = .ok (.istore 17, 2) := by decide +kernel
theorem dL_law_712 : decode cL_law 712 = .ok (.aload_n 1, 1) := by decide +kernel
theorem dL_law_713 : decode cL_law 713 = .ok (.bipush 22, 2) := by decide +kernel
theorem dL_law_715 : decode cL_law 715 = .ok (.iload 17, 2) := by decide +kernel
theorem dL_law_717 : decode cL_law 717 = .ok (.iload 10, 2) := by decide +kernel
theorem dL_law_719 : decode cL_law 719 = .ok (.iconst 0, 1) := by decide +kernel
theorem dL_law_720 : decode cL_law 720 = .ok (.invokestatic 139, 3) := by decide +kernel
theorem dL_law_723 : decode cL_law 723 = .ok (.istore 16, 2) := by decide +kernel
theorem dL_law_725 : decode cL_law 725 = .ok (.iconst 0, 1) := by decide +kernel
theorem dL_law_726 : decode cL_law 726 = .ok (.istore 18, 2) := by decide +kernel
theorem dL_law_728 : decode cL_law 728 = .ok (.iload 18, 2) := by decide +kernel
theorem dL_law_730 : decode cL_law 730 = .ok (.bipush 16, 2) := by decide +kernel
theorem dL_law_732 : decode cL_law 732 = .ok (.if_icmp .ge 42, 3) := by decide +kernel
theorem dL_law_735 : decode cL_law 735 = .ok (.iload 16, 2) := by decide +kernel
theorem dL_law_737 : decode cL_law 737 = .ok (.ifCond .lt 37, 3) := by decide +kernel
theorem dL_law_740 : decode cL_law 740 = .ok (.aload_n 1, 1) := by decide +kernel
theorem dL_law_741 : decode cL_law 741 = .ok (.bipush 19, 2) := by decide +kernel
theorem dL_law_743 : decode cL_law 743 = .ok (.iload 17, 2) := by decide +kernel
theorem dL_law_745 : decode cL_law 745 = .ok (.iload 10, 2) := by decide +kernel
theorem dL_law_747 : decode cL_law 747 = .ok (.iload 18, 2) := by decide +kernel
theorem dL_law_749 : decode cL_law 749 = .ok (.invokestatic 139, 3) := by decide +kernel
theorem dL_law_752 : decode cL_law 752 = .ok (.aload_n 1, 1) := by decide +kernel
theorem dL_law_753 : decode cL_law 753 = .ok (.bipush 8, 2) := by decide +kernel
theorem dL_law_755 : decode cL_law 755 = .ok (.iload 10, 2) := by decide +kernel
theorem dL_law_757 : decode cL_law 757 = .ok (.iload 18, 2) := by decide +kernel
theorem dL_law_759 : decode cL_law 759 = .ok (.iconst 0, 1) := by decide +kernel
theorem dL_law_760 : decode cL_law 760 = .ok (.invokestatic 139, 3) := by decide +kernel
theorem dL_law_763 : decode cL_law 763 = .ok (.if_icmp .eq 5, 3) := by decide +kernel
theorem dL_law_766 : decode cL_law 766 = .ok (.iconst 0, 1) := by decide +kernel
theorem dL_law_767 : decode cL_law 767 = .ok (.ireturn, 1) := by decide +kernel
theorem dL_law_768 : decode cL_law 768 = .ok (.iinc 18 1, 3) := by decide +kernel
theorem dL_law_771 : decode cL_law 771 = .ok (.goto (-43), 3) := by decide +kernel
theorem dL_law_774 : decode cL_law 774 = .ok (.iload 16, 2) := by decide +kernel
theorem dL_law_776 : decode cL_law 776 = .ok (.ifCond .lt 19, 3) := by decide +kernel
theorem dL_law_779 : decode cL_law 779 = .ok (.aload_n 1, 1) := by decide +kernel
theorem dL_law_780 : decode cL_law 780 = .ok (.bipush 22, 2) := by decide +kernel
theorem dL_law_782 : decode cL_law 782 = .ok (.iload 17, 2) := by decide +kernel
theorem dL_law_784 : decode cL_law 784 = .ok (.iload 10, 2) := by decide +kernel
theorem dL_law_786 : decode cL_law 786 = .ok (.iconst 0, 1) := by decide +kernel
theorem dL_law_787 : decode cL_law 787 = .ok (.invokestatic 139, 3) := by decide +kernel
theorem dL_law_790 : decode cL_law 790 = .ok (.ifCond .eq 5, 3) := by decide +kernel
theorem dL_law_793 : decode cL_law 793 = .ok (.iconst 0, 1) := by decide +kernel
theorem dL_law_794 : decode cL_law 794 = .ok (.ireturn, 1) := by decide +kernel
theorem dL_law_795 : decode cL_law 795 = .ok (.goto 189, 3) := by decide +kernel
theorem dL_law_798 : decode cL_law 798 = .ok (.iload 13, 2) := by decide +kernel
theorem dL_law_800 : decode cL_law 800 = .ok (.bipush 25, 2) := by decide +kernel
theorem dL_law_802 : decode cL_law 802 = .ok (.if_icmp .ne 42, 3) := by decide +kernel
theorem dL_law_805 : decode cL_law 805 = .ok (.aload_n 1, 1) := by decide +kernel
theorem dL_law_806 : decode cL_law 806 = .ok (.bipush 23, 2) := by decide +kernel
theorem dL_law_808 : decode cL_law 808 = .ok (.iload 10, 2) := by decide +kernel
theorem dL_law_810 : decode cL_law 810 = .ok (.iload 9, 2) := by decide +kernel
theorem dL_law_812 : decode cL_law 812 = .ok (.bipush 12, 2) := by decide +kernel
theorem dL_law_814 : decode cL_law 814 = .ok (.ishr, 1) := by decide +kernel
theorem dL_law_815 : decode cL_law 815 = .ok (.bipush 8, 2) := by decide +kernel
theorem dL_law_817 : decode cL_law 817 = .ok (.invokestatic 163, 3) := by decide +kernel
theorem dL_law_820 : decode cL_law 820 = .ok (.iconst 0, 1) := by decide +kernel
theorem dL_law_821 : decode cL_law 821 = .ok (.invokestatic 139, 3) := by decide +kernel
theorem dL_law_824 : decode cL_law 824 = .ok (.istore 16, 2) := by decide +kernel
theorem dL_law_826 : decode cL_law 826 = .ok (.iload 7, 2) := by decide +kernel
theorem dL_law_828 : decode cL_law 828 = .ok (.iload 16, 2) := by decide +kernel
theorem dL_law_830 : decode cL_law 830 = .ok (.ifCond .lt 7, 3) := by decide +kernel
theorem dL_law_833 : decode cL_law 833 = .ok (.iconst 1, 1) := by decide +kernel
theorem dL_law_834 : decode cL_law 834 = .ok (.goto 4, 3) := by decide +kernel
theorem dL_law_837 : decode cL_law 837 = .ok (.iconst 0, 1) := by decide +kernel
theorem dL_law_838 : decode cL_law 838 = .ok (.iadd, 1) := by decide +kernel
theorem dL_law_839 : decode cL_law 839 = .ok (.istore 7, 2) := by decide +kernel
theorem dL_law_841 : decode cL_law 841 = .ok (.goto 143, 3) := by decide +kernel
theorem dL_law_844 : decode cL_law 844 = .ok (.iload 13, 2) := by decide +kernel
theorem dL_law_846 : decode cL_law 846 = .ok (.bipush 26, 2) := by decide +kernel
theorem dL_law_848 : decode cL_law 848 = .ok (.if_icmp .ne 27, 3) := by decide +kernel
theorem dL_law_851 : decode cL_law 851 = .ok (.aload_n 1, 1) := by decide +kernel
theorem dL_law_852 : decode cL_law 852 = .ok (.bipush 24, 2) := by decide +kernel
theorem dL_law_854 : decode cL_law 854 = .ok (.iload 9, 2) := by decide +kernel
theorem dL_law_856 : decode cL_law 856 = .ok (.iconst 5, 1) := by decide +kernel
theorem dL_law_857 : decode cL_law 857 = .ok (.ishr, 1) := by decide +kernel
theorem dL_law_858 : decode cL_law 858 = .ok (.iload 7, 2) := by decide +kernel
theorem dL_law_860 : decode cL_law 860 = .ok (.iconst 1, 1) := by decide +kernel
theorem dL_law_861 : decode cL_law 861 = .ok (.iadd, 1) := by decide +kernel
theorem dL_law_862 : decode cL_law 862 = .ok (.invokestatic 163, 3) := by decide +kernel
theorem dL_law_865 : decode cL_law 865 = .ok (.iconst 0, 1) := by decide +kernel
theorem dL_law_866 : decode cL_law 866 = .ok (.iconst 0, 1) := by decide +kernel
theorem dL_law_867 : decode cL_law 867 = .ok (.invokestatic 139, 3) := by decide +kernel
theorem dL_law_870 : decode cL_law 870 = .ok (.istore 16, 2) := by decide +kernel
theorem dL_law_872 : decode cL_law 872 = .ok (.goto 112, 3) := by decide +kernel
theorem dL_law_875 : decode cL_law 875 = .ok (.iload 13, 2) := by decide +kernel
theorem dL_law_877 : decode cL_law 877 = .ok (.bipush 27, 2) := by decide +kernel
theorem dL_law_879 : decode cL_law 879 = .ok (.if_icmp .ne 25, 3) := by decide +kernel
theorem dL_law_882 : decode cL_law 882 = .ok (.aload_n 1, 1) := by decide +kernel
theorem dL_law_883 : decode cL_law 883 = .ok (.bipush 28, 2) := by decide +kernel
theorem dL_law_885 : decode cL_law 885 = .ok (.iload 9, 2) := by decide +kernel
theorem dL_law_887 : decode cL_law 887 = .ok (.iconst 5, 1) := by decide +kernel
theorem dL_law_888 : decode cL_law 888 = .ok (.ishr, 1) := by decide +kernel
theorem dL_law_889 : decode cL_law 889 = .ok (.bipush 6, 2) := by decide +kernel
theorem dL_law_891 : decode cL_law 891 = .ok (.invokestatic 163, 3) := by decide +kernel
theorem dL_law_894 : decode cL_law 894 = .ok (.iconst 0, 1) := by decide +kernel
theorem dL_law_895 : decode cL_law 895 = .ok (.iconst 0, 1) := by decide +kernel
theorem dL_law_896 : decode cL_law 896 = .ok (.invokestatic 139, 3) := by decide +kernel
theorem dL_law_899 : decode cL_law 899 = .ok (.istore 16, 2) := by decide +kernel
theorem dL_law_901 : decode cL_law 901 = .ok (.goto 83, 3) := by decide +kernel
theorem dL_law_904 : decode cL_law 904 = .ok (.iload 13, 2) := by decide +kernel
theorem dL_law_906 : decode cL_law 906 = .ok (.bipush 28, 2) := by decide +kernel
theorem dL_law_908 : decode cL_law 908 = .ok (.if_icmp .ne 17, 3) := by decide +kernel
theorem dL_law_911 : decode cL_law 911 = .ok (.aload_n 1, 1) := by decide +kernel
theorem dL_law_912 : decode cL_law 912 = .ok (.bipush 29, 2) := by decide +kernel
theorem dL_law_914 : decode cL_law 914 = .ok (.iconst 0, 1) := by decide +kernel
theorem dL_law_915 : decode cL_law 915 = .ok (.iconst 0, 1) := by decide +kernel
theorem dL_law_916 : decode cL_law 916 = .ok (.iconst 0, 1) := by decide +kernel
theorem dL_law_917 : decode cL_law 917 = .ok (.invokestatic 139, 3) := by decide +kernel
theorem dL_law_920 : decode cL_law 920 = .ok (.istore 16, 2) := by decide +kernel
theorem dL_law_922 : decode cL_law 922 = .ok (.goto 62, 3) := by decide +kernel
theorem dL_law_925 : decode cL_law 925 = .ok (.iload 13, 2) := by decide +kernel
theorem dL_law_927 : decode cL_law 927 = .ok (.bipush 29, 2) := by decide +kernel
theorem dL_law_929 : decode cL_law 929 = .ok (.if_icmp .ne 17, 3) := by decide +kernel
theorem dL_law_932 : decode cL_law 932 = .ok (.aload_n 1, 1) := by decide +kernel
theorem dL_law_933 : decode cL_law 933 = .ok (.bipush 30, 2) := by decide +kernel
theorem dL_law_935 : decode cL_law 935 = .ok (.iconst 0, 1) := by decide +kernel
theorem dL_law_936 : decode cL_law 936 = .ok (.iconst 0, 1) := by decide +kernel
theorem dL_law_937 : decode cL_law 937 = .ok (.iconst 0, 1) := by decide +kernel
theorem dL_law_938 : decode cL_law 938 = .ok (.invokestatic 139, 3) := by decide +kernel
theorem dL_law_941 : decode cL_law 941 = .ok (.istore 16, 2) := by decide +kernel
theorem dL_law_943 : decode cL_law 943 = .ok (.goto 41, 3) := by decide +kernel
theorem dL_law_946 : decode cL_law 946 = .ok (.aload_n 1, 1) := by decide +kernel
theorem dL_law_947 : decode cL_law 947 = .ok (.invokevirtual 145, 3) := by decide +kernel
theorem dL_law_950 : decode cL_law 950 = .ok (.istore 17, 2) := by decide +kernel
theorem dL_law_952 : decode cL_law 952 = .ok (.aload_n 1, 1) := by decide +kernel
theorem dL_law_953 : decode cL_law 953 = .ok (.invokevirtual 109, 3) := by decide +kernel
theorem dL_law_956 : decode cL_law 956 = .ok (.istore 18, 2) := by decide +kernel
theorem dL_law_958 : decode cL_law 958 = .ok (.iload 18, 2) := by decide +kernel
theorem dL_law_960 : decode cL_law 960 = .ok (.ifCond .lt 22, 3) := by decide +kernel
theorem dL_law_963 : decode cL_law 963 = .ok (.aload_n 1, 1) := by decide +kernel
theorem dL_law_964 : decode cL_law 964 = .ok (.invokevirtual 145, 3) := by decide +kernel
theorem dL_law_967 : decode cL_law 967 = .ok (.iload 17, 2) := by decide +kernel
theorem dL_law_969 : decode cL_law 969 = .ok (.iload 18, 2) := by decide +kernel
theorem dL_law_971 : decode cL_law 971 = .ok (.isub, 1) := by decide +kernel
theorem dL_law_972 : decode cL_law 972 = .ok (.if_icmp .ne 10, 3) := by decide +kernel
theorem dL_law_975 : decode cL_law 975 = .ok (.aload_n 1, 1) := by decide +kernel
theorem dL_law_976 : decode cL_law 976 = .ok (.invokevirtual 109, 3) := by decide +kernel
theorem dL_law_979 : decode cL_law 979 = .ok (.ifCond .eq 5, 3) := by decide +kernel
theorem dL_law_982 : decode cL_law 982 = .ok (.iconst 0, 1) := by decide +kernel
theorem dL_law_983 : decode cL_law 983 = .ok (.ireturn, 1) := by decide +kernel
theorem dL_law_984 : decode cL_law 984 = .ok (.iload 16, 2) := by decide +kernel
theorem dL_law_986 : decode cL_law 986 = .ok (.ifCond .ge 19, 3) := by decide +kernel
theorem dL_law_989 : decode cL_law 989 = .ok (.aload_n 1, 1) := by decide +kernel
theorem dL_law_990 : decode cL_law 990 = .ok (.iload 5, 2) := by decide +kernel
theorem dL_law_992 : decode cL_law 992 = .ok (.iload 6, 2) := by decide +kernel
theorem dL_law_994 : decode cL_law 994 = .ok (.iload 7, 2) := by decide +kernel
theorem dL_law_996 : decode cL_law 996 = .ok (.invokestatic 166, 3) := by decide +kernel
theorem dL_law_999 : decode cL_law 999 = .ok (.lload 14, 2) := by decide +kernel
theorem dL_law_1001 : decode cL_law 1001 = .ok (.lcmp, 1) := by decide +kernel
theorem dL_law_1002 : decode cL_law 1002 = .ok (.ifCond .ne 13, 3) := by decide +kernel
theorem dL_law_1005 : decode cL_law 1005 = .ok (.aload_n 1, 1) := by decide +kernel
theorem dL_law_1006 : decode cL_law 1006 = .ok (.iload 5, 2) := by decide +kernel
theorem dL_law_1008 : decode cL_law 1008 = .ok (.aload_n 2, 1) := by decide +kernel
theorem dL_law_1009 : decode cL_law 1009 = .ok (.invokestatic 170, 3) := by decide +kernel
theorem dL_law_1012 : decode cL_law 1012 = .ok (.ifCond .ne 5, 3) := by decide +kernel
theorem dL_law_1015 : decode cL_law 1015 = .ok (.iconst 0, 1) := by decide +kernel
theorem dL_law_1016 : decode cL_law 1016 = .ok (.ireturn, 1) := by decide +kernel
theorem dL_law_1017 : decode cL_law 1017 = .ok (.iconst 0, 1) := by decide +kernel
theorem dL_law_1018 : decode cL_law 1018 = .ok (.istore 17, 2) := by decide +kernel
theorem dL_law_1020 : decode cL_law 1020 = .ok (.iload 17, 2) := by decide +kernel
theorem dL_law_1022 : decode cL_law 1022 = .ok (.iload 4, 2) := by decide +kernel
theorem dL_law_1024 : decode cL_law 1024 = .ok (.if_icmp .ge 80, 3) := by decide +kernel
theorem dL_law_1027 : decode cL_law 1027 = .ok (.aload_n 1, 1) := by decide +kernel
theorem dL_law_1028 : decode cL_law 1028 = .ok (.bipush 19, 2) := by decide +kernel
theorem dL_law_1030 : decode cL_law 1030 = .ok (.aload_n 3, 1) := by decide +kernel
theorem dL_law_1031 : decode cL_law 1031 = .ok (.iconst 4, 1) := by decide +kernel
theorem dL_law_1032 : decode cL_law 1032 = .ok (.iload 17, 2) := by decide +kernel
theorem dL_law_1034 : decode cL_law 1034 = .ok (.imul, 1) := by decide +kernel
theorem dL_law_1035 : decode cL_law 1035 = .ok (.iaload, 1) := by decide +kernel
theorem dL_law_1036 : decode cL_law 1036 = .ok (.aload_n 3, 1) := by decide +kernel
theorem dL_law_1037 : decode cL_law 1037 = .ok (.iconst 4, 1) := by decide +kernel
theorem dL_law_1038 : decode cL_law 1038 = .ok (.iload 17, 2) := by decide +kernel
theorem dL_law_1040 : decode cL_law 1040 = .ok (.imul, 1) := by decide +kernel
theorem dL_law_1041 : decode cL_law 1041 = .ok (.iconst 1, 1) := by decide +kernel
theorem dL_law_1042 : decode cL_law 1042 = .ok (.iadd, 1) := by decide +kernel
theorem dL_law_1043 : decode cL_law 1043 = .ok (.iaload, 1) := by decide +kernel
theorem dL_law_1044 : decode cL_law 1044 = .ok (.aload_n 3, 1) := by decide +kernel
theorem dL_law_1045 : decode cL_law 1045 = .ok (.iconst 4, 1) := by decide +kernel
theorem dL_law_1046 : decode cL_law 1046 = .ok (.iload 17, 2) := by decide +kernel
theorem dL_law_1048 : decode cL_law 1048 = .ok (.imul, 1) := by decide +kernel
theorem dL_law_1049 : decode cL_law 1049 = .ok (.iconst 2, 1) := by decide +kernel
theorem dL_law_1050 : decode cL_law 1050 = .ok (.iadd, 1) := by decide +kernel
theorem dL_law_1051 : decode cL_law 1051 = .ok (.iaload, 1) := by decide +kernel
theorem dL_law_1052 : decode cL_law 1052 = .ok (.invokestatic 139, 3) := by decide +kernel
theorem dL_law_1055 : decode cL_law 1055 = .ok (.istore 18, 2) := by decide +kernel
theorem dL_law_1057 : decode cL_law 1057 = .ok (.aload_n 1, 1) := by decide +kernel
theorem dL_law_1058 : decode cL_law 1058 = .ok (.bipush 18, 2) := by decide +kernel
theorem dL_law_1060 : decode cL_law 1060 = .ok (.aload_n 3, 1) := by decide +kernel
theorem dL_law_1061 : decode cL_law 1061 = .ok (.iconst 4, 1) := by decide +kernel
theorem dL_law_1062 : decode cL_law 1062 = .ok (.iload 17, 2) := by decide +kernel
theorem dL_law_1064 : decode cL_law 1064 = .ok (.imul, 1) := by decide +kernel
theorem dL_law_1065 : decode cL_law 1065 = .ok (.iaload, 1) := by decide +kernel
theorem dL_law_1066 : decode cL_law 1066 = .ok (.iconst 0, 1) := by decide +kernel
theorem dL_law_1067 : decode cL_law 1067 = .ok (.iconst 0, 1) := by decide +kernel
theorem dL_law_1068 : decode cL_law 1068 = .ok (.invokestatic 139, 3) := by decide +kernel
theorem dL_law_1071 : decode cL_law 1071 = .ok (.iconst 1, 1) := by decide +kernel
theorem dL_law_1072 : decode cL_law 1072 = .ok (.if_icmp .ne 26, 3) := by decide +kernel
theorem dL_law_1075 : decode cL_law 1075 = .ok (.iload 18, 2) := by decide +kernel
theorem dL_law_1077 : decode cL_law 1077 = .ok (.aload_n 3, 1) := by decide +kernel
theorem dL_law_1078 : decode cL_law 1078 = .ok (.iconst 4, 1) := by decide +kernel
theorem dL_law_1079 : decode cL_law 1079 = .ok (.iload 17, 2) := by decide +kernel
theorem dL_law_1081 : decode cL_law 1081 = .ok (.imul, 1) := by decide +kernel
theorem dL_law_1082 : decode cL_law 1082 = .ok (.iconst 3, 1) := by decide +kernel
theorem dL_law_1083 : decode cL_law 1083 = .ok (.iadd, 1) := by decide +kernel
theorem dL_law_1084 : decode cL_law 1084 = .ok (.iaload, 1) := by decide +kernel
theorem dL_law_1085 : decode cL_law 1085 = .ok (.if_icmp .eq 13, 3) := by decide +kernel
theorem dL_law_1088 : decode cL_law 1088 = .ok (.iload 18, 2) := by decide +kernel
theorem dL_law_1090 : decode cL_law 1090 = .ok (.sipush (-1001), 3) := by decide +kernel
theorem dL_law_1093 : decode cL_law 1093 = .ok (.if_icmp .eq 5, 3) := by decide +kernel
theorem dL_law_1096 : decode cL_law 1096 = .ok (.iconst 0, 1) := by decide +kernel
theorem dL_law_1097 : decode cL_law 1097 = .ok (.ireturn, 1) := by decide +kernel
theorem dL_law_1098 : decode cL_law 1098 = .ok (.iinc 17 1, 3) := by decide +kernel
theorem dL_law_1101 : decode cL_law 1101 = .ok (.goto (-81), 3) := by decide +kernel
theorem dL_law_1104 : decode cL_law 1104 = .ok (.iinc 8 1, 3) := by decide +kernel
theorem dL_law_1107 : decode cL_law 1107 = .ok (.goto (-1074), 3) := by decide +kernel
theorem dL_law_1110 : decode cL_law 1110 = .ok (.aload_n 1, 1) := by decide +kernel
theorem dL_law_1111 : decode cL_law 1111 = .ok (.bipush 8, 2) := by decide +kernel
theorem dL_law_1113 : decode cL_law 1113 = .ok (.aload_n 1, 1) := by decide +kernel
theorem dL_law_1114 : decode cL_law 1114 = .ok (.invokevirtual 134, 3) := by decide +kernel
theorem dL_law_1117 : decode cL_law 1117 = .ok (.iconst 0, 1) := by decide +kernel
theorem dL_law_1118 : decode cL_law 1118 = .ok (.iconst 0, 1) := by decide +kernel
theorem dL_law_1119 : decode cL_law 1119 = .ok (.invokestatic 139, 3) := by decide +kernel
theorem dL_law_1122 : decode cL_law 1122 = .ok (.sipush (-1001), 3) := by decide +kernel
theorem dL_law_1125 : decode cL_law 1125 = .ok (.if_icmp .ne 39, 3) := by decide +kernel
theorem dL_law_1128 : decode cL_law 1128 = .ok (.aload_n 1, 1) := by decide +kernel
theorem dL_law_1129 : decode cL_law 1129 = .ok (.bipush 15, 2) := by decide +kernel
theorem dL_law_1131 : decode cL_law 1131 = .ok (.iload 5, 2) := by decide +kernel
theorem dL_law_1133 : decode cL_law 1133 = .ok (.iconst 0, 1) := by decide +kernel
theorem dL_law_1134 : decode cL_law 1134 = .ok (.iconst 0, 1) := by decide +kernel
theorem dL_law_1135 : decode cL_law 1135 = .ok (.invokestatic 139, 3) := by decide +kernel
theorem dL_law_1138 : decode cL_law 1138 = .ok (.sipush (-1001), 3) := by decide +kernel
theorem dL_law_1141 : decode cL_law 1141 = .ok (.if_icmp .ne 23, 3) := by decide +kernel
theorem dL_law_1144 : decode cL_law 1144 = .ok (.aload_n 1, 1) := by decide +kernel
theorem dL_law_1145 : decode cL_law 1145 = .ok (.bipush 20, 2) := by decide +kernel
theorem dL_law_1147 : decode cL_law 1147 = .ok (.bipush 9, 2) := by decide +kernel
theorem dL_law_1149 : decode cL_law 1149 = .ok (.iconst 0, 1) := by decide +kernel
theorem dL_law_1150 : decode cL_law 1150 = .ok (.iconst 0, 1) := by decide +kernel
theorem dL_law_1151 : decode cL_law 1151 = .ok (.invokestatic 139, 3) := by decide +kernel
theorem dL_law_1154 : decode cL_law 1154 = .ok (.sipush (-1002), 3) := by decide +kernel
theorem dL_law_1157 : decode cL_law 1157 = .ok (.if_icmp .ne 7, 3) := by decide +kernel
theorem dL_law_1160 : decode cL_law 1160 = .ok (.iconst 1, 1) := by decide +kernel
theorem dL_law_1161 : decode cL_law 1161 = .ok (.goto 4, 3) := by decide +kernel
theorem dL_law_1164 : decode cL_law 1164 = .ok (.iconst 0, 1) := by decide +kernel
theorem dL_law_1165 : decode cL_law 1165 = .ok (.ireturn, 1) := by decide +kernel
end
section
/-! THE COMMON WORDS, THE COMMON WORLD'S FACTS, CALLS WHOSE WORLD IS THE CALLER'S WORLD -/
theorem sel_priv {C : String} {y z : MethodName} {s : State} {args : Array Value} (hy : y.cls ≠ "java/lang/invoke/MethodHandle" ∧ y.cls ≠ "java/lang/invoke/VarHandle") (hz : z.cls = y.cls)
    (h0 : (Cond.selects C z z).before args s = true) (hpriv : (Cond.privateMethod y).before args s = true) (hinst : (Cond.instanceMethod y).before args s = true) : (Cond.selects C y y).before args s = true := by
  obtain ⟨c, r, m, hc, -, hm, -, kP, hkP, hni⟩ := Cond.selects_spec h0
  obtain ⟨mk, methM, hnamed, hmethM, -, -⟩ := Cond.instanceMethod_spec hinst
  have hfound : s.methodFound? y.cls y.name y.desc = some mk := State.methodFound?_of_named hnamed hy
  have e1 : s.vm.findClass y.cls = some m.cls := by rw [← hz]; exact findClass_of_methodNamed hm
  have hcls : mk.cls = m.cls := Option.some.inj ((findClass_of_methodNamed hnamed).symm.trans e1)
  have hsel : selectMethod {} s.vm c mk = .method mk := selectMethod_private hmethM (Cond.privateMethod_at hpriv mk methM hnamed hmethM)
  simp only [Cond.before, Cond.holds, Cond.value, hc, hfound, hnamed, hsel, hcls, hkP]
  simp; exact hni
/-- two methods of the builder's that are its class's own -/
def XW : List Cond := [Cond.selects RJ4 yJ5_ensureCapacityInternal_d00df yJ5_ensureCapacityInternal_d00df, Cond.selects RJ4 yJ5_newCapacity_0f7a4 yJ5_newCapacity_0f7a4]
def WW : List Cond := lw_tbl.filter goodWord ++ XW
theorem WW_mem {w : Cond} (j : Nat) (h : lw_tbl[j]? = some w) (g : goodWord w = true) : w ∈ WW := List.mem_append_left _ (List.mem_filter.mpr ⟨List.mem_of_getElem? h, g⟩)
theorem WW_good {w : Cond} (h : w ∈ WW) : goodWord w = true := by
  rcases List.mem_append.mp h with h | h
  · exact (List.mem_filter.mp h).2
  · rcases List.mem_cons.mp h with rfl | h
    · rfl
    · rw [List.mem_singleton.mp h]; rfl
theorem qx1 : (Cond.selects RJ4 yJ5_ensureCapacityInternal_d00df yJ5_ensureCapacityInternal_d00df) ∈ WW := List.mem_append_right _ List.mem_cons_self
theorem qx2 : (Cond.selects RJ4 yJ5_newCapacity_0f7a4 yJ5_newCapacity_0f7a4) ∈ WW := List.mem_append_right _ (List.mem_cons_of_mem _ List.mem_cons_self)
theorem tb_at {w : Cond} (j : Nat) (h : lw_tbl[j]? = some w) {args : Array Value} {s : State} (ht : ∀ w ∈ lw_tbl, w.before args s = true) : w.before args s = true := ht w (List.mem_of_getElem? h)
theorem tb0 : lw_tbl[927]? = some (Cond.selects RJ4 yJ5_isLatin1_aae02 yJ5_isLatin1_aae02) := by decide +kernel
theorem tb1 : lw_tbl[894]? = some (Cond.privateMethod yJ5_ensureCapacityInternal_d00df) := by decide +kernel
theorem tb2 : lw_tbl[895]? = some (Cond.instanceMethod yJ5_ensureCapacityInternal_d00df) := by decide +kernel
theorem tb3 : lw_tbl[898]? = some (Cond.privateMethod yJ5_newCapacity_0f7a4) := by decide +kernel
theorem tb4 : lw_tbl[899]? = some (Cond.instanceMethod yJ5_newCapacity_0f7a4) := by decide +kernel
theorem WW_tbl {args : Array Value} {s : State} (h : ∀ w ∈ lw_tbl, w.before args s = true) : ∀ w ∈ WW, w.before args s = true := fun w hw => by
  rcases List.mem_append.mp hw with hw | hw
  · exact h w (List.mem_filter.mp hw).1
  · rcases List.mem_cons.mp hw with rfl | hw
    · exact sel_priv (z := yJ5_isLatin1_aae02) (by decide) rfl (tb_at _ tb0 h) (tb_at _ tb1 h) (tb_at _ tb2 h)
    · rw [List.mem_singleton.mp hw]
      exact sel_priv (z := yJ5_isLatin1_aae02) (by decide) rfl (tb_at _ tb0 h) (tb_at _ tb3 h) (tb_at _ tb4 h)
def wm (y : MethodName) (cc : ByteArray) (n : Nat) (r : Option FieldType) : List Cond := .code y cc n r :: WW
theorem wm_ww {args : Array Value} {s : State} {y : MethodName} {cc : ByteArray} {n : Nat} {r : Option FieldType} (h : ∀ w ∈ wm y cc n r, w.before args s = true) : ∀ w ∈ WW, w.before args s = true := fun w hw => h w (List.mem_cons_of_mem _ hw)
theorem gW {ws : List Cond} (h : ∀ w ∈ ws, w ∈ WW) : GoodIn WW ws := fun w hw => ⟨h w hw, good_of_word (WW_good (h w hw))⟩
theorem gM {y : MethodName} {cc : ByteArray} {n : Nat} {r : Option FieldType} (h5 : Cond.code y cc n r ∈ WW) : GoodIn WW (wm y cc n r) := gW fun w hw => by
  rcases List.mem_cons.mp hw with rfl | hw
  · exact h5
  · exact hw
theorem gV {own : String} {idx : Nat} {C : String} {y : MethodName} {cc : ByteArray} {n : Nat} {r : Option FieldType} (h1 : Cond.methodLink own idx y ∈ WW) (h2 : Cond.instanceMethod y ∈ WW) (h3 : Cond.selects C y y ∈ WW) (h4 : Cond.initialized C ∈ WW) (h5 : Cond.code y cc n r ∈ WW) : GoodIn WW (wsV own idx C y (wm y cc n r)) :=
  goodIn_app (gW fun w hw => by
    rcases List.mem_cons.mp hw with rfl | hw
    · exact h1
    rcases List.mem_cons.mp hw with rfl | hw
    · exact h2
    rcases List.mem_cons.mp hw with rfl | hw
    · exact h3
    rcases List.mem_cons.mp hw with rfl | hw
    · exact h4
    cases hw) (gM h5)
theorem gS {own : String} {idx : Nat} {y : MethodName} {cc : ByteArray} {n : Nat} {r : Option FieldType} (h1 : Cond.methodLink own idx y ∈ WW) (h2 : Cond.static y ∈ WW) (h4 : Cond.initialized y.cls ∈ WW) (h5 : Cond.code y cc n r ∈ WW) : GoodIn WW (va_wsS own idx y (wm y cc n r)) :=
  goodIn_app (gW fun w hw => by
    rcases List.mem_cons.mp hw with rfl | hw
    · exact h1
    rcases List.mem_cons.mp hw with rfl | hw
    · exact h2
    rcases List.mem_cons.mp hw with rfl | hw
    · exact h4
    cases hw) (gM h5)
/-- the array classes, by the kinds of their elements -/
def tyL (ca : Nat → ClassId) : List (ClassId × FieldType) := [(ca 0, .int), (ca 1, .boolean), (ca 2, .char), (ca 3, .byte), (ca 4, .array .int)]
theorem ao_alike {t : FieldType} {a a' : Array Value} {U U' : State} (hal : U.vm.Alike U'.vm) (h : (Cond.arrayOver (.array t)).before a U = true) : (Cond.arrayOver (.array t)).before a' U' = true := by
  simp only [Cond.before, Cond.holds, Cond.value] at h ⊢
  rw [hal.findClass]
  cases hf : U.vm.findClass (FieldType.array t).toString with
  | none => rw [hf] at h; simp at h
  | some comp =>
    rw [hf] at h
    simp only [Option.bind_some] at h ⊢
    rw [hal.findIdx_congr _ (fun _ _ _ _ => rfl)]
    generalize hF : (U.vm.classes.findIdx? fun (x : Class) => match x.kind with | .array component _ => component == comp | _ => false) = fi at h ⊢
    cases fi with
    | none => simp at h
    | some c =>
      simp only [Option.bind_some] at h ⊢
      cases hk : U.vm.classes[c]? with
      | none => rw [hk] at h; simp at h
      | some k =>
        obtain ⟨k', hk', ek⟩ := hal.2.2 _ _ hk
        rw [hk] at h
        rw [hk', hal.findClass]
        have ekind : k'.kind = k.kind := by rw [ek]
        simp only [Option.map_some] at h ⊢
        rw [ekind]
        exact h
/-- words of the tables that a warmed machine keeps, though they are not 'good' -/
def nwW : Cond → Bool
  | .castable _ _ => true
  | .methodLinkNest _ _ _ _ => true
  | .declares _ => true
  | .arrayOver (.array _) => true
  | _ => false
def NWL : List Cond := lw_tbl.filter nwW
theorem NWL_mem {w : Cond} (j : Nat) (h : lw_tbl[j]? = some w) (g : nwW w = true) : w ∈ NWL := List.mem_filter.mpr ⟨List.mem_of_getElem? h, g⟩
theorem nw_warm {w : Cond} (g : nwW w = true) {s U : State} (hW : s.WarmedH U.vm) (h : va_Nw w s) : va_Nw w U := by
  cases w with
  | arrayOver t =>
    cases t with
    | array t => exact ao_alike hW.alike h
    | _ => simp [nwW] at g
  | _ => first | exact va_Nw.warmC hW h | exact va_Nw.warmM hW h | exact va_Nw.warmD hW h | (simp [nwW] at g)
theorem nw_same {w : Cond} (g : nwW w = true) {u U : State} (hv : u.vm = U.vm) (h : va_Nw w u) : va_Nw w U := by
  cases w with
  | arrayOver t =>
    cases t with
    | array t => exact ao_alike (by rw [hv]; exact Vm.Alike.refl _) h
    | _ => simp [nwW] at g
  | _ => first | exact va_Nw.same rfl hv h | (simp [nwW] at g)
/-- what holds of the machine at every place: the classes, the array classes, the words, the texts of the exceptions -/
def EE (D : va_G) (ca : Nat → ClassId) (sl : List (String × Nat × String)) (U : State) : Prop := va_K D vwCl (tyL ca) U ∧ (∀ w ∈ NWL, va_Nw w U) ∧ ∀ q ∈ sl, ∃ a : Nat, vk_R q.1 q.2.1 q.2.2 a U
theorem EE.warm {D : va_G} {ca : Nat → ClassId} {sl : List (String × Nat × String)} {s U : State} (hW : s.WarmedH U.vm) (h : EE D ca sl s) : EE D ca sl U :=
  ⟨va_K.moved hW.alike h.1, fun w hw => nw_warm (List.mem_filter.mp hw).2 hW (h.2.1 w hw), fun q hq => (h.2.2 q hq).imp fun _ ha => vk_R.warm hW ha⟩
theorem EE.same {D : va_G} {ca : Nat → ClassId} {sl : List (String × Nat × String)} {u U : State} (hv : U.vm = u.vm) (h : EE D ca sl u) : EE D ca sl U :=
  ⟨va_K.moved (by rw [hv]; exact Vm.Alike.refl _) h.1, fun w hw => nw_same (List.mem_filter.mp hw).2 hv.symm (h.2.1 w hw), fun q hq => (h.2.2 q hq).imp fun _ ha => vk_R.same hv ha⟩
/-- a method's start in the world w -/
def PRE (av : List Value) (D : va_G) (ca : Nat → ClassId) (sl : List (String × Nat × String)) (w : va_W) (sz : Nat) : Array Value → State → Prop :=
  va_Pc av (fun U => U.heap.size = sz ∧ va_P D vwCl w U.heap ∧ EE D ca sl U ∧ va_D (fun _ => True) w)
theorem PRE_blind {av : List Value} {D : va_G} {ca : Nat → ClassId} {sl : List (String × Nat × String)} {w : va_W} {sz : Nat} : FrameBlind (PRE av D ca sl w sz) := fun a U g mk q => by
  obtain ⟨q0, q1, qP, qE, qD⟩ := q
  exact ⟨q0, q1, qP, EE.same (u := U) rfl qE, qD⟩
/-- the world behind a method -/
def BW (D : va_G) (w' w : va_W) (sz : Nat) (t : State) : Prop := va_P D vwCl w' t.heap ∧ va_D (va_A w sz) w'
def QI (r : Int32) (D : va_G) (w' w : va_W) (sz : Nat) : Array Value → State → Outcome → State → Prop := va_Qi (fun (r' : Int32) (_ : Unit) => r' = r) (fun _ t => BW D w' w sz t) (va_A w sz)
def QL (r : Int64) (D : va_G) (w' w : va_W) (sz : Nat) : Array Value → State → Outcome → State → Prop := va_Ql (fun (r' : Int64) (_ : Unit) => r' = r) (fun _ t => BW D w' w sz t) (va_A w sz)
def QD (r : UInt64) (D : va_G) (w' w : va_W) (sz : Nat) : Array Value → State → Outcome → State → Prop := va_Qd (fun (r' : UInt64) (_ : Unit) => r' = r) (fun _ t => BW D w' w sz t) (va_A w sz)
def QF (r : UInt32) (D : va_G) (w' w : va_W) (sz : Nat) : Array Value → State → Outcome → State → Prop := va_Qf (fun (r' : UInt32) (_ : Unit) => r' = r) (fun _ t => BW D w' w sz t) (va_A w sz)
def QV (D : va_G) (w' w : va_W) (sz : Nat) : Array Value → State → Outcome → State → Prop := va_Qv (fun (_ : Unit) => True) (fun _ t => BW D w' w sz t) (va_A w sz)
theorem vaA_sub {A0 : Nat → Prop} {w : va_W} {H0 H : Heap} {locs : List Loc} (hD : va_D A0 w) (hS : va_S A0 H0 H locs) (hA : ∀ q, H0.size ≤ q → A0 q) : ∀ q, va_A w H.size q → A0 q := by
  intro q h
  rcases h with ⟨k, e, h⟩ | h
  · exact hD.2 k (q, e) h
  · exact hA q (Nat.le_trans hS.1 h)
/-- a check that the pure function makes -/
theorem ck_not {c : Prop} {α : Type} [d : Decidable c] {k : Option α} {o : α} (h : (if c then none else k) = some o) : ¬ c ∧ k = some o := by
  by_cases hc : c
  · rw [if_pos hc] at h; cases h
  · rw [if_neg hc] at h; exact ⟨hc, h⟩
theorem ck_yes {c : Prop} {α : Type} [d : Decidable c] {k : Option α} {o : α} (h : (if c then k else none) = some o) : c ∧ k = some o := by
  by_cases hc : c
  · rw [if_pos hc] at h; exact ⟨hc, h⟩
  · rw [if_neg hc] at h; cases h
theorem br_pos {c : Prop} {α : Type} [d : Decidable c] {k k' : Option α} {o : Option α} (hc : c) (h : (if c then k else k') = o) : k = o := by rw [if_pos hc] at h; exact h
theorem br_neg {c : Prop} {α : Type} [d : Decidable c] {k k' : Option α} {o : Option α} (hc : ¬ c) (h : (if c then k else k') = o) : k' = o := by rw [if_neg hc] at h; exact h
theorem bnd {α β : Type} {o : Option α} {k : α → Option β} {r : β} (h : o.bind k = some r) : ∃ x, o = some x ∧ k x = some r := Option.bind_eq_some_iff.mp h
theorem nar_z {v : Int32} (h : vp_nar .boolean v = v) : narrow .boolean (.int v) = .int v := by
  simp only [vp_nar, narrow] at h ⊢
  first | rw [h] | simp [h]
theorem nar_c {v : Int32} (h : vp_nar .char v = v) : narrow .char (.int v) = .int v := by
  simp only [vp_nar, narrow] at h ⊢
  first | rw [h] | simp [h]
section CALLS
variable {p : Program} {l : Launch} {e : Env} {Rm : Room} {s : State} {m : MethodId} {args : Array Value} {below : List Frame} {meth : Method} {c : Code} {H : Heap} {locs : List Loc} {cells slots : Nat} {Q : State → Prop}
variable {y : MethodName} {bytes cc : ByteArray} {maxL nL mc ms n index : Nat} {ret : Option FieldType} {rm : Room} {own C : String} {b : Nat} {As rest st : List Value} {pc : Nat} {ls : Array Slot}
variable {D : va_G} {ca : Nat → ClassId} {sl : List (String × Nat × String)} {w w' : va_W} {A0 : Nat → Prop} {H0 : Heap}
theorem pre_ok {av : List Value} (hE : EE D ca sl s) (hP : va_P D vwCl w H) (hD : va_D A0 w) : ∀ U : State, U.heap = H → s.WarmedH U.vm → PRE av D ca sl w H.size av.toArray U := fun U hU hW =>
  ⟨rfl, by rw [hU], by rw [hU]; exact hP, hE.warm hW, hD.weaken (fun _ _ _ _ => trivial)⟩
theorem bw_ok {t : State} {H1 : Heap} (hD : va_D A0 w) (hS : va_S A0 H0 H locs) (hA : ∀ q, H0.size ≤ q → A0 q) (ht : t.heap = H1) (hB : BW D w' w H.size t) : va_P D vwCl w' H1 ∧ va_D A0 w' :=
  ⟨by rw [← ht]; exact hB.1, hB.2.weaken (fun _ q _ h => vaA_sub hD hS hA q.1 h)⟩
end CALLS
section CALLS2
variable {p : Program} {l : Launch} {e : Env} {Rm : Room} {s : State} {m : MethodId} {args : Array Value} {below : List Frame} {meth : Method} {c : Code} {H : Heap} {locs : List Loc} {cells slots : Nat} {Q : State → Prop}
variable {y : MethodName} {bytes cc : ByteArray} {maxL nL mc ms n index : Nat} {ret : Option FieldType} {rm : Room} {own C host : String} {b : Nat} {As rest st : List Value} {pc : Nat} {ls : Array Slot}
variable {D : va_G} {ca : Nat → ClassId} {sl : List (String × Nat × String)} {w w' : va_W} {A0 : Nat → Prop} {H0 : Heap}
theorem call_vi {r : Int32} (hM : Met l y (wm y bytes maxL ret) rm (PRE (.ref b :: As) D ca sl w H.size) (QI r D w' w H.size) mc ms (va_A w H.size)) (S : CallFix p m c cc nL s args WW own) (cw : CallW Rm s args own C index y bytes maxL ret (wm y bytes maxL ret) rm mc ms n)
    (hrecv : ∃ cellB : Cell, H[b]? = some cellB ∧ cellB.vm.isStatics = false ∧ s.vm.findClass C = some cellB.cls) (hE : EE D ca sl s) (hP : va_P D vwCl w H) (hD : va_D A0 w) (hS : va_S A0 H0 H locs) (hA : ∀ q, H0.size ≤ q → A0 q)
    (hn : As.length = n) (hsize : ls.size = nL) (hst : st = As.reverse ++ .ref b :: rest) (hW : 2 * (F0 m pc ls st).monitorRoom + (rest.map fun v => v.category).sum ≤ 8) (hdg : decode cc pc = .ok (.invokevirtual index, 3)) (hf : cells + mc ≤ Rm.cells ∧ slots + ms ≤ Rm.slots)
    (kk : ∀ (H1 : Heap) (locs1 : List Loc), va_P D vwCl w' H1 → va_D A0 w' → va_S A0 H0 H1 locs1 → W p l e Rm s m args below meth c H1 locs1 (cells + mc) (slots + ms) Q (F0 m (pc + 3) ls (.int r :: rest))) : W p l e Rm s m args below meth c H locs cells slots Q (F0 m pc ls st) :=
  va_calli (va_runV S hM cw ⟨PRE_blind, hrecv, pre_ok hE hP hD⟩ rfl hn hsize hst hW hdg hf) hS (fun q _ h => vaA_sub hD hS hA q h) (vaA_sub hD hS hA) (fun r' u t H1 locs1 ht hvm hw hB hz1 hk1 hS1 => by
    obtain ⟨hP1, hD1⟩ := bw_ok hD hS hA ht hB
    rw [show r' = r from hw]
    exact kk H1 locs1 hP1 hD1 hS1)
theorem call_vl {r : Int64} (hM : Met l y (wm y bytes maxL ret) rm (PRE (.ref b :: As) D ca sl w H.size) (QL r D w' w H.size) mc ms (va_A w H.size)) (S : CallFix p m c cc nL s args WW own) (cw : CallW Rm s args own C index y bytes maxL ret (wm y bytes maxL ret) rm mc ms n)
    (hrecv : ∃ cellB : Cell, H[b]? = some cellB ∧ cellB.vm.isStatics = false ∧ s.vm.findClass C = some cellB.cls) (hE : EE D ca sl s) (hP : va_P D vwCl w H) (hD : va_D A0 w) (hS : va_S A0 H0 H locs) (hA : ∀ q, H0.size ≤ q → A0 q)
    (hn : As.length = n) (hsize : ls.size = nL) (hst : st = As.reverse ++ .ref b :: rest) (hW : 2 * (F0 m pc ls st).monitorRoom + (rest.map fun v => v.category).sum ≤ 8) (hdg : decode cc pc = .ok (.invokevirtual index, 3)) (hf : cells + mc ≤ Rm.cells ∧ slots + ms ≤ Rm.slots)
    (kk : ∀ (H1 : Heap) (locs1 : List Loc), va_P D vwCl w' H1 → va_D A0 w' → va_S A0 H0 H1 locs1 → W p l e Rm s m args below meth c H1 locs1 (cells + mc) (slots + ms) Q (F0 m (pc + 3) ls (.long r :: rest))) : W p l e Rm s m args below meth c H locs cells slots Q (F0 m pc ls st) :=
  va_calll (va_runV S hM cw ⟨PRE_blind, hrecv, pre_ok hE hP hD⟩ rfl hn hsize hst hW hdg hf) hS (fun q _ h => vaA_sub hD hS hA q h) (vaA_sub hD hS hA) (fun r' u t H1 locs1 ht hvm hw hB hz1 hk1 hS1 => by
    obtain ⟨hP1, hD1⟩ := bw_ok hD hS hA ht hB
    rw [show r' = r from hw]
    exact kk H1 locs1 hP1 hD1 hS1)
theorem call_vd {r : UInt64} (hM : Met l y (wm y bytes maxL ret) rm (PRE (.ref b :: As) D ca sl w H.size) (QD r D w' w H.size) mc ms (va_A w H.size)) (S : CallFix p m c cc nL s args WW own) (cw : CallW Rm s args own C index y bytes maxL ret (wm y bytes maxL ret) rm mc ms n)
    (hrecv : ∃ cellB : Cell, H[b]? = some cellB ∧ cellB.vm.isStatics = false ∧ s.vm.findClass C = some cellB.cls) (hE : EE D ca sl s) (hP : va_P D vwCl w H) (hD : va_D A0 w) (hS : va_S A0 H0 H locs) (hA : ∀ q, H0.size ≤ q → A0 q)
    (hn : As.length = n) (hsize : ls.size = nL) (hst : st = As.reverse ++ .ref b :: rest) (hW : 2 * (F0 m pc ls st).monitorRoom + (rest.map fun v => v.category).sum ≤ 8) (hdg : decode cc pc = .ok (.invokevirtual index, 3)) (hf : cells + mc ≤ Rm.cells ∧ slots + ms ≤ Rm.slots)
    (kk : ∀ (H1 : Heap) (locs1 : List Loc), va_P D vwCl w' H1 → va_D A0 w' → va_S A0 H0 H1 locs1 → W p l e Rm s m args below meth c H1 locs1 (cells + mc) (slots + ms) Q (F0 m (pc + 3) ls (.double r :: rest))) : W p l e Rm s m args below meth c H locs cells slots Q (F0 m pc ls st) :=
  va_calld (va_runV S hM cw ⟨PRE_blind, hrecv, pre_ok hE hP hD⟩ rfl hn hsize hst hW hdg hf) hS (fun q _ h => vaA_sub hD hS hA q h) (vaA_sub hD hS hA) (fun r' u t H1 locs1 ht hvm hw hB hz1 hk1 hS1 => by
    obtain ⟨hP1, hD1⟩ := bw_ok hD hS hA ht hB
    rw [show r' = r from hw]
    exact kk H1 locs1 hP1 hD1 hS1)
theorem call_vf {r : UInt32} (hM : Met l y (wm y bytes maxL ret) rm (PRE (.ref b :: As) D ca sl w H.size) (QF r D w' w H.size) mc ms (va_A w H.size)) (S : CallFix p m c cc nL s args WW own) (cw : CallW Rm s args own C index y bytes maxL ret (wm y bytes maxL ret) rm mc ms n)
    (hrecv : ∃ cellB : Cell, H[b]? = some cellB ∧ cellB.vm.isStatics = false ∧ s.vm.findClass C = some cellB.cls) (hE : EE D ca sl s) (hP : va_P D vwCl w H) (hD : va_D A0 w) (hS : va_S A0 H0 H locs) (hA : ∀ q, H0.size ≤ q → A0 q)
    (hn : As.length = n) (hsize : ls.size = nL) (hst : st = As.reverse ++ .ref b :: rest) (hW : 2 * (F0 m pc ls st).monitorRoom + (rest.map fun v => v.category).sum ≤ 8) (hdg : decode cc pc = .ok (.invokevirtual index, 3)) (hf : cells + mc ≤ Rm.cells ∧ slots + ms ≤ Rm.slots)
    (kk : ∀ (H1 : Heap) (locs1 : List Loc), va_P D vwCl w' H1 → va_D A0 w' → va_S A0 H0 H1 locs1 → W p l e Rm s m args below meth c H1 locs1 (cells + mc) (slots + ms) Q (F0 m (pc + 3) ls (.float r :: rest))) : W p l e Rm s m args below meth c H locs cells slots Q (F0 m pc ls st) :=
  va_callf (va_runV S hM cw ⟨PRE_blind, hrecv, pre_ok hE hP hD⟩ rfl hn hsize hst hW hdg hf) hS (fun q _ h => vaA_sub hD hS hA q h) (vaA_sub hD hS hA) (fun r' u t H1 locs1 ht hvm hw hB hz1 hk1 hS1 => by
    obtain ⟨hP1, hD1⟩ := bw_ok hD hS hA ht hB
    rw [show r' = r from hw]
    exact kk H1 locs1 hP1 hD1 hS1)
theorem call_vv (hM : Met l y (wm y bytes maxL ret) rm (PRE (.ref b :: As) D ca sl w H.size) (QV D w' w H.size) mc ms (va_A w H.size)) (S : CallFix p m c cc nL s args WW own) (cw : CallW Rm s args own C index y bytes maxL ret (wm y bytes maxL ret) rm mc ms n)
    (hrecv : ∃ cellB : Cell, H[b]? = some cellB ∧ cellB.vm.isStatics = false ∧ s.vm.findClass C = some cellB.cls) (hE : EE D ca sl s) (hP : va_P D vwCl w H) (hD : va_D A0 w) (hS : va_S A0 H0 H locs) (hA : ∀ q, H0.size ≤ q → A0 q)
    (hn : As.length = n) (hsize : ls.size = nL) (hst : st = As.reverse ++ .ref b :: rest) (hW : 2 * (F0 m pc ls st).monitorRoom + (rest.map fun v => v.category).sum ≤ 8) (hdg : decode cc pc = .ok (.invokevirtual index, 3)) (hf : cells + mc ≤ Rm.cells ∧ slots + ms ≤ Rm.slots)
    (kk : ∀ (H1 : Heap) (locs1 : List Loc), va_P D vwCl w' H1 → va_D A0 w' → va_S A0 H0 H1 locs1 → W p l e Rm s m args below meth c H1 locs1 (cells + mc) (slots + ms) Q (F0 m (pc + 3) ls rest)) : W p l e Rm s m args below meth c H locs cells slots Q (F0 m pc ls st) :=
  va_callv (va_runV S hM cw ⟨PRE_blind, hrecv, pre_ok hE hP hD⟩ rfl hn hsize hst hW hdg hf) hS (fun q _ h => vaA_sub hD hS hA q h) (vaA_sub hD hS hA) (fun u t H1 locs1 ht hvm hw hB hz1 hk1 hS1 => by
    obtain ⟨hP1, hD1⟩ := bw_ok hD hS hA ht hB
    exact kk H1 locs1 hP1 hD1 hS1)
theorem call_si {r : Int32} (hM : Met l y (wm y bytes maxL ret) rm (PRE As D ca sl w H.size) (QI r D w' w H.size) mc ms (va_A w H.size)) (S : CallFix p m c cc nL s args WW own) (cw : CallB Rm s args own index y bytes maxL ret (wm y bytes maxL ret) rm mc ms n ∧ (Cond.static y).before args s = true)
    (hE : EE D ca sl s) (hP : va_P D vwCl w H) (hD : va_D A0 w) (hS : va_S A0 H0 H locs) (hA : ∀ q, H0.size ≤ q → A0 q)
    (hn : As.length = n) (hsize : ls.size = nL) (hst : st = As.reverse ++ rest) (hW : 2 * (F0 m pc ls st).monitorRoom + (rest.map fun v => v.category).sum ≤ 8) (hdg : decode cc pc = .ok (.invokestatic index, 3)) (hf : cells + mc ≤ Rm.cells ∧ slots + ms ≤ Rm.slots)
    (kk : ∀ (H1 : Heap) (locs1 : List Loc), va_P D vwCl w' H1 → va_D A0 w' → va_S A0 H0 H1 locs1 → W p l e Rm s m args below meth c H1 locs1 (cells + mc) (slots + ms) Q (F0 m (pc + 3) ls (.int r :: rest))) : W p l e Rm s m args below meth c H locs cells slots Q (F0 m pc ls st) :=
  va_calli (va_runS S hM cw ⟨PRE_blind, pre_ok hE hP hD⟩ rfl hn hsize hst hW hdg hf) hS (fun q _ h => vaA_sub hD hS hA q h) (vaA_sub hD hS hA) (fun r' u t H1 locs1 ht hvm hw hB hz1 hk1 hS1 => by
    obtain ⟨hP1, hD1⟩ := bw_ok hD hS hA ht hB
    rw [show r' = r from hw]
    exact kk H1 locs1 hP1 hD1 hS1)
theorem call_sv (hM : Met l y (wm y bytes maxL ret) rm (PRE As D ca sl w H.size) (QV D w' w H.size) mc ms (va_A w H.size)) (S : CallFix p m c cc nL s args WW own) (cw : CallB Rm s args own index y bytes maxL ret (wm y bytes maxL ret) rm mc ms n ∧ (Cond.static y).before args s = true)
    (hE : EE D ca sl s) (hP : va_P D vwCl w H) (hD : va_D A0 w) (hS : va_S A0 H0 H locs) (hA : ∀ q, H0.size ≤ q → A0 q)
    (hn : As.length = n) (hsize : ls.size = nL) (hst : st = As.reverse ++ rest) (hW : 2 * (F0 m pc ls st).monitorRoom + (rest.map fun v => v.category).sum ≤ 8) (hdg : decode cc pc = .ok (.invokestatic index, 3)) (hf : cells + mc ≤ Rm.cells ∧ slots + ms ≤ Rm.slots)
    (kk : ∀ (H1 : Heap) (locs1 : List Loc), va_P D vwCl w' H1 → va_D A0 w' → va_S A0 H0 H1 locs1 → W p l e Rm s m args below meth c H1 locs1 (cells + mc) (slots + ms) Q (F0 m (pc + 3) ls rest)) : W p l e Rm s m args below meth c H locs cells slots Q (F0 m pc ls st) :=
  va_callv (va_runS S hM cw ⟨PRE_blind, pre_ok hE hP hD⟩ rfl hn hsize hst hW hdg hf) hS (fun q _ h => vaA_sub hD hS hA q h) (vaA_sub hD hS hA) (fun u t H1 locs1 ht hvm hw hB hz1 hk1 hS1 => by
    obtain ⟨hP1, hD1⟩ := bw_ok hD hS hA ht hB
    exact kk H1 locs1 hP1 hD1 hS1)
theorem call_ni {r : Int32} (hM : Met l y (wm y bytes maxL ret) rm (PRE As D ca sl w H.size) (QI r D w' w H.size) mc ms (va_A w H.size)) (S : CallFix p m c cc nL s args WW own) (cw : va_CN Rm s args own index y host bytes maxL ret (wm y bytes maxL ret) rm mc ms n ∧ (Cond.static y).before args s = true ∧ True)
    (hE : EE D ca sl s) (hP : va_P D vwCl w H) (hD : va_D A0 w) (hS : va_S A0 H0 H locs) (hA : ∀ q, H0.size ≤ q → A0 q)
    (hn : As.length = n) (hsize : ls.size = nL) (hst : st = As.reverse ++ rest) (hW : 2 * (F0 m pc ls st).monitorRoom + (rest.map fun v => v.category).sum ≤ 8) (hdg : decode cc pc = .ok (.invokestatic index, 3)) (hf : cells + mc ≤ Rm.cells ∧ slots + ms ≤ Rm.slots)
    (kk : ∀ (H1 : Heap) (locs1 : List Loc), va_P D vwCl w' H1 → va_D A0 w' → va_S A0 H0 H1 locs1 → W p l e Rm s m args below meth c H1 locs1 (cells + mc) (slots + ms) Q (F0 m (pc + 3) ls (.int r :: rest))) : W p l e Rm s m args below meth c H locs cells slots Q (F0 m pc ls st) :=
  va_calli (va_runSN S hM cw ⟨PRE_blind, pre_ok hE hP hD⟩ rfl hn hsize hst hW hdg hf) hS (fun q _ h => vaA_sub hD hS hA q h) (vaA_sub hD hS hA) (fun r' u t H1 locs1 ht hvm hw hB hz1 hk1 hS1 => by
    obtain ⟨hP1, hD1⟩ := bw_ok hD hS hA ht hB
    rw [show r' = r from hw]
    exact kk H1 locs1 hP1 hD1 hS1)
theorem call_nv (hM : Met l y (wm y bytes maxL ret) rm (PRE As D ca sl w H.size) (QV D w' w H.size) mc ms (va_A w H.size)) (S : CallFix p m c cc nL s args WW own) (cw : va_CN Rm s args own index y host bytes maxL ret (wm y bytes maxL ret) rm mc ms n ∧ (Cond.static y).before args s = true ∧ True)
    (hE : EE D ca sl s) (hP : va_P D vwCl w H) (hD : va_D A0 w) (hS : va_S A0 H0 H locs) (hA : ∀ q, H0.size ≤ q → A0 q)
    (hn : As.length = n) (hsize : ls.size = nL) (hst : st = As.reverse ++ rest) (hW : 2 * (F0 m pc ls st).monitorRoom + (rest.map fun v => v.category).sum ≤ 8) (hdg : decode cc pc = .ok (.invokestatic index, 3)) (hf : cells + mc ≤ Rm.cells ∧ slots + ms ≤ Rm.slots)
    (kk : ∀ (H1 : Heap) (locs1 : List Loc), va_P D vwCl w' H1 → va_D A0 w' → va_S A0 H0 H1 locs1 → W p l e Rm s m args below meth c H1 locs1 (cells + mc) (slots + ms) Q (F0 m (pc + 3) ls rest)) : W p l e Rm s m args below meth c H locs cells slots Q (F0 m pc ls st) :=
  va_callv (va_runSN S hM cw ⟨PRE_blind, pre_ok hE hP hD⟩ rfl hn hsize hst hW hdg hf) hS (fun q _ h => vaA_sub hD hS hA q h) (vaA_sub hD hS hA) (fun u t H1 locs1 ht hvm hw hB hz1 hk1 hS1 => by
    obtain ⟨hP1, hD1⟩ := bw_ok hD hS hA ht hB
    exact kk H1 locs1 hP1 hD1 hS1)
/-- the ends: the world as it stands, the answer, nothing made -/
theorem end_i {v : Int32} {ty : FieldType} {w0 : va_W} {A : Nat → Prop} (hAe : va_A w0 s.heap.size = A) (hQm : MQ below (QI v D w' w0 s.heap.size) args s cells slots A = Q) (hx : p.tables.exec = Jvm.exec) (hb : c.code = cc) (hr : meth.sig.returnType = some ty) (hlocks : meth.locks = false) (hn : narrow ty (.int v) = .int v) (hP : va_P D vwCl w' H) (hD : va_D A w') (hS : va_S A s.heap H locs) (hdg : decode cc pc = .ok (.ireturn, 1)) :
    W p l e Rm s m args below meth c H locs cells slots Q (F0 m pc ls [.int v]) := by
  subst hQm
  subst hAe
  exact W.zret (v := v) hx hb hr hn (fun t ht hW => ⟨⟨v, (),  rfl, rfl, by rw [ht]; exact hP, hD⟩, hS.F ht⟩) hS.2.2 hdg hlocks
theorem end_l {v : Int64} {w0 : va_W} {A : Nat → Prop} (hAe : va_A w0 s.heap.size = A) (hQm : MQ below (QL v D w' w0 s.heap.size) args s cells slots A = Q) (hx : p.tables.exec = Jvm.exec) (hb : c.code = cc) (hr : meth.sig.returnType = some .long) (hlocks : meth.locks = false) (hP : va_P D vwCl w' H) (hD : va_D A w') (hS : va_S A s.heap H locs) (hdg : decode cc pc = .ok (.lreturn, 1)) :
    W p l e Rm s m args below meth c H locs cells slots Q (F0 m pc ls [.long v]) := by
  subst hQm
  subst hAe
  exact W.lret (v := v) hx hb hr (fun t ht hW => ⟨⟨v, (),  rfl, rfl, by rw [ht]; exact hP, hD⟩, hS.F ht⟩) hS.2.2 hdg hlocks
theorem end_d {v : UInt64} {w0 : va_W} {A : Nat → Prop} (hAe : va_A w0 s.heap.size = A) (hQm : MQ below (QD v D w' w0 s.heap.size) args s cells slots A = Q) (hx : p.tables.exec = Jvm.exec) (hb : c.code = cc) (hr : meth.sig.returnType = some .double) (hlocks : meth.locks = false) (hP : va_P D vwCl w' H) (hD : va_D A w') (hS : va_S A s.heap H locs) (hdg : decode cc pc = .ok (.dreturn, 1)) :
    W p l e Rm s m args below meth c H locs cells slots Q (F0 m pc ls [.double v]) := by
  subst hQm
  subst hAe
  exact W.dret (v := v) hx hb hr (fun t ht hW => ⟨⟨v, (),  rfl, rfl, by rw [ht]; exact hP, hD⟩, hS.F ht⟩) hS.2.2 hdg hlocks
theorem end_f {v : UInt32} {w0 : va_W} {A : Nat → Prop} (hAe : va_A w0 s.heap.size = A) (hQm : MQ below (QF v D w' w0 s.heap.size) args s cells slots A = Q) (hx : p.tables.exec = Jvm.exec) (hb : c.code = cc) (hr : meth.sig.returnType = some .float) (hlocks : meth.locks = false) (hP : va_P D vwCl w' H) (hD : va_D A w') (hS : va_S A s.heap H locs) (hdg : decode cc pc = .ok (.freturn, 1)) :
    W p l e Rm s m args below meth c H locs cells slots Q (F0 m pc ls [.float v]) := by
  subst hQm
  subst hAe
  exact W.fret (v := v) hx hb hr (fun t ht hW => ⟨⟨v, (),  rfl, rfl, by rw [ht]; exact hP, hD⟩, hS.F ht⟩) hS.2.2 hdg hlocks
theorem end_v {w0 : va_W} {A : Nat → Prop} (hAe : va_A w0 s.heap.size = A) (hQm : MQ below (QV D w' w0 s.heap.size) args s cells slots A = Q) (hx : p.tables.exec = Jvm.exec) (hb : c.code = cc) (hr : meth.sig.returnType = none) (hlocks : meth.locks = false) (hP : va_P D vwCl w' H) (hD : va_D A w') (hS : va_S A s.heap H locs) (hdg : decode cc pc = .ok (.return_, 1)) :
    W p l e Rm s m args below meth c H locs cells slots Q (F0 m pc ls []) := by
  subst hQm
  subst hAe
  exact W.vret hx hb hr (fun t ht hW => ⟨⟨(),  rfl, trivial, by rw [ht]; exact hP, hD⟩, hS.F ht⟩) hS.2.2 hdg hlocks
end CALLS2
/-- far above what any loop needs -/
def FU : Nat := 100000
def updG (g : Nat → Nat → Int32) (k i : Nat) (x : Int32) : Nat → Nat → Int32 := fun j => if j = k then upd (g k) i x else g j
section ALD
variable {p : Program} {l : Launch} {e : Env} {R : Room} {s : State} {m : MethodId} {args : Array Value} {below : List Frame} {meth : Method} {c : Code} {H : Heap} {locs : List Loc} {cells slots : Nat} {Q : State → Prop}
variable {cc : ByteArray} {pc : Nat} {ls : Array Slot} {rest : List Value} {D : va_G} {cl : List vw_C} {a : Nat} {tys : List (ClassId × FieldType)} {ws : va_W}
theorem va_aldA (hexec : p.tables.exec = Jvm.exec) (hb : c.code = cc) (hK : va_K D cl tys s) (hP : va_P D cl ws H) (q0 t0 : Nat) {cA : ClassId} {ty : FieldType} {n : Nat} {f : Nat → Option Nat} (ha : ws[q0]? = some (a, .inl (cA, n, .inr (.inr (.inr (.inr f)))))) (ht : tys[t0]? = some (cA, .array ty)) {i : Int32} (hin : vp_in i n) (hdg : decode cc pc = .ok (.aaload, 1))
    (kk : W p l e R s m args below meth c H locs cells slots Q (F0 m (pc + 1) ls (va_rf (f i.toNatClampNeg) :: rest))) : W p l e R s m args below meth c H locs cells slots Q (F0 m pc ls (.int i :: .ref a :: rest)) := by
  have hlt : i.toNatClampNeg < n := Nat.not_le.mp fun q => hin (Or.inr q)
  exact W.aald (v := va_rf (f i.toNatClampNeg)) (ty := .array ty) hexec hb (hP q0 _ ha) ((hK.2 t0 _ ht).1 n (fun j => va_rf (f j))) rfl (fun q => by cases q) (by show ¬ (i < 0 ∨ (arrV _ _ _).slots.size ≤ _); rw [arrV_size]; exact hin) (by show (arrV _ _ _).slots[_]? = _; rw [arrV_read _ _ hlt]) rfl rfl hdg kk
end ALD
/-- a row of booleans holds booleans -/
def ckFit (ty : FieldType) (f : Nat → Int32) (n : Int32) : Bool := (List.range n.toNatClampNeg).all (fun i => fits ty (.int (f ((0 : Int32).toNatClampNeg + i))))
theorem ckfit {ty : FieldType} {f : Nat → Int32} {n : Int32} (h : ckFit ty f n = true) : ∀ i, i < n.toNatClampNeg → fits ty (.int (f ((0 : Int32).toNatClampNeg + i))) = true := fun i hi => List.all_eq_true.mp h i (List.mem_range.mpr hi)
end
section
/-! the words, each by its place in the tables (printed by program) -/
def HH : List (Nat × Nat × Nat × Nat) := [(0, 157, 393, 122), (158, 163, 393, 122), (164, 177, 393, 122), (178, 183, 393, 122), (184, 189, 393, 122), (190, 195, 393, 122), (196, 204, 393, 122), (205, 211, 393, 122), (212, 218, 393, 122), (219, 225, 393, 122), (226, 231, 393, 122), (232, 237, 393, 122), (238, 243, 393, 122), (244, 249, 393, 122), (250, 256, 393, 122), (257, 262, 393, 122), (263, 268, 393, 122), (269, 274, 393, 122), (275, 288, 393, 122), (289, 297, 393, 122), (298, 303, 393, 122), (304, 308, 393, 122), (309, 315, 393, 122), (316, 322, 393, 122), (323, 328, 393, 122), (329, 342, 393, 122), (343, 348, 393, 122), (349, 353, 393, 122), (354, 359, 393, 122), (360, 364, 393, 122), (365, 369, 393, 122), (370, 374, 393, 122), (375, 380, 393, 122), (381, 386, 393, 122), (387, 392, 393, 122), (0, 157, 399, 124), (158, 163, 399, 124), (164, 177, 399, 124), (178, 183, 399, 124), (184, 189, 399, 124), (190, 195, 399, 124), (196, 204, 399, 124), (205, 211, 399, 124), (212, 218, 399, 124), (219, 225, 399, 124), (226, 231, 399, 124), (232, 237, 399, 124), (238, 243, 399, 124), (244, 249, 399, 124), (250, 256, 399, 124), (257, 262, 399, 124), (263, 268, 399, 124), (269, 274, 399, 124), (275, 288, 399, 124), (289, 297, 399, 124), (298, 303, 399, 124), (304, 308, 399, 124), (309, 315, 399, 124), (316, 322, 399, 124), (323, 328, 399, 124), (329, 342, 399, 124), (343, 348, 399, 124), (349, 353, 399, 124), (354, 359, 399, 124), (360, 364, 399, 124), (365, 369, 399, 124), (370, 374, 399, 124), (375, 380, 399, 124), (381, 386, 399, 124), (387, 392, 399, 124), (0, 157, 405, 126), (158, 163, 405, 126), (164, 177, 405, 126), (178, 183, 405, 126), (184, 189, 405, 126), (190, 195, 405, 126), (196, 204, 405, 126), (205, 211, 405, 126), (212, 218, 405, 126), (219, 225, 405, 126), (226, 231, 405, 126), (232, 237, 405, 126), (238, 243, 405, 126), (244, 249, 405, 126), (250, 256, 405, 126), (257, 262, 405, 126), (263, 268, 405, 126), (269, 274, 405, 126), (275, 288, 405, 126), (289, 297, 405, 126), (298, 303, 405, 126), (304, 308, 405, 126), (309, 315, 405, 126), (316, 322, 405, 126), (323, 328, 405, 126), (329, 342, 405, 126), (343, 348, 405, 126), (349, 353, 405, 126), (354, 359, 405, 126), (360, 364, 405, 126), (365, 369, 405, 126), (370, 374, 405, 126), (375, 380, 405, 126), (381, 386, 405, 126), (387, 392, 405, 126), (0, 157, 411, 128), (158, 163, 411, 128), (164, 177, 411, 128), (178, 183, 411, 128), (184, 189, 411, 128), (190, 195, 411, 128), (196, 204, 411, 128), (205, 211, 411, 128), (212, 218, 411, 128), (219, 225, 411, 128), (226, 231, 411, 128), (232, 237, 411, 128), (238, 243, 411, 128), (244, 249, 411, 128), (250, 256, 411, 128), (257, 262, 411, 128), (263, 268, 411, 128), (269, 274, 411, 128), (275, 288, 411, 128), (289, 297, 411, 128), (298, 303, 411, 128), (304, 308, 411, 128), (309, 315, 411, 128), (316, 322, 411, 128), (323, 328, 411, 128), (329, 342, 411, 128), (343, 348, 411, 128), (349, 353, 411, 128), (354, 359, 411, 128), (360, 364, 411, 128), (365, 369, 411, 128), (370, 374, 411, 128), (375, 380, 411, 128), (381, 386, 411, 128), (387, 392, 411, 128), (0, 157, 417, 130), (158, 163, 417, 130), (164, 177, 417, 130), (178, 183, 417, 130), (184, 189, 417, 130), (190, 195, 417, 130), (196, 204, 417, 130), (205, 211, 417, 130), (212, 218, 417, 130), (219, 225, 417, 130), (226, 231, 417, 130), (232, 237, 417, 130), (238, 243, 417, 130), (244, 249, 417, 130), (250, 256, 417, 130), (257, 262, 417, 130), (263, 268, 417, 130), (269, 274, 417, 130), (275, 288, 417, 130), (289, 297, 417, 130), (298, 303, 417, 130), (304, 308, 417, 130), (309, 315, 417, 130), (316, 322, 417, 130), (323, 328, 417, 130), (329, 342, 417, 130), (343, 348, 417, 130), (349, 353, 417, 130), (354, 359, 417, 130), (360, 364, 417, 130), (365, 369, 417, 130), (370, 374, 417, 130), (375, 380, 417, 130), (381, 386, 417, 130), (387, 392, 417, 130)]
theorem q1 : (Cond.selects RX3 yX3_requireWithin yX3_requireWithin) ∈ WW := WW_mem 1 (by decide +kernel) rfl
theorem q2 : (Cond.selects RX3 yX3_requireNoTransaction yX3_requireNoTransaction) ∈ WW := WW_mem 2 (by decide +kernel) rfl
theorem q3 : (Cond.selects RX3 yX3_requireOwner yX3_requireOwner) ∈ WW := WW_mem 3 (by decide +kernel) rfl
theorem q4 : (Cond.selects RX3 yX3_note yX3_note) ∈ WW := WW_mem 4 (by decide +kernel) rfl
theorem q5 : (Cond.selects RX3 yX3_requireFile yX3_requireFile) ∈ WW := WW_mem 5 (by decide +kernel) rfl
theorem q6 : (Cond.selects RX3 yX3_requireLinks yX3_requireLinks) ∈ WW := WW_mem 6 (by decide +kernel) rfl
theorem q7 : (Cond.selects RX3 yX3_removeIfAbandoned yX3_removeIfAbandoned) ∈ WW := WW_mem 7 (by decide +kernel) rfl
theorem q8 : (Cond.selects RX3 yX3_requirePlace yX3_requirePlace) ∈ WW := WW_mem 8 (by decide +kernel) rfl
theorem q9 : (Cond.selects RX3 yX3_requireBlockFor yX3_requireBlockFor) ∈ WW := WW_mem 9 (by decide +kernel) rfl
theorem q10 : (Cond.selects RX3 yX3_quotaOf yX3_quotaOf) ∈ WW := WW_mem 10 (by decide +kernel) rfl
theorem q11 : (Cond.selects RX3 yX3_blockOrThrow yX3_blockOrThrow) ∈ WW := WW_mem 11 (by decide +kernel) rfl
theorem q12 : (Cond.selects RX3 yX3_requireBlock yX3_requireBlock) ∈ WW := WW_mem 12 (by decide +kernel) rfl
theorem q13 : (Cond.selects RX3 yX3_walkUsers yX3_walkUsers) ∈ WW := WW_mem 13 (by decide +kernel) rfl
theorem q14 : (Cond.selects RX1 yX1_isInRow yX1_isInRow) ∈ WW := WW_mem 14 (by decide +kernel) rfl
theorem q15 : (Cond.selects RX1 yX1_unusedRow yX1_unusedRow) ∈ WW := WW_mem 15 (by decide +kernel) rfl
theorem q16 : (Cond.selects RX1 yX1_fillRow yX1_fillRow) ∈ WW := WW_mem 16 (by decide +kernel) rfl
theorem q17 : (Cond.selects RX3 yX3_requireSnapshot yX3_requireSnapshot) ∈ WW := WW_mem 17 (by decide +kernel) rfl
theorem q18 : (Cond.selects RX3 yX3_requireInSnapshot yX3_requireInSnapshot) ∈ WW := WW_mem 18 (by decide +kernel) rfl
theorem q19 : (Cond.selects RX3 yX3_requireHold yX3_requireHold) ∈ WW := WW_mem 19 (by decide +kernel) rfl
theorem q20 : (Cond.selects RX3 yX3_endHold yX3_endHold) ∈ WW := WW_mem 20 (by decide +kernel) rfl
theorem q21 : (Cond.selects RX3 yX3_areUsersAsWalked yX3_areUsersAsWalked) ∈ WW := WW_mem 21 (by decide +kernel) rfl
theorem q22 : (Cond.selects RX3 yX3_areHeldFilesAlive yX3_areHeldFilesAlive) ∈ WW := WW_mem 22 (by decide +kernel) rfl
theorem q23 : (Cond.initialized RL) ∈ WW := WW_mem 23 (by decide +kernel) rfl
theorem q24 : (Cond.initialized RX3) ∈ WW := WW_mem 24 (by decide +kernel) rfl
theorem q25 : (Cond.initialized RX2) ∈ WW := WW_mem 25 (by decide +kernel) rfl
theorem q26 : (Cond.initialized RJ7) ∈ WW := WW_mem 26 (by decide +kernel) rfl
theorem q27 : (Cond.initialized RX1) ∈ WW := WW_mem 27 (by decide +kernel) rfl
theorem q28 : (Cond.initialized RX0) ∈ WW := WW_mem 28 (by decide +kernel) rfl
theorem q29 : (Cond.initialized RJ5) ∈ WW := WW_mem 29 (by decide +kernel) rfl
theorem q30 : (Cond.initialized RJ4) ∈ WW := WW_mem 30 (by decide +kernel) rfl
theorem q36 : (Cond.initialized "java/lang/IndexOutOfBoundsException") ∈ WW := WW_mem 36 (by decide +kernel) rfl
theorem q38 : (Cond.initialized "java/lang/IllegalArgumentException") ∈ WW := WW_mem 38 (by decide +kernel) rfl
theorem q39 : (Cond.initialized "java/lang/IllegalStateException") ∈ WW := WW_mem 39 (by decide +kernel) rfl
theorem q41 : (Cond.initialized RJ13) ∈ WW := WW_mem 41 (by decide +kernel) rfl
theorem q42 : (Cond.initialized "java/lang/UnsupportedOperationException") ∈ WW := WW_mem 42 (by decide +kernel) rfl
theorem q43 : (Cond.initialized RJ9) ∈ WW := WW_mem 43 (by decide +kernel) rfl
theorem q44 : (Cond.initialized "java/util/NoSuchElementException") ∈ WW := WW_mem 44 (by decide +kernel) rfl
theorem q45 : (Cond.initialized RJ10) ∈ WW := WW_mem 45 (by decide +kernel) rfl
theorem q56 : (Cond.methodLink RX3 3 Lib.objectInit) ∈ WW := WW_mem 56 (by decide +kernel) rfl
theorem q57 : (Cond.instanceMethod Lib.objectInit) ∈ WW := WW_mem 57 (by decide +kernel) rfl
theorem q58 : (Cond.code Lib.objectInit ⟨#[0xb1]⟩ 1 none) ∈ WW := WW_mem 58 (by decide +kernel) rfl
theorem q59 : (Cond.classLink RX3 9 RX2) ∈ WW := WW_mem 59 (by decide +kernel) rfl
theorem q60 : (Cond.instantiable RX2 9) ∈ WW := WW_mem 60 (by decide +kernel) rfl
theorem q61 : (Cond.methodLink RX3 11 yX2_init) ∈ WW := WW_mem 61 (by decide +kernel) rfl
theorem q62 : (Cond.instanceMethod yX2_init) ∈ WW := WW_mem 62 (by decide +kernel) rfl
theorem q63 : (Cond.code yX2_init cX2_init 1 none) ∈ WW := WW_mem 63 (by decide +kernel) rfl
theorem q64 : (Cond.methodLink RX2 3 Lib.objectInit) ∈ WW := WW_mem 64 (by decide +kernel) rfl
theorem q65 : (Cond.methodLink RX2 29 yJ7_fill_53178) ∈ WW := WW_mem 65 (by decide +kernel) rfl
theorem q66 : (Cond.static yJ7_fill_53178) ∈ WW := WW_mem 66 (by decide +kernel) rfl
theorem q67 : (Cond.code yJ7_fill_53178 cJ7_fill_53178 4 none) ∈ WW := WW_mem 67 (by decide +kernel) rfl
theorem q68 : (Cond.fieldLink RX2 9 "InodeCouncil$State" "files" "I") ∈ WW := WW_mem 68 (by decide +kernel) rfl
theorem q69 : (Cond.fieldLink RX2 15 "InodeCouncil$State" "ownerOfFile" "[I") ∈ WW := WW_mem 69 (by decide +kernel) rfl
theorem q70 : (Cond.fieldLink RX2 19 "InodeCouncil$State" "links" "[I") ∈ WW := WW_mem 70 (by decide +kernel) rfl
theorem q71 : (Cond.fieldLink RX2 22 "InodeCouncil$State" "alive" "[Z") ∈ WW := WW_mem 71 (by decide +kernel) rfl
theorem q72 : (Cond.fieldLink RX2 26 "InodeCouncil$State" "cells" "[I") ∈ WW := WW_mem 72 (by decide +kernel) rfl
theorem q73 : (Cond.fieldLink RX2 35 "InodeCouncil$State" "values" "[I") ∈ WW := WW_mem 73 (by decide +kernel) rfl
theorem q74 : (Cond.fieldLink RX2 38 "InodeCouncil$State" "users" "[I") ∈ WW := WW_mem 74 (by decide +kernel) rfl
theorem q75 : (Cond.fieldLink RX2 41 "InodeCouncil$State" "promised" "[I") ∈ WW := WW_mem 75 (by decide +kernel) rfl
theorem q76 : (Cond.fieldLink RX2 44 "InodeCouncil$State" "entries" "I") ∈ WW := WW_mem 76 (by decide +kernel) rfl
theorem q77 : (Cond.lays RX2 "InodeCouncil$State" "files" "I") ∈ WW := WW_mem 77 (by decide +kernel) rfl
theorem q79 : (Cond.laysFinal RX2 "InodeCouncil$State" "ownerOfFile" "[I") ∈ WW := WW_mem 79 (by decide +kernel) rfl
theorem q81 : (Cond.laysFinal RX2 "InodeCouncil$State" "links" "[I") ∈ WW := WW_mem 81 (by decide +kernel) rfl
theorem q83 : (Cond.laysFinal RX2 "InodeCouncil$State" "alive" "[Z") ∈ WW := WW_mem 83 (by decide +kernel) rfl
theorem q85 : (Cond.laysFinal RX2 "InodeCouncil$State" "cells" "[I") ∈ WW := WW_mem 85 (by decide +kernel) rfl
theorem q87 : (Cond.laysFinal RX2 "InodeCouncil$State" "values" "[I") ∈ WW := WW_mem 87 (by decide +kernel) rfl
theorem q89 : (Cond.laysFinal RX2 "InodeCouncil$State" "users" "[I") ∈ WW := WW_mem 89 (by decide +kernel) rfl
theorem q91 : (Cond.laysFinal RX2 "InodeCouncil$State" "promised" "[I") ∈ WW := WW_mem 91 (by decide +kernel) rfl
theorem q93 : (Cond.lays RX2 "InodeCouncil$State" "entries" "I") ∈ WW := WW_mem 93 (by decide +kernel) rfl
theorem q96 : (Cond.arrayClass .int) ∈ WW := WW_mem 96 (by decide +kernel) rfl
theorem q97 : (Cond.arrayClass .boolean) ∈ WW := WW_mem 97 (by decide +kernel) rfl
theorem q98 : (Cond.classLink RX3 35 RX1) ∈ WW := WW_mem 98 (by decide +kernel) rfl
theorem q99 : (Cond.instantiable RX1 7) ∈ WW := WW_mem 99 (by decide +kernel) rfl
theorem q100 : (Cond.methodLink RX3 37 yX1_init) ∈ WW := WW_mem 100 (by decide +kernel) rfl
theorem q101 : (Cond.instanceMethod yX1_init) ∈ WW := WW_mem 101 (by decide +kernel) rfl
theorem q102 : (Cond.code yX1_init cX1_init 1 none) ∈ WW := WW_mem 102 (by decide +kernel) rfl
theorem q103 : (Cond.methodLink RX1 3 Lib.objectInit) ∈ WW := WW_mem 103 (by decide +kernel) rfl
theorem q104 : (Cond.methodLink RX1 25 yJ7_fill_53178) ∈ WW := WW_mem 104 (by decide +kernel) rfl
theorem q105 : (Cond.classLink RX1 38 "[[I") ∈ WW := WW_mem 105 (by decide +kernel) rfl
theorem q107 : (Cond.fieldLink RX1 9 "InodeCouncil$Snapshots" "taken" "I") ∈ WW := WW_mem 107 (by decide +kernel) rfl
theorem q108 : (Cond.fieldLink RX1 15 "InodeCouncil$Snapshots" "kept" "I") ∈ WW := WW_mem 108 (by decide +kernel) rfl
theorem q109 : (Cond.fieldLink RX1 18 "InodeCouncil$Snapshots" "ranks" "[I") ∈ WW := WW_mem 109 (by decide +kernel) rfl
theorem q110 : (Cond.fieldLink RX1 22 "InodeCouncil$Snapshots" "rows" "[I") ∈ WW := WW_mem 110 (by decide +kernel) rfl
theorem q111 : (Cond.fieldLink RX1 31 "InodeCouncil$Snapshots" "rowInUse" "[Z") ∈ WW := WW_mem 111 (by decide +kernel) rfl
theorem q112 : (Cond.fieldLink RX1 35 "InodeCouncil$Snapshots" "fileInRow" "[Z") ∈ WW := WW_mem 112 (by decide +kernel) rfl
theorem q113 : (Cond.fieldLink RX1 40 "InodeCouncil$Snapshots" "cells" "[[I") ∈ WW := WW_mem 113 (by decide +kernel) rfl
theorem q114 : (Cond.lays RX1 "InodeCouncil$Snapshots" "taken" "I") ∈ WW := WW_mem 114 (by decide +kernel) rfl
theorem q116 : (Cond.lays RX1 "InodeCouncil$Snapshots" "kept" "I") ∈ WW := WW_mem 116 (by decide +kernel) rfl
theorem q118 : (Cond.laysFinal RX1 "InodeCouncil$Snapshots" "ranks" "[I") ∈ WW := WW_mem 118 (by decide +kernel) rfl
theorem q120 : (Cond.laysFinal RX1 "InodeCouncil$Snapshots" "rows" "[I") ∈ WW := WW_mem 120 (by decide +kernel) rfl
theorem q122 : (Cond.laysFinal RX1 "InodeCouncil$Snapshots" "rowInUse" "[Z") ∈ WW := WW_mem 122 (by decide +kernel) rfl
theorem q124 : (Cond.laysFinal RX1 "InodeCouncil$Snapshots" "fileInRow" "[Z") ∈ WW := WW_mem 124 (by decide +kernel) rfl
theorem q126 : (Cond.laysFinal RX1 "InodeCouncil$Snapshots" "cells" "[[I") ∈ WW := WW_mem 126 (by decide +kernel) rfl
theorem q129 : (Cond.arrayClass .char) ∈ WW := WW_mem 129 (by decide +kernel) rfl
theorem q130 : (Cond.classLink RX3 42 RX0) ∈ WW := WW_mem 130 (by decide +kernel) rfl
theorem q131 : (Cond.instantiable RX0 4) ∈ WW := WW_mem 131 (by decide +kernel) rfl
theorem q132 : (Cond.methodLink RX3 44 yX0_init) ∈ WW := WW_mem 132 (by decide +kernel) rfl
theorem q133 : (Cond.instanceMethod yX0_init) ∈ WW := WW_mem 133 (by decide +kernel) rfl
theorem q134 : (Cond.code yX0_init cX0_init 1 none) ∈ WW := WW_mem 134 (by decide +kernel) rfl
theorem q135 : (Cond.methodLink RX0 3 Lib.objectInit) ∈ WW := WW_mem 135 (by decide +kernel) rfl
theorem q136 : (Cond.fieldLink RX0 9 "InodeCouncil$Holds" "opened" "I") ∈ WW := WW_mem 136 (by decide +kernel) rfl
theorem q137 : (Cond.fieldLink RX0 15 "InodeCouncil$Holds" "files" "[I") ∈ WW := WW_mem 137 (by decide +kernel) rfl
theorem q138 : (Cond.fieldLink RX0 19 "InodeCouncil$Holds" "ends" "[I") ∈ WW := WW_mem 138 (by decide +kernel) rfl
theorem q139 : (Cond.fieldLink RX0 22 "InodeCouncil$Holds" "open" "[Z") ∈ WW := WW_mem 139 (by decide +kernel) rfl
theorem q140 : (Cond.lays RX0 "InodeCouncil$Holds" "opened" "I") ∈ WW := WW_mem 140 (by decide +kernel) rfl
theorem q142 : (Cond.laysFinal RX0 "InodeCouncil$Holds" "files" "[I") ∈ WW := WW_mem 142 (by decide +kernel) rfl
theorem q144 : (Cond.laysFinal RX0 "InodeCouncil$Holds" "ends" "[I") ∈ WW := WW_mem 144 (by decide +kernel) rfl
theorem q146 : (Cond.laysFinal RX0 "InodeCouncil$Holds" "open" "[Z") ∈ WW := WW_mem 146 (by decide +kernel) rfl
theorem q149 : (Cond.classLink RX3 52 RJ4) ∈ WW := WW_mem 149 (by decide +kernel) rfl
theorem q150 : (Cond.instantiable RJ4 4) ∈ WW := WW_mem 150 (by decide +kernel) rfl
theorem q151 : (Cond.methodLink RX3 54 yJ4_init_da8c8) ∈ WW := WW_mem 151 (by decide +kernel) rfl
theorem q152 : (Cond.instanceMethod yJ4_init_da8c8) ∈ WW := WW_mem 152 (by decide +kernel) rfl
theorem q153 : (Cond.code yJ4_init_da8c8 cJ4_init_da8c8 1 none) ∈ WW := WW_mem 153 (by decide +kernel) rfl
theorem q154 : (Cond.methodLink RJ4 1 yJ5_init_d00df) ∈ WW := WW_mem 154 (by decide +kernel) rfl
theorem q155 : (Cond.instanceMethod yJ5_init_d00df) ∈ WW := WW_mem 155 (by decide +kernel) rfl
theorem q156 : (Cond.code yJ5_init_d00df cJ5_init_d00df 2 none) ∈ WW := WW_mem 156 (by decide +kernel) rfl
theorem q157 : (Cond.methodLink RJ5 3 Lib.objectInit) ∈ WW := WW_mem 157 (by decide +kernel) rfl
theorem q158 : (Cond.fieldLink RJ5 18 "java/lang/String" "COMPACT_STRINGS" "Z") ∈ WW := WW_mem 158 (by decide +kernel) rfl
theorem q167 : (Cond.fieldLink RJ5 15 "java/lang/AbstractStringBuilder" "value" "[B") ∈ WW := WW_mem 167 (by decide +kernel) rfl
theorem q168 : (Cond.fieldLink RJ5 22 "java/lang/AbstractStringBuilder" "coder" "B") ∈ WW := WW_mem 168 (by decide +kernel) rfl
theorem q172 : (Cond.lays RJ4 "java/lang/AbstractStringBuilder" "value" "[B") ∈ WW := WW_mem 172 (by decide +kernel) rfl
theorem q174 : (Cond.lays RJ4 "java/lang/AbstractStringBuilder" "coder" "B") ∈ WW := WW_mem 174 (by decide +kernel) rfl
theorem q176 : (Cond.lays RJ4 "java/lang/AbstractStringBuilder" "maybeLatin1" "Z") ∈ WW := WW_mem 176 (by decide +kernel) rfl
theorem q178 : (Cond.lays RJ4 "java/lang/AbstractStringBuilder" "count" "I") ∈ WW := WW_mem 178 (by decide +kernel) rfl
theorem q181 : (Cond.arrayClass .byte) ∈ WW := WW_mem 181 (by decide +kernel) rfl
theorem q182 : (Cond.fieldLink RX3 12 "InodeCouncil" "now" "LInodeCouncil$State;") ∈ WW := WW_mem 182 (by decide +kernel) rfl
theorem q183 : (Cond.fieldLink RX3 16 "InodeCouncil" "atBegin" "LInodeCouncil$State;") ∈ WW := WW_mem 183 (by decide +kernel) rfl
theorem q184 : (Cond.fieldLink RX3 19 "InodeCouncil" "inTransaction" "Z") ∈ WW := WW_mem 184 (by decide +kernel) rfl
theorem q185 : (Cond.fieldLink RX3 23 "InodeCouncil" "kinds" "[C") ∈ WW := WW_mem 185 (by decide +kernel) rfl
theorem q186 : (Cond.fieldLink RX3 27 "InodeCouncil" "owners" "I") ∈ WW := WW_mem 186 (by decide +kernel) rfl
theorem q187 : (Cond.fieldLink RX3 31 "InodeCouncil" "quotas" "[I") ∈ WW := WW_mem 187 (by decide +kernel) rfl
theorem q188 : (Cond.fieldLink RX3 38 "InodeCouncil" "snapshots" "LInodeCouncil$Snapshots;") ∈ WW := WW_mem 188 (by decide +kernel) rfl
theorem q189 : (Cond.fieldLink RX3 45 "InodeCouncil" "holds" "LInodeCouncil$Holds;") ∈ WW := WW_mem 189 (by decide +kernel) rfl
theorem q190 : (Cond.fieldLink RX3 49 "InodeCouncil" "today" "I") ∈ WW := WW_mem 190 (by decide +kernel) rfl
theorem q191 : (Cond.fieldLink RX3 55 "InodeCouncil" "line" "Ljava/lang/StringBuilder;") ∈ WW := WW_mem 191 (by decide +kernel) rfl
theorem q192 : (Cond.fieldLink RX3 59 "InodeCouncil" "walked" "[I") ∈ WW := WW_mem 192 (by decide +kernel) rfl
theorem q193 : (Cond.laysFinal RX3 "InodeCouncil" "now" "LInodeCouncil$State;") ∈ WW := WW_mem 193 (by decide +kernel) rfl
theorem q195 : (Cond.laysFinal RX3 "InodeCouncil" "atBegin" "LInodeCouncil$State;") ∈ WW := WW_mem 195 (by decide +kernel) rfl
theorem q197 : (Cond.lays RX3 "InodeCouncil" "inTransaction" "Z") ∈ WW := WW_mem 197 (by decide +kernel) rfl
theorem q199 : (Cond.laysFinal RX3 "InodeCouncil" "kinds" "[C") ∈ WW := WW_mem 199 (by decide +kernel) rfl
theorem q201 : (Cond.lays RX3 "InodeCouncil" "owners" "I") ∈ WW := WW_mem 201 (by decide +kernel) rfl
theorem q203 : (Cond.laysFinal RX3 "InodeCouncil" "quotas" "[I") ∈ WW := WW_mem 203 (by decide +kernel) rfl
theorem q205 : (Cond.laysFinal RX3 "InodeCouncil" "snapshots" "LInodeCouncil$Snapshots;") ∈ WW := WW_mem 205 (by decide +kernel) rfl
theorem q207 : (Cond.laysFinal RX3 "InodeCouncil" "holds" "LInodeCouncil$Holds;") ∈ WW := WW_mem 207 (by decide +kernel) rfl
theorem q209 : (Cond.lays RX3 "InodeCouncil" "today" "I") ∈ WW := WW_mem 209 (by decide +kernel) rfl
theorem q211 : (Cond.laysFinal RX3 "InodeCouncil" "line" "Ljava/lang/StringBuilder;") ∈ WW := WW_mem 211 (by decide +kernel) rfl
theorem q213 : (Cond.laysFinal RX3 "InodeCouncil" "walked" "[I") ∈ WW := WW_mem 213 (by decide +kernel) rfl
theorem q216 : (Cond.methodLink RL 134 yX3_fileCount) ∈ WW := WW_mem 216 (by decide +kernel) rfl
theorem q217 : (Cond.instanceMethod yX3_fileCount) ∈ WW := WW_mem 217 (by decide +kernel) rfl
theorem q218 : (Cond.selects RX3 yX3_fileCount yX3_fileCount) ∈ WW := WW_mem 218 (by decide +kernel) rfl
theorem q219 : (Cond.code yX3_fileCount cX3_fileCount 1 (some .int)) ∈ WW := WW_mem 219 (by decide +kernel) rfl
theorem q220 : (Cond.methodLink RX3 80 yX2_fileTotal) ∈ WW := WW_mem 220 (by decide +kernel) rfl
theorem q221 : (Cond.instanceMethod yX2_fileTotal) ∈ WW := WW_mem 221 (by decide +kernel) rfl
theorem q222 : (Cond.selects RX2 yX2_fileTotal yX2_fileTotal) ∈ WW := WW_mem 222 (by decide +kernel) rfl
theorem q223 : (Cond.code yX2_fileTotal cX2_fileTotal 1 (some .int)) ∈ WW := WW_mem 223 (by decide +kernel) rfl
theorem q224 : (Cond.methodLink RL 109 yX3_crash) ∈ WW := WW_mem 224 (by decide +kernel) rfl
theorem q225 : (Cond.instanceMethod yX3_crash) ∈ WW := WW_mem 225 (by decide +kernel) rfl
theorem q226 : (Cond.selects RX3 yX3_crash yX3_crash) ∈ WW := WW_mem 226 (by decide +kernel) rfl
theorem q227 : (Cond.code yX3_crash cX3_crash 2 (some .int)) ∈ WW := WW_mem 227 (by decide +kernel) rfl
theorem q228 : (Cond.methodLink RX3 274 yX2_entryTotal) ∈ WW := WW_mem 228 (by decide +kernel) rfl
theorem q229 : (Cond.instanceMethod yX2_entryTotal) ∈ WW := WW_mem 229 (by decide +kernel) rfl
theorem q230 : (Cond.selects RX2 yX2_entryTotal yX2_entryTotal) ∈ WW := WW_mem 230 (by decide +kernel) rfl
theorem q231 : (Cond.code yX2_entryTotal cX2_entryTotal 1 (some .int)) ∈ WW := WW_mem 231 (by decide +kernel) rfl
theorem q232 : (Cond.methodLink RX3 270 yX2_copyFrom) ∈ WW := WW_mem 232 (by decide +kernel) rfl
theorem q233 : (Cond.instanceMethod yX2_copyFrom) ∈ WW := WW_mem 233 (by decide +kernel) rfl
theorem q234 : (Cond.selects RX2 yX2_copyFrom yX2_copyFrom) ∈ WW := WW_mem 234 (by decide +kernel) rfl
theorem q235 : (Cond.code yX2_copyFrom cX2_copyFrom 3 none) ∈ WW := WW_mem 235 (by decide +kernel) rfl
theorem q236 : (Cond.methodLink RX2 47 ⟨"java/lang/System", "arraycopy", "(Ljava/lang/Object;ILjava/lang/Object;II)V"⟩) ∈ WW := WW_mem 236 (by decide +kernel) rfl
theorem q237 : (Cond.static ⟨"java/lang/System", "arraycopy", "(Ljava/lang/Object;ILjava/lang/Object;II)V"⟩) ∈ WW := WW_mem 237 (by decide +kernel) rfl
theorem q238 : (Cond.native ⟨"java/lang/System", "arraycopy", "(Ljava/lang/Object;ILjava/lang/Object;II)V"⟩) ∈ WW := WW_mem 238 (by decide +kernel) rfl
theorem q239 : (Cond.methodLink RL 145 yX3_journalSize) ∈ WW := WW_mem 239 (by decide +kernel) rfl
theorem q240 : (Cond.instanceMethod yX3_journalSize) ∈ WW := WW_mem 240 (by decide +kernel) rfl
theorem q241 : (Cond.selects RX3 yX3_journalSize yX3_journalSize) ∈ WW := WW_mem 241 (by decide +kernel) rfl
theorem q242 : (Cond.code yX3_journalSize cX3_journalSize 1 (some .int)) ∈ WW := WW_mem 242 (by decide +kernel) rfl
theorem q243 : (Cond.methodLink RL 159 yL_cell) ∈ WW := WW_mem 243 (by decide +kernel) rfl
theorem q244 : (Cond.static yL_cell) ∈ WW := WW_mem 244 (by decide +kernel) rfl
theorem q245 : (Cond.code yL_cell cL_cell 2 (some .int)) ∈ WW := WW_mem 245 (by decide +kernel) rfl
theorem q246 : (Cond.constant RL 7 800029) ∈ WW := WW_mem 246 (by decide +kernel) rfl
theorem q247 : (Cond.methodLink RL 163 yL_low) ∈ WW := WW_mem 247 (by decide +kernel) rfl
theorem q248 : (Cond.static yL_low) ∈ WW := WW_mem 248 (by decide +kernel) rfl
theorem q249 : (Cond.code yL_low cL_low 2 (some .int)) ∈ WW := WW_mem 249 (by decide +kernel) rfl
theorem q250 : (Cond.constant RL 8 2147483647) ∈ WW := WW_mem 250 (by decide +kernel) rfl
theorem q251 : (Cond.methodLink RL 139 yL_call) ∈ WW := WW_mem 251 (by decide +kernel) rfl
theorem q252 : (Cond.static yL_call) ∈ WW := WW_mem 252 (by decide +kernel) rfl
theorem q253 : (Cond.codeWith yL_call cL_call 6 (some .int) HH) ∈ WW := WW_mem 253 (by decide +kernel) rfl
theorem q254 : (Cond.classLink RL 122 "java/lang/IndexOutOfBoundsException") ∈ WW := WW_mem 254 (by decide +kernel) rfl
theorem q329 : (Cond.laysFinal RJ0 "java/lang/String" "value" "[B") ∈ WW := WW_mem 329 (by decide +kernel) rfl
theorem q331 : (Cond.laysFinal RJ0 "java/lang/String" "coder" "B") ∈ WW := WW_mem 331 (by decide +kernel) rfl
theorem q333 : (Cond.classLink RL 124 "java/lang/IllegalArgumentException") ∈ WW := WW_mem 333 (by decide +kernel) rfl
theorem q334 : (Cond.classLink RL 126 "java/lang/IllegalStateException") ∈ WW := WW_mem 334 (by decide +kernel) rfl
theorem q335 : (Cond.classLink RL 128 "java/lang/UnsupportedOperationException") ∈ WW := WW_mem 335 (by decide +kernel) rfl
theorem q336 : (Cond.classLink RL 130 "java/util/NoSuchElementException") ∈ WW := WW_mem 336 (by decide +kernel) rfl
theorem q337 : (Cond.methodLink RL 9 yX3_addOwner) ∈ WW := WW_mem 337 (by decide +kernel) rfl
theorem q338 : (Cond.instanceMethod yX3_addOwner) ∈ WW := WW_mem 338 (by decide +kernel) rfl
theorem q339 : (Cond.selects RX3 yX3_addOwner yX3_addOwner) ∈ WW := WW_mem 339 (by decide +kernel) rfl
theorem q340 : (Cond.code yX3_addOwner cX3_addOwner 3 (some .int)) ∈ WW := WW_mem 340 (by decide +kernel) rfl
theorem q341 : (Cond.methodLink RX3 62 yX3_requireWithin) ∈ WW := WW_mem 341 (by decide +kernel) rfl
theorem q343 : (Cond.instanceMethod yX3_requireWithin) ∈ WW := WW_mem 343 (by decide +kernel) rfl
theorem q344 : (Cond.code yX3_requireWithin cX3_requireWithin 4 none) ∈ WW := WW_mem 344 (by decide +kernel) rfl
theorem q345 : (Cond.classLink RX3 317 "java/lang/IllegalArgumentException") ∈ WW := WW_mem 345 (by decide +kernel) rfl
theorem q361 : (Cond.methodLink RX3 66 yX3_requireNoTransaction) ∈ WW := WW_mem 361 (by decide +kernel) rfl
theorem q363 : (Cond.instanceMethod yX3_requireNoTransaction) ∈ WW := WW_mem 363 (by decide +kernel) rfl
theorem q364 : (Cond.code yX3_requireNoTransaction cX3_requireNoTransaction 1 none) ∈ WW := WW_mem 364 (by decide +kernel) rfl
theorem q365 : (Cond.classLink RX3 69 "java/lang/IllegalStateException") ∈ WW := WW_mem 365 (by decide +kernel) rfl
theorem q382 : (Cond.methodLink RL 15 yX3_createFile) ∈ WW := WW_mem 382 (by decide +kernel) rfl
theorem q383 : (Cond.instanceMethod yX3_createFile) ∈ WW := WW_mem 383 (by decide +kernel) rfl
theorem q384 : (Cond.selects RX3 yX3_createFile yX3_createFile) ∈ WW := WW_mem 384 (by decide +kernel) rfl
theorem q385 : (Cond.code yX3_createFile cX3_createFile 3 (some .int)) ∈ WW := WW_mem 385 (by decide +kernel) rfl
theorem q386 : (Cond.methodLink RX3 76 yX3_requireOwner) ∈ WW := WW_mem 386 (by decide +kernel) rfl
theorem q388 : (Cond.instanceMethod yX3_requireOwner) ∈ WW := WW_mem 388 (by decide +kernel) rfl
theorem q389 : (Cond.code yX3_requireOwner cX3_requireOwner 2 none) ∈ WW := WW_mem 389 (by decide +kernel) rfl
theorem q390 : (Cond.classLink RX3 279 "java/lang/IndexOutOfBoundsException") ∈ WW := WW_mem 390 (by decide +kernel) rfl
theorem q404 : (Cond.methodLink RX3 86 yX2_addFile) ∈ WW := WW_mem 404 (by decide +kernel) rfl
theorem q405 : (Cond.instanceMethod yX2_addFile) ∈ WW := WW_mem 405 (by decide +kernel) rfl
theorem q406 : (Cond.selects RX2 yX2_addFile yX2_addFile) ∈ WW := WW_mem 406 (by decide +kernel) rfl
theorem q407 : (Cond.code yX2_addFile cX2_addFile 3 (some .int)) ∈ WW := WW_mem 407 (by decide +kernel) rfl
theorem q408 : (Cond.methodLink RX3 90 yX3_note) ∈ WW := WW_mem 408 (by decide +kernel) rfl
theorem q410 : (Cond.instanceMethod yX3_note) ∈ WW := WW_mem 410 (by decide +kernel) rfl
theorem q411 : (Cond.code yX3_note cX3_note 3 none) ∈ WW := WW_mem 411 (by decide +kernel) rfl
theorem q412 : (Cond.methodLink RX3 364 yX2_setEntries) ∈ WW := WW_mem 412 (by decide +kernel) rfl
theorem q413 : (Cond.instanceMethod yX2_setEntries) ∈ WW := WW_mem 413 (by decide +kernel) rfl
theorem q414 : (Cond.selects RX2 yX2_setEntries yX2_setEntries) ∈ WW := WW_mem 414 (by decide +kernel) rfl
theorem q415 : (Cond.code yX2_setEntries cX2_setEntries 2 none) ∈ WW := WW_mem 415 (by decide +kernel) rfl
theorem q416 : (Cond.methodLink RL 18 yX3_doesExist) ∈ WW := WW_mem 416 (by decide +kernel) rfl
theorem q417 : (Cond.instanceMethod yX3_doesExist) ∈ WW := WW_mem 417 (by decide +kernel) rfl
theorem q418 : (Cond.selects RX3 yX3_doesExist yX3_doesExist) ∈ WW := WW_mem 418 (by decide +kernel) rfl
theorem q419 : (Cond.code yX3_doesExist cX3_doesExist 2 (some .boolean)) ∈ WW := WW_mem 419 (by decide +kernel) rfl
theorem q420 : (Cond.methodLink RX3 94 yX3_requireFile) ∈ WW := WW_mem 420 (by decide +kernel) rfl
theorem q422 : (Cond.instanceMethod yX3_requireFile) ∈ WW := WW_mem 422 (by decide +kernel) rfl
theorem q423 : (Cond.code yX3_requireFile cX3_requireFile 2 none) ∈ WW := WW_mem 423 (by decide +kernel) rfl
theorem q424 : (Cond.methodLink RX3 324 yX2_hasFile) ∈ WW := WW_mem 424 (by decide +kernel) rfl
theorem q425 : (Cond.instanceMethod yX2_hasFile) ∈ WW := WW_mem 425 (by decide +kernel) rfl
theorem q426 : (Cond.selects RX2 yX2_hasFile yX2_hasFile) ∈ WW := WW_mem 426 (by decide +kernel) rfl
theorem q427 : (Cond.code yX2_hasFile cX2_hasFile 2 (some .boolean)) ∈ WW := WW_mem 427 (by decide +kernel) rfl
theorem q429 : (Cond.methodLink RX3 97 yX2_isAlive) ∈ WW := WW_mem 429 (by decide +kernel) rfl
theorem q430 : (Cond.instanceMethod yX2_isAlive) ∈ WW := WW_mem 430 (by decide +kernel) rfl
theorem q431 : (Cond.selects RX2 yX2_isAlive yX2_isAlive) ∈ WW := WW_mem 431 (by decide +kernel) rfl
theorem q432 : (Cond.code yX2_isAlive cX2_isAlive 2 (some .boolean)) ∈ WW := WW_mem 432 (by decide +kernel) rfl
theorem q433 : (Cond.methodLink RX2 53 yX2_hasFile) ∈ WW := WW_mem 433 (by decide +kernel) rfl
theorem q434 : (Cond.methodLink RL 22 yX3_linksOf) ∈ WW := WW_mem 434 (by decide +kernel) rfl
theorem q435 : (Cond.instanceMethod yX3_linksOf) ∈ WW := WW_mem 435 (by decide +kernel) rfl
theorem q436 : (Cond.selects RX3 yX3_linksOf yX3_linksOf) ∈ WW := WW_mem 436 (by decide +kernel) rfl
theorem q437 : (Cond.code yX3_linksOf cX3_linksOf 2 (some .int)) ∈ WW := WW_mem 437 (by decide +kernel) rfl
theorem q438 : (Cond.methodLink RX3 101 yX2_linkTotal) ∈ WW := WW_mem 438 (by decide +kernel) rfl
theorem q439 : (Cond.instanceMethod yX2_linkTotal) ∈ WW := WW_mem 439 (by decide +kernel) rfl
theorem q440 : (Cond.selects RX2 yX2_linkTotal yX2_linkTotal) ∈ WW := WW_mem 440 (by decide +kernel) rfl
theorem q441 : (Cond.code yX2_linkTotal cX2_linkTotal 2 (some .int)) ∈ WW := WW_mem 441 (by decide +kernel) rfl
theorem q442 : (Cond.methodLink RL 25 yX3_link) ∈ WW := WW_mem 442 (by decide +kernel) rfl
theorem q443 : (Cond.instanceMethod yX3_link) ∈ WW := WW_mem 443 (by decide +kernel) rfl
theorem q444 : (Cond.selects RX3 yX3_link yX3_link) ∈ WW := WW_mem 444 (by decide +kernel) rfl
theorem q445 : (Cond.code yX3_link cX3_link 3 (some .int)) ∈ WW := WW_mem 445 (by decide +kernel) rfl
theorem q446 : (Cond.methodLink RX3 104 yX3_requireLinks) ∈ WW := WW_mem 446 (by decide +kernel) rfl
theorem q448 : (Cond.instanceMethod yX3_requireLinks) ∈ WW := WW_mem 448 (by decide +kernel) rfl
theorem q449 : (Cond.code yX3_requireLinks cX3_requireLinks 2 none) ∈ WW := WW_mem 449 (by decide +kernel) rfl
theorem q452 : (Cond.methodLink RX3 109 yX2_setLinks) ∈ WW := WW_mem 452 (by decide +kernel) rfl
theorem q453 : (Cond.instanceMethod yX2_setLinks) ∈ WW := WW_mem 453 (by decide +kernel) rfl
theorem q454 : (Cond.selects RX2 yX2_setLinks yX2_setLinks) ∈ WW := WW_mem 454 (by decide +kernel) rfl
theorem q455 : (Cond.code yX2_setLinks cX2_setLinks 3 none) ∈ WW := WW_mem 455 (by decide +kernel) rfl
theorem q456 : (Cond.methodLink RL 28 yX3_unlink) ∈ WW := WW_mem 456 (by decide +kernel) rfl
theorem q457 : (Cond.instanceMethod yX3_unlink) ∈ WW := WW_mem 457 (by decide +kernel) rfl
theorem q458 : (Cond.selects RX3 yX3_unlink yX3_unlink) ∈ WW := WW_mem 458 (by decide +kernel) rfl
theorem q459 : (Cond.code yX3_unlink cX3_unlink 3 (some .int)) ∈ WW := WW_mem 459 (by decide +kernel) rfl
theorem q460 : (Cond.methodLink RX3 113 yX3_removeIfAbandoned) ∈ WW := WW_mem 460 (by decide +kernel) rfl
theorem q462 : (Cond.instanceMethod yX3_removeIfAbandoned) ∈ WW := WW_mem 462 (by decide +kernel) rfl
theorem q463 : (Cond.code yX3_removeIfAbandoned cX3_removeIfAbandoned 2 (some .int)) ∈ WW := WW_mem 463 (by decide +kernel) rfl
theorem q464 : (Cond.methodLink RX3 257 yX0_openTotal) ∈ WW := WW_mem 464 (by decide +kernel) rfl
theorem q465 : (Cond.instanceMethod yX0_openTotal) ∈ WW := WW_mem 465 (by decide +kernel) rfl
theorem q466 : (Cond.selects RX0 yX0_openTotal yX0_openTotal) ∈ WW := WW_mem 466 (by decide +kernel) rfl
theorem q467 : (Cond.code yX0_openTotal cX0_openTotal 4 (some .int)) ∈ WW := WW_mem 467 (by decide +kernel) rfl
theorem q468 : (Cond.methodLink RX0 30 yX0_isStillOpen) ∈ WW := WW_mem 468 (by decide +kernel) rfl
theorem q469 : (Cond.instanceMethod yX0_isStillOpen) ∈ WW := WW_mem 469 (by decide +kernel) rfl
theorem q470 : (Cond.selects RX0 yX0_isStillOpen yX0_isStillOpen) ∈ WW := WW_mem 470 (by decide +kernel) rfl
theorem q471 : (Cond.code yX0_isStillOpen cX0_isStillOpen 2 (some .boolean)) ∈ WW := WW_mem 471 (by decide +kernel) rfl
theorem q472 : (Cond.methodLink RX0 26 yX0_wasOpened) ∈ WW := WW_mem 472 (by decide +kernel) rfl
theorem q473 : (Cond.instanceMethod yX0_wasOpened) ∈ WW := WW_mem 473 (by decide +kernel) rfl
theorem q474 : (Cond.selects RX0 yX0_wasOpened yX0_wasOpened) ∈ WW := WW_mem 474 (by decide +kernel) rfl
theorem q475 : (Cond.code yX0_wasOpened cX0_wasOpened 2 (some .boolean)) ∈ WW := WW_mem 475 (by decide +kernel) rfl
theorem q476 : (Cond.methodLink RX3 373 yX2_removeFile) ∈ WW := WW_mem 476 (by decide +kernel) rfl
theorem q477 : (Cond.instanceMethod yX2_removeFile) ∈ WW := WW_mem 477 (by decide +kernel) rfl
theorem q478 : (Cond.selects RX2 yX2_removeFile yX2_removeFile) ∈ WW := WW_mem 478 (by decide +kernel) rfl
theorem q479 : (Cond.code yX2_removeFile cX2_removeFile 3 none) ∈ WW := WW_mem 479 (by decide +kernel) rfl
theorem q480 : (Cond.methodLink RX2 57 yX2_setBlock) ∈ WW := WW_mem 480 (by decide +kernel) rfl
theorem q481 : (Cond.instanceMethod yX2_setBlock) ∈ WW := WW_mem 481 (by decide +kernel) rfl
theorem q482 : (Cond.selects RX2 yX2_setBlock yX2_setBlock) ∈ WW := WW_mem 482 (by decide +kernel) rfl
theorem q483 : (Cond.code yX2_setBlock cX2_setBlock 5 none) ∈ WW := WW_mem 483 (by decide +kernel) rfl
theorem q485 : (Cond.static yX3_isPlace) ∈ WW := WW_mem 485 (by decide +kernel) rfl
theorem q486 : (Cond.code yX3_isPlace cX3_isPlace 1 (some .boolean)) ∈ WW := WW_mem 486 (by decide +kernel) rfl
theorem q487 : (Cond.methodLink RX2 64 yX2_removeUser) ∈ WW := WW_mem 487 (by decide +kernel) rfl
theorem q488 : (Cond.instanceMethod yX2_removeUser) ∈ WW := WW_mem 488 (by decide +kernel) rfl
theorem q489 : (Cond.selects RX2 yX2_removeUser yX2_removeUser) ∈ WW := WW_mem 489 (by decide +kernel) rfl
theorem q490 : (Cond.code yX2_removeUser cX2_removeUser 2 none) ∈ WW := WW_mem 490 (by decide +kernel) rfl
theorem q492 : (Cond.static yX3_isBlock) ∈ WW := WW_mem 492 (by decide +kernel) rfl
theorem q493 : (Cond.code yX3_isBlock cX3_isBlock 1 (some .boolean)) ∈ WW := WW_mem 493 (by decide +kernel) rfl
theorem q494 : (Cond.methodLink RX2 68 yX2_addUser) ∈ WW := WW_mem 494 (by decide +kernel) rfl
theorem q495 : (Cond.instanceMethod yX2_addUser) ∈ WW := WW_mem 495 (by decide +kernel) rfl
theorem q496 : (Cond.selects RX2 yX2_addUser yX2_addUser) ∈ WW := WW_mem 496 (by decide +kernel) rfl
theorem q497 : (Cond.code yX2_addUser cX2_addUser 2 none) ∈ WW := WW_mem 497 (by decide +kernel) rfl
theorem q498 : (Cond.methodLink RL 31 yX3_write) ∈ WW := WW_mem 498 (by decide +kernel) rfl
theorem q499 : (Cond.instanceMethod yX3_write) ∈ WW := WW_mem 499 (by decide +kernel) rfl
theorem q500 : (Cond.selects RX3 yX3_write yX3_write) ∈ WW := WW_mem 500 (by decide +kernel) rfl
theorem q501 : (Cond.code yX3_write cX3_write 6 (some .int)) ∈ WW := WW_mem 501 (by decide +kernel) rfl
theorem q502 : (Cond.methodLink RX3 116 yX3_requirePlace) ∈ WW := WW_mem 502 (by decide +kernel) rfl
theorem q504 : (Cond.instanceMethod yX3_requirePlace) ∈ WW := WW_mem 504 (by decide +kernel) rfl
theorem q505 : (Cond.code yX3_requirePlace cX3_requirePlace 2 none) ∈ WW := WW_mem 505 (by decide +kernel) rfl
theorem q506 : (Cond.methodLink RX3 329 yX3_isPlace) ∈ WW := WW_mem 506 (by decide +kernel) rfl
theorem q508 : (Cond.methodLink RX3 119 yX2_blockIn) ∈ WW := WW_mem 508 (by decide +kernel) rfl
theorem q509 : (Cond.instanceMethod yX2_blockIn) ∈ WW := WW_mem 509 (by decide +kernel) rfl
theorem q510 : (Cond.selects RX2 yX2_blockIn yX2_blockIn) ∈ WW := WW_mem 510 (by decide +kernel) rfl
theorem q511 : (Cond.code yX2_blockIn cX2_blockIn 3 (some .int)) ∈ WW := WW_mem 511 (by decide +kernel) rfl
theorem q512 : (Cond.methodLink RX3 123 yX2_userTotal) ∈ WW := WW_mem 512 (by decide +kernel) rfl
theorem q513 : (Cond.instanceMethod yX2_userTotal) ∈ WW := WW_mem 513 (by decide +kernel) rfl
theorem q514 : (Cond.selects RX2 yX2_userTotal yX2_userTotal) ∈ WW := WW_mem 514 (by decide +kernel) rfl
theorem q515 : (Cond.code yX2_userTotal cX2_userTotal 2 (some .int)) ∈ WW := WW_mem 515 (by decide +kernel) rfl
theorem q516 : (Cond.methodLink RX3 126 yX2_ownerIn) ∈ WW := WW_mem 516 (by decide +kernel) rfl
theorem q517 : (Cond.instanceMethod yX2_ownerIn) ∈ WW := WW_mem 517 (by decide +kernel) rfl
theorem q518 : (Cond.selects RX2 yX2_ownerIn yX2_ownerIn) ∈ WW := WW_mem 518 (by decide +kernel) rfl
theorem q519 : (Cond.code yX2_ownerIn cX2_ownerIn 2 (some .int)) ∈ WW := WW_mem 519 (by decide +kernel) rfl
theorem q520 : (Cond.methodLink RX3 129 yX3_requireBlockFor) ∈ WW := WW_mem 520 (by decide +kernel) rfl
theorem q522 : (Cond.instanceMethod yX3_requireBlockFor) ∈ WW := WW_mem 522 (by decide +kernel) rfl
theorem q523 : (Cond.code yX3_requireBlockFor cX3_requireBlockFor 6 none) ∈ WW := WW_mem 523 (by decide +kernel) rfl
theorem q524 : (Cond.methodLink RX3 149 yX2_blocksOfOwner) ∈ WW := WW_mem 524 (by decide +kernel) rfl
theorem q525 : (Cond.instanceMethod yX2_blocksOfOwner) ∈ WW := WW_mem 525 (by decide +kernel) rfl
theorem q526 : (Cond.selects RX2 yX2_blocksOfOwner yX2_blocksOfOwner) ∈ WW := WW_mem 526 (by decide +kernel) rfl
theorem q527 : (Cond.code yX2_blocksOfOwner cX2_blocksOfOwner 6 (some .long)) ∈ WW := WW_mem 527 (by decide +kernel) rfl
theorem q528 : (Cond.methodLink RX2 75 yX2_ownerIn) ∈ WW := WW_mem 528 (by decide +kernel) rfl
theorem q529 : (Cond.methodLink RX2 79 yX2_blocksInFile) ∈ WW := WW_mem 529 (by decide +kernel) rfl
theorem q530 : (Cond.instanceMethod yX2_blocksInFile) ∈ WW := WW_mem 530 (by decide +kernel) rfl
theorem q531 : (Cond.selects RX2 yX2_blocksInFile yX2_blocksInFile) ∈ WW := WW_mem 531 (by decide +kernel) rfl
theorem q532 : (Cond.code yX2_blocksInFile cX2_blocksInFile 7 (some .long)) ∈ WW := WW_mem 532 (by decide +kernel) rfl
theorem q533 : (Cond.methodLink RX2 71 yX2_blockIn) ∈ WW := WW_mem 533 (by decide +kernel) rfl
theorem q534 : (Cond.methodLink RX3 359 yX2_blocksInFile) ∈ WW := WW_mem 534 (by decide +kernel) rfl
theorem q535 : (Cond.methodLink RX3 153 yJ13_bitCount_95d88) ∈ WW := WW_mem 535 (by decide +kernel) rfl
theorem q536 : (Cond.static yJ13_bitCount_95d88) ∈ WW := WW_mem 536 (by decide +kernel) rfl
theorem q537 : (Cond.code yJ13_bitCount_95d88 cJ13_bitCount_95d88 2 (some .int)) ∈ WW := WW_mem 537 (by decide +kernel) rfl
theorem q538 : (Cond.constantLong RJ13 314 6148914691236517205) ∈ WW := WW_mem 538 (by decide +kernel) rfl
theorem q539 : (Cond.constantLong RJ13 316 3689348814741910323) ∈ WW := WW_mem 539 (by decide +kernel) rfl
theorem q540 : (Cond.constantLong RJ13 318 1085102592571150095) ∈ WW := WW_mem 540 (by decide +kernel) rfl
theorem q541 : (Cond.methodLink RX3 232 yX3_quotaOf) ∈ WW := WW_mem 541 (by decide +kernel) rfl
theorem q543 : (Cond.instanceMethod yX3_quotaOf) ∈ WW := WW_mem 543 (by decide +kernel) rfl
theorem q544 : (Cond.code yX3_quotaOf cX3_quotaOf 2 (some .int)) ∈ WW := WW_mem 544 (by decide +kernel) rfl
theorem q545 : (Cond.classLink RX3 171 "java/lang/UnsupportedOperationException") ∈ WW := WW_mem 545 (by decide +kernel) rfl
theorem q561 : (Cond.methodLink RX3 159 yX2_freeTotal) ∈ WW := WW_mem 561 (by decide +kernel) rfl
theorem q562 : (Cond.instanceMethod yX2_freeTotal) ∈ WW := WW_mem 562 (by decide +kernel) rfl
theorem q563 : (Cond.selects RX2 yX2_freeTotal yX2_freeTotal) ∈ WW := WW_mem 563 (by decide +kernel) rfl
theorem q564 : (Cond.code yX2_freeTotal cX2_freeTotal 3 (some .int)) ∈ WW := WW_mem 564 (by decide +kernel) rfl
theorem q565 : (Cond.methodLink RX3 168 yX2_promisedInAll) ∈ WW := WW_mem 565 (by decide +kernel) rfl
theorem q566 : (Cond.instanceMethod yX2_promisedInAll) ∈ WW := WW_mem 566 (by decide +kernel) rfl
theorem q567 : (Cond.selects RX2 yX2_promisedInAll yX2_promisedInAll) ∈ WW := WW_mem 567 (by decide +kernel) rfl
theorem q568 : (Cond.code yX2_promisedInAll cX2_promisedInAll 3 (some .int)) ∈ WW := WW_mem 568 (by decide +kernel) rfl
theorem q569 : (Cond.methodLink RX3 176 yX2_promisedFor) ∈ WW := WW_mem 569 (by decide +kernel) rfl
theorem q570 : (Cond.instanceMethod yX2_promisedFor) ∈ WW := WW_mem 570 (by decide +kernel) rfl
theorem q571 : (Cond.selects RX2 yX2_promisedFor yX2_promisedFor) ∈ WW := WW_mem 571 (by decide +kernel) rfl
theorem q572 : (Cond.code yX2_promisedFor cX2_promisedFor 2 (some .int)) ∈ WW := WW_mem 572 (by decide +kernel) rfl
theorem q574 : (Cond.methodLink RX3 132 yX2_takeBlock) ∈ WW := WW_mem 574 (by decide +kernel) rfl
theorem q575 : (Cond.instanceMethod yX2_takeBlock) ∈ WW := WW_mem 575 (by decide +kernel) rfl
theorem q576 : (Cond.selects RX2 yX2_takeBlock yX2_takeBlock) ∈ WW := WW_mem 576 (by decide +kernel) rfl
theorem q577 : (Cond.code yX2_takeBlock cX2_takeBlock 3 (some .int)) ∈ WW := WW_mem 577 (by decide +kernel) rfl
theorem q578 : (Cond.methodLink RX2 89 yX2_promisedFor) ∈ WW := WW_mem 578 (by decide +kernel) rfl
theorem q579 : (Cond.methodLink RX2 92 Lib.Math.max.name) ∈ WW := WW_mem 579 (by decide +kernel) rfl
theorem q580 : (Cond.static Lib.Math.max.name) ∈ WW := WW_mem 580 (by decide +kernel) rfl
theorem q581 : (Cond.code Lib.Math.max.name Lib.Math.max.code 2 (some .int)) ∈ WW := WW_mem 581 (by decide +kernel) rfl
theorem q582 : (Cond.methodLink RX2 97 yX2_setPromised) ∈ WW := WW_mem 582 (by decide +kernel) rfl
theorem q583 : (Cond.instanceMethod yX2_setPromised) ∈ WW := WW_mem 583 (by decide +kernel) rfl
theorem q584 : (Cond.selects RX2 yX2_setPromised yX2_setPromised) ∈ WW := WW_mem 584 (by decide +kernel) rfl
theorem q585 : (Cond.code yX2_setPromised cX2_setPromised 3 none) ∈ WW := WW_mem 585 (by decide +kernel) rfl
theorem q586 : (Cond.methodLink RX3 135 yX2_setBlock) ∈ WW := WW_mem 586 (by decide +kernel) rfl
theorem q587 : (Cond.methodLink RX3 138 yX2_setValue) ∈ WW := WW_mem 587 (by decide +kernel) rfl
theorem q588 : (Cond.instanceMethod yX2_setValue) ∈ WW := WW_mem 588 (by decide +kernel) rfl
theorem q589 : (Cond.selects RX2 yX2_setValue yX2_setValue) ∈ WW := WW_mem 589 (by decide +kernel) rfl
theorem q590 : (Cond.code yX2_setValue cX2_setValue 3 none) ∈ WW := WW_mem 590 (by decide +kernel) rfl
theorem q591 : (Cond.methodLink RL 35 yX3_punch) ∈ WW := WW_mem 591 (by decide +kernel) rfl
theorem q592 : (Cond.instanceMethod yX3_punch) ∈ WW := WW_mem 592 (by decide +kernel) rfl
theorem q593 : (Cond.selects RX3 yX3_punch yX3_punch) ∈ WW := WW_mem 593 (by decide +kernel) rfl
theorem q594 : (Cond.code yX3_punch cX3_punch 4 (some .int)) ∈ WW := WW_mem 594 (by decide +kernel) rfl
theorem q596 : (Cond.methodLink RL 39 yX3_read) ∈ WW := WW_mem 596 (by decide +kernel) rfl
theorem q597 : (Cond.instanceMethod yX3_read) ∈ WW := WW_mem 597 (by decide +kernel) rfl
theorem q598 : (Cond.selects RX3 yX3_read yX3_read) ∈ WW := WW_mem 598 (by decide +kernel) rfl
theorem q599 : (Cond.code yX3_read cX3_read 3 (some .int)) ∈ WW := WW_mem 599 (by decide +kernel) rfl
theorem q600 : (Cond.methodLink RX3 143 yX3_blockOrThrow) ∈ WW := WW_mem 600 (by decide +kernel) rfl
theorem q602 : (Cond.instanceMethod yX3_blockOrThrow) ∈ WW := WW_mem 602 (by decide +kernel) rfl
theorem q603 : (Cond.code yX3_blockOrThrow cX3_blockOrThrow 4 (some .int)) ∈ WW := WW_mem 603 (by decide +kernel) rfl
theorem q604 : (Cond.classLink RX3 210 "java/util/NoSuchElementException") ∈ WW := WW_mem 604 (by decide +kernel) rfl
theorem q620 : (Cond.methodLink RX3 146 yX2_valueIn) ∈ WW := WW_mem 620 (by decide +kernel) rfl
theorem q621 : (Cond.instanceMethod yX2_valueIn) ∈ WW := WW_mem 621 (by decide +kernel) rfl
theorem q622 : (Cond.selects RX2 yX2_valueIn yX2_valueIn) ∈ WW := WW_mem 622 (by decide +kernel) rfl
theorem q623 : (Cond.code yX2_valueIn cX2_valueIn 2 (some .int)) ∈ WW := WW_mem 623 (by decide +kernel) rfl
theorem q624 : (Cond.methodLink RL 42 yX3_blockAt) ∈ WW := WW_mem 624 (by decide +kernel) rfl
theorem q625 : (Cond.instanceMethod yX3_blockAt) ∈ WW := WW_mem 625 (by decide +kernel) rfl
theorem q626 : (Cond.selects RX3 yX3_blockAt yX3_blockAt) ∈ WW := WW_mem 626 (by decide +kernel) rfl
theorem q627 : (Cond.code yX3_blockAt cX3_blockAt 3 (some .int)) ∈ WW := WW_mem 627 (by decide +kernel) rfl
theorem q628 : (Cond.methodLink RL 45 yX3_blocksOf) ∈ WW := WW_mem 628 (by decide +kernel) rfl
theorem q629 : (Cond.instanceMethod yX3_blocksOf) ∈ WW := WW_mem 629 (by decide +kernel) rfl
theorem q630 : (Cond.selects RX3 yX3_blocksOf yX3_blocksOf) ∈ WW := WW_mem 630 (by decide +kernel) rfl
theorem q631 : (Cond.code yX3_blocksOf cX3_blocksOf 4 (some .int)) ∈ WW := WW_mem 631 (by decide +kernel) rfl
theorem q632 : (Cond.methodLink RL 48 yX3_usedBy) ∈ WW := WW_mem 632 (by decide +kernel) rfl
theorem q633 : (Cond.instanceMethod yX3_usedBy) ∈ WW := WW_mem 633 (by decide +kernel) rfl
theorem q634 : (Cond.selects RX3 yX3_usedBy yX3_usedBy) ∈ WW := WW_mem 634 (by decide +kernel) rfl
theorem q635 : (Cond.code yX3_usedBy cX3_usedBy 2 (some .int)) ∈ WW := WW_mem 635 (by decide +kernel) rfl
theorem q636 : (Cond.methodLink RL 51 yX3_usersOf) ∈ WW := WW_mem 636 (by decide +kernel) rfl
theorem q637 : (Cond.instanceMethod yX3_usersOf) ∈ WW := WW_mem 637 (by decide +kernel) rfl
theorem q638 : (Cond.selects RX3 yX3_usersOf yX3_usersOf) ∈ WW := WW_mem 638 (by decide +kernel) rfl
theorem q639 : (Cond.code yX3_usersOf cX3_usersOf 2 (some .int)) ∈ WW := WW_mem 639 (by decide +kernel) rfl
theorem q640 : (Cond.methodLink RX3 162 yX3_requireBlock) ∈ WW := WW_mem 640 (by decide +kernel) rfl
theorem q642 : (Cond.instanceMethod yX3_requireBlock) ∈ WW := WW_mem 642 (by decide +kernel) rfl
theorem q643 : (Cond.code yX3_requireBlock cX3_requireBlock 2 none) ∈ WW := WW_mem 643 (by decide +kernel) rfl
theorem q644 : (Cond.methodLink RX3 334 yX3_isBlock) ∈ WW := WW_mem 644 (by decide +kernel) rfl
theorem q646 : (Cond.methodLink RL 54 yX3_usersByWalk) ∈ WW := WW_mem 646 (by decide +kernel) rfl
theorem q647 : (Cond.instanceMethod yX3_usersByWalk) ∈ WW := WW_mem 647 (by decide +kernel) rfl
theorem q648 : (Cond.selects RX3 yX3_usersByWalk yX3_usersByWalk) ∈ WW := WW_mem 648 (by decide +kernel) rfl
theorem q649 : (Cond.code yX3_usersByWalk cX3_usersByWalk 2 (some .int)) ∈ WW := WW_mem 649 (by decide +kernel) rfl
theorem q650 : (Cond.methodLink RX3 165 yX3_walkUsers) ∈ WW := WW_mem 650 (by decide +kernel) rfl
theorem q652 : (Cond.instanceMethod yX3_walkUsers) ∈ WW := WW_mem 652 (by decide +kernel) rfl
theorem q653 : (Cond.code yX3_walkUsers cX3_walkUsers 1 none) ∈ WW := WW_mem 653 (by decide +kernel) rfl
theorem q654 : (Cond.methodLink RX3 376 yJ7_fill_53178) ∈ WW := WW_mem 654 (by decide +kernel) rfl
theorem q655 : (Cond.methodLink RX3 382 yX2_walkFiles) ∈ WW := WW_mem 655 (by decide +kernel) rfl
theorem q656 : (Cond.instanceMethod yX2_walkFiles) ∈ WW := WW_mem 656 (by decide +kernel) rfl
theorem q657 : (Cond.selects RX2 yX2_walkFiles yX2_walkFiles) ∈ WW := WW_mem 657 (by decide +kernel) rfl
theorem q658 : (Cond.code yX2_walkFiles cX2_walkFiles 4 none) ∈ WW := WW_mem 658 (by decide +kernel) rfl
theorem q660 : (Cond.static yX3_countUser) ∈ WW := WW_mem 660 (by decide +kernel) rfl
theorem q661 : (Cond.code yX3_countUser cX3_countUser 2 none) ∈ WW := WW_mem 661 (by decide +kernel) rfl
theorem q662 : (Cond.methodLink RX3 386 yX1_walkKept) ∈ WW := WW_mem 662 (by decide +kernel) rfl
theorem q663 : (Cond.instanceMethod yX1_walkKept) ∈ WW := WW_mem 663 (by decide +kernel) rfl
theorem q664 : (Cond.selects RX1 yX1_walkKept yX1_walkKept) ∈ WW := WW_mem 664 (by decide +kernel) rfl
theorem q665 : (Cond.code yX1_walkKept cX1_walkKept 5 none) ∈ WW := WW_mem 665 (by decide +kernel) rfl
theorem q666 : (Cond.methodLink RX1 75 yX1_isInRow) ∈ WW := WW_mem 666 (by decide +kernel) rfl
theorem q668 : (Cond.instanceMethod yX1_isInRow) ∈ WW := WW_mem 668 (by decide +kernel) rfl
theorem q669 : (Cond.code yX1_isInRow cX1_isInRow 3 (some .boolean)) ∈ WW := WW_mem 669 (by decide +kernel) rfl
theorem q670 : (Cond.methodLink RX1 51 yX1_isRow) ∈ WW := WW_mem 670 (by decide +kernel) rfl
theorem q671 : (Cond.static yX1_isRow) ∈ WW := WW_mem 671 (by decide +kernel) rfl
theorem q672 : (Cond.code yX1_isRow cX1_isRow 1 (some .boolean)) ∈ WW := WW_mem 672 (by decide +kernel) rfl
theorem q674 : (Cond.methodLink RL 57 yX3_promise) ∈ WW := WW_mem 674 (by decide +kernel) rfl
theorem q675 : (Cond.instanceMethod yX3_promise) ∈ WW := WW_mem 675 (by decide +kernel) rfl
theorem q676 : (Cond.selects RX3 yX3_promise yX3_promise) ∈ WW := WW_mem 676 (by decide +kernel) rfl
theorem q677 : (Cond.code yX3_promise cX3_promise 4 (some .int)) ∈ WW := WW_mem 677 (by decide +kernel) rfl
theorem q679 : (Cond.methodLink RX3 179 yX2_setPromised) ∈ WW := WW_mem 679 (by decide +kernel) rfl
theorem q680 : (Cond.methodLink RL 60 yX3_promisedTo) ∈ WW := WW_mem 680 (by decide +kernel) rfl
theorem q681 : (Cond.instanceMethod yX3_promisedTo) ∈ WW := WW_mem 681 (by decide +kernel) rfl
theorem q682 : (Cond.selects RX3 yX3_promisedTo yX3_promisedTo) ∈ WW := WW_mem 682 (by decide +kernel) rfl
theorem q683 : (Cond.code yX3_promisedTo cX3_promisedTo 2 (some .int)) ∈ WW := WW_mem 683 (by decide +kernel) rfl
theorem q684 : (Cond.methodLink RL 63 yX3_giveBack) ∈ WW := WW_mem 684 (by decide +kernel) rfl
theorem q685 : (Cond.instanceMethod yX3_giveBack) ∈ WW := WW_mem 685 (by decide +kernel) rfl
theorem q686 : (Cond.selects RX3 yX3_giveBack yX3_giveBack) ∈ WW := WW_mem 686 (by decide +kernel) rfl
theorem q687 : (Cond.code yX3_giveBack cX3_giveBack 3 (some .int)) ∈ WW := WW_mem 687 (by decide +kernel) rfl
theorem q689 : (Cond.methodLink RL 66 yX3_takeSnapshot) ∈ WW := WW_mem 689 (by decide +kernel) rfl
theorem q690 : (Cond.instanceMethod yX3_takeSnapshot) ∈ WW := WW_mem 690 (by decide +kernel) rfl
theorem q691 : (Cond.selects RX3 yX3_takeSnapshot yX3_takeSnapshot) ∈ WW := WW_mem 691 (by decide +kernel) rfl
theorem q692 : (Cond.code yX3_takeSnapshot cX3_takeSnapshot 2 (some .int)) ∈ WW := WW_mem 692 (by decide +kernel) rfl
theorem q693 : (Cond.methodLink RX3 184 yX1_keptTotal) ∈ WW := WW_mem 693 (by decide +kernel) rfl
theorem q694 : (Cond.instanceMethod yX1_keptTotal) ∈ WW := WW_mem 694 (by decide +kernel) rfl
theorem q695 : (Cond.selects RX1 yX1_keptTotal yX1_keptTotal) ∈ WW := WW_mem 695 (by decide +kernel) rfl
theorem q696 : (Cond.code yX1_keptTotal cX1_keptTotal 1 (some .int)) ∈ WW := WW_mem 696 (by decide +kernel) rfl
theorem q698 : (Cond.methodLink RX3 189 yX1_takenTotal) ∈ WW := WW_mem 698 (by decide +kernel) rfl
theorem q699 : (Cond.instanceMethod yX1_takenTotal) ∈ WW := WW_mem 699 (by decide +kernel) rfl
theorem q700 : (Cond.selects RX1 yX1_takenTotal yX1_takenTotal) ∈ WW := WW_mem 700 (by decide +kernel) rfl
theorem q701 : (Cond.code yX1_takenTotal cX1_takenTotal 1 (some .int)) ∈ WW := WW_mem 701 (by decide +kernel) rfl
theorem q703 : (Cond.methodLink RX3 194 yX1_add) ∈ WW := WW_mem 703 (by decide +kernel) rfl
theorem q704 : (Cond.instanceMethod yX1_add) ∈ WW := WW_mem 704 (by decide +kernel) rfl
theorem q705 : (Cond.selects RX1 yX1_add yX1_add) ∈ WW := WW_mem 705 (by decide +kernel) rfl
theorem q706 : (Cond.code yX1_add cX1_add 5 (some .int)) ∈ WW := WW_mem 706 (by decide +kernel) rfl
theorem q707 : (Cond.methodLink RX1 47 yX1_unusedRow) ∈ WW := WW_mem 707 (by decide +kernel) rfl
theorem q709 : (Cond.instanceMethod yX1_unusedRow) ∈ WW := WW_mem 709 (by decide +kernel) rfl
theorem q710 : (Cond.code yX1_unusedRow cX1_unusedRow 2 (some .int)) ∈ WW := WW_mem 710 (by decide +kernel) rfl
theorem q711 : (Cond.methodLink RX1 54 yX1_fillRow) ∈ WW := WW_mem 711 (by decide +kernel) rfl
theorem q713 : (Cond.instanceMethod yX1_fillRow) ∈ WW := WW_mem 713 (by decide +kernel) rfl
theorem q714 : (Cond.code yX1_fillRow cX1_fillRow 6 none) ∈ WW := WW_mem 714 (by decide +kernel) rfl
theorem q715 : (Cond.methodLink RX1 58 yX2_isAlive) ∈ WW := WW_mem 715 (by decide +kernel) rfl
theorem q716 : (Cond.methodLink RX1 63 yX2_blockIn) ∈ WW := WW_mem 716 (by decide +kernel) rfl
theorem q717 : (Cond.methodLink RX1 67 yX2_addUser) ∈ WW := WW_mem 717 (by decide +kernel) rfl
theorem q718 : (Cond.methodLink RL 69 yX3_isKept) ∈ WW := WW_mem 718 (by decide +kernel) rfl
theorem q719 : (Cond.instanceMethod yX3_isKept) ∈ WW := WW_mem 719 (by decide +kernel) rfl
theorem q720 : (Cond.selects RX3 yX3_isKept yX3_isKept) ∈ WW := WW_mem 720 (by decide +kernel) rfl
theorem q721 : (Cond.code yX3_isKept cX3_isKept 2 (some .boolean)) ∈ WW := WW_mem 721 (by decide +kernel) rfl
theorem q722 : (Cond.methodLink RX3 198 yX3_requireSnapshot) ∈ WW := WW_mem 722 (by decide +kernel) rfl
theorem q724 : (Cond.instanceMethod yX3_requireSnapshot) ∈ WW := WW_mem 724 (by decide +kernel) rfl
theorem q725 : (Cond.code yX3_requireSnapshot cX3_requireSnapshot 2 none) ∈ WW := WW_mem 725 (by decide +kernel) rfl
theorem q726 : (Cond.methodLink RX3 339 yX1_wasTaken) ∈ WW := WW_mem 726 (by decide +kernel) rfl
theorem q727 : (Cond.instanceMethod yX1_wasTaken) ∈ WW := WW_mem 727 (by decide +kernel) rfl
theorem q728 : (Cond.selects RX1 yX1_wasTaken yX1_wasTaken) ∈ WW := WW_mem 728 (by decide +kernel) rfl
theorem q729 : (Cond.code yX1_wasTaken cX1_wasTaken 2 (some .boolean)) ∈ WW := WW_mem 729 (by decide +kernel) rfl
theorem q731 : (Cond.methodLink RX3 201 yX1_rowOf) ∈ WW := WW_mem 731 (by decide +kernel) rfl
theorem q732 : (Cond.instanceMethod yX1_rowOf) ∈ WW := WW_mem 732 (by decide +kernel) rfl
theorem q733 : (Cond.selects RX1 yX1_rowOf yX1_rowOf) ∈ WW := WW_mem 733 (by decide +kernel) rfl
theorem q734 : (Cond.code yX1_rowOf cX1_rowOf 2 (some .int)) ∈ WW := WW_mem 734 (by decide +kernel) rfl
theorem q735 : (Cond.methodLink RX1 43 yX1_wasTaken) ∈ WW := WW_mem 735 (by decide +kernel) rfl
theorem q736 : (Cond.methodLink RL 72 yX3_readFrom) ∈ WW := WW_mem 736 (by decide +kernel) rfl
theorem q737 : (Cond.instanceMethod yX3_readFrom) ∈ WW := WW_mem 737 (by decide +kernel) rfl
theorem q738 : (Cond.selects RX3 yX3_readFrom yX3_readFrom) ∈ WW := WW_mem 738 (by decide +kernel) rfl
theorem q739 : (Cond.code yX3_readFrom cX3_readFrom 5 (some .int)) ∈ WW := WW_mem 739 (by decide +kernel) rfl
theorem q740 : (Cond.methodLink RX3 204 yX3_requireInSnapshot) ∈ WW := WW_mem 740 (by decide +kernel) rfl
theorem q742 : (Cond.instanceMethod yX3_requireInSnapshot) ∈ WW := WW_mem 742 (by decide +kernel) rfl
theorem q743 : (Cond.code yX3_requireInSnapshot cX3_requireInSnapshot 3 none) ∈ WW := WW_mem 743 (by decide +kernel) rfl
theorem q744 : (Cond.methodLink RX3 344 yX1_includes) ∈ WW := WW_mem 744 (by decide +kernel) rfl
theorem q745 : (Cond.instanceMethod yX1_includes) ∈ WW := WW_mem 745 (by decide +kernel) rfl
theorem q746 : (Cond.selects RX1 yX1_includes yX1_includes) ∈ WW := WW_mem 746 (by decide +kernel) rfl
theorem q747 : (Cond.code yX1_includes cX1_includes 3 (some .boolean)) ∈ WW := WW_mem 747 (by decide +kernel) rfl
theorem q748 : (Cond.methodLink RX1 71 yX1_rowOf) ∈ WW := WW_mem 748 (by decide +kernel) rfl
theorem q750 : (Cond.methodLink RX3 207 yX1_blockIn) ∈ WW := WW_mem 750 (by decide +kernel) rfl
theorem q751 : (Cond.instanceMethod yX1_blockIn) ∈ WW := WW_mem 751 (by decide +kernel) rfl
theorem q752 : (Cond.selects RX1 yX1_blockIn yX1_blockIn) ∈ WW := WW_mem 752 (by decide +kernel) rfl
theorem q753 : (Cond.code yX1_blockIn cX1_blockIn 5 (some .int)) ∈ WW := WW_mem 753 (by decide +kernel) rfl
theorem q756 : (Cond.methodLink RL 75 yX3_thin) ∈ WW := WW_mem 756 (by decide +kernel) rfl
theorem q757 : (Cond.instanceMethod yX3_thin) ∈ WW := WW_mem 757 (by decide +kernel) rfl
theorem q758 : (Cond.selects RX3 yX3_thin yX3_thin) ∈ WW := WW_mem 758 (by decide +kernel) rfl
theorem q759 : (Cond.code yX3_thin cX3_thin 4 (some .int)) ∈ WW := WW_mem 759 (by decide +kernel) rfl
theorem q760 : (Cond.methodLink RX3 215 Lib.Math.max.name) ∈ WW := WW_mem 760 (by decide +kernel) rfl
theorem q761 : (Cond.methodLink RX3 220 yX1_leastKept) ∈ WW := WW_mem 761 (by decide +kernel) rfl
theorem q762 : (Cond.instanceMethod yX1_leastKept) ∈ WW := WW_mem 762 (by decide +kernel) rfl
theorem q763 : (Cond.selects RX1 yX1_leastKept yX1_leastKept) ∈ WW := WW_mem 763 (by decide +kernel) rfl
theorem q764 : (Cond.code yX1_leastKept cX1_leastKept 4 (some .int)) ∈ WW := WW_mem 764 (by decide +kernel) rfl
theorem q765 : (Cond.methodLink RX3 223 yX1_drop) ∈ WW := WW_mem 765 (by decide +kernel) rfl
theorem q766 : (Cond.instanceMethod yX1_drop) ∈ WW := WW_mem 766 (by decide +kernel) rfl
theorem q767 : (Cond.selects RX1 yX1_drop yX1_drop) ∈ WW := WW_mem 767 (by decide +kernel) rfl
theorem q768 : (Cond.code yX1_drop cX1_drop 6 none) ∈ WW := WW_mem 768 (by decide +kernel) rfl
theorem q769 : (Cond.methodLink RX1 79 yX2_removeUser) ∈ WW := WW_mem 769 (by decide +kernel) rfl
theorem q770 : (Cond.methodLink RL 78 yX3_nextToDrop) ∈ WW := WW_mem 770 (by decide +kernel) rfl
theorem q771 : (Cond.instanceMethod yX3_nextToDrop) ∈ WW := WW_mem 771 (by decide +kernel) rfl
theorem q772 : (Cond.selects RX3 yX3_nextToDrop yX3_nextToDrop) ∈ WW := WW_mem 772 (by decide +kernel) rfl
theorem q773 : (Cond.code yX3_nextToDrop cX3_nextToDrop 2 (some .int)) ∈ WW := WW_mem 773 (by decide +kernel) rfl
theorem q775 : (Cond.methodLink RL 82 yX3_restore) ∈ WW := WW_mem 775 (by decide +kernel) rfl
theorem q776 : (Cond.instanceMethod yX3_restore) ∈ WW := WW_mem 776 (by decide +kernel) rfl
theorem q777 : (Cond.selects RX3 yX3_restore yX3_restore) ∈ WW := WW_mem 777 (by decide +kernel) rfl
theorem q778 : (Cond.code yX3_restore cX3_restore 9 (some .int)) ∈ WW := WW_mem 778 (by decide +kernel) rfl
theorem q779 : (Cond.methodLink RX3 229 yX1_blocksInFile) ∈ WW := WW_mem 779 (by decide +kernel) rfl
theorem q780 : (Cond.instanceMethod yX1_blocksInFile) ∈ WW := WW_mem 780 (by decide +kernel) rfl
theorem q781 : (Cond.selects RX1 yX1_blocksInFile yX1_blocksInFile) ∈ WW := WW_mem 781 (by decide +kernel) rfl
theorem q782 : (Cond.code yX1_blocksInFile cX1_blocksInFile 7 (some .long)) ∈ WW := WW_mem 782 (by decide +kernel) rfl
theorem q783 : (Cond.methodLink RX1 85 yX1_blockIn) ∈ WW := WW_mem 783 (by decide +kernel) rfl
theorem q784 : (Cond.methodLink RL 85 yX3_openHold) ∈ WW := WW_mem 784 (by decide +kernel) rfl
theorem q785 : (Cond.instanceMethod yX3_openHold) ∈ WW := WW_mem 785 (by decide +kernel) rfl
theorem q786 : (Cond.selects RX3 yX3_openHold yX3_openHold) ∈ WW := WW_mem 786 (by decide +kernel) rfl
theorem q787 : (Cond.code yX3_openHold cX3_openHold 3 (some .int)) ∈ WW := WW_mem 787 (by decide +kernel) rfl
theorem q789 : (Cond.methodLink RX3 239 yX0_openedTotal) ∈ WW := WW_mem 789 (by decide +kernel) rfl
theorem q790 : (Cond.instanceMethod yX0_openedTotal) ∈ WW := WW_mem 790 (by decide +kernel) rfl
theorem q791 : (Cond.selects RX0 yX0_openedTotal yX0_openedTotal) ∈ WW := WW_mem 791 (by decide +kernel) rfl
theorem q792 : (Cond.code yX0_openedTotal cX0_openedTotal 1 (some .int)) ∈ WW := WW_mem 792 (by decide +kernel) rfl
theorem q794 : (Cond.methodLink RX3 244 yX0_add) ∈ WW := WW_mem 794 (by decide +kernel) rfl
theorem q795 : (Cond.instanceMethod yX0_add) ∈ WW := WW_mem 795 (by decide +kernel) rfl
theorem q796 : (Cond.selects RX0 yX0_add yX0_add) ∈ WW := WW_mem 796 (by decide +kernel) rfl
theorem q797 : (Cond.code yX0_add cX0_add 4 (some .int)) ∈ WW := WW_mem 797 (by decide +kernel) rfl
theorem q798 : (Cond.methodLink RL 88 yX3_release) ∈ WW := WW_mem 798 (by decide +kernel) rfl
theorem q799 : (Cond.instanceMethod yX3_release) ∈ WW := WW_mem 799 (by decide +kernel) rfl
theorem q800 : (Cond.selects RX3 yX3_release yX3_release) ∈ WW := WW_mem 800 (by decide +kernel) rfl
theorem q801 : (Cond.code yX3_release cX3_release 2 (some .int)) ∈ WW := WW_mem 801 (by decide +kernel) rfl
theorem q802 : (Cond.methodLink RX3 246 yX3_requireHold) ∈ WW := WW_mem 802 (by decide +kernel) rfl
theorem q804 : (Cond.instanceMethod yX3_requireHold) ∈ WW := WW_mem 804 (by decide +kernel) rfl
theorem q805 : (Cond.code yX3_requireHold cX3_requireHold 2 none) ∈ WW := WW_mem 805 (by decide +kernel) rfl
theorem q806 : (Cond.methodLink RX3 350 yX0_wasOpened) ∈ WW := WW_mem 806 (by decide +kernel) rfl
theorem q808 : (Cond.methodLink RX3 249 yX0_isStillOpen) ∈ WW := WW_mem 808 (by decide +kernel) rfl
theorem q810 : (Cond.methodLink RX3 254 yX3_endHold) ∈ WW := WW_mem 810 (by decide +kernel) rfl
theorem q812 : (Cond.instanceMethod yX3_endHold) ∈ WW := WW_mem 812 (by decide +kernel) rfl
theorem q813 : (Cond.code yX3_endHold cX3_endHold 2 (some .int)) ∈ WW := WW_mem 813 (by decide +kernel) rfl
theorem q814 : (Cond.methodLink RX3 367 yX0_close) ∈ WW := WW_mem 814 (by decide +kernel) rfl
theorem q815 : (Cond.instanceMethod yX0_close) ∈ WW := WW_mem 815 (by decide +kernel) rfl
theorem q816 : (Cond.selects RX0 yX0_close yX0_close) ∈ WW := WW_mem 816 (by decide +kernel) rfl
theorem q817 : (Cond.code yX0_close cX0_close 2 none) ∈ WW := WW_mem 817 (by decide +kernel) rfl
theorem q818 : (Cond.methodLink RX3 370 yX0_fileOf) ∈ WW := WW_mem 818 (by decide +kernel) rfl
theorem q819 : (Cond.instanceMethod yX0_fileOf) ∈ WW := WW_mem 819 (by decide +kernel) rfl
theorem q820 : (Cond.selects RX0 yX0_fileOf yX0_fileOf) ∈ WW := WW_mem 820 (by decide +kernel) rfl
theorem q821 : (Cond.code yX0_fileOf cX0_fileOf 2 (some .int)) ∈ WW := WW_mem 821 (by decide +kernel) rfl
theorem q822 : (Cond.methodLink RL 91 yX3_isOpen) ∈ WW := WW_mem 822 (by decide +kernel) rfl
theorem q823 : (Cond.instanceMethod yX3_isOpen) ∈ WW := WW_mem 823 (by decide +kernel) rfl
theorem q824 : (Cond.selects RX3 yX3_isOpen yX3_isOpen) ∈ WW := WW_mem 824 (by decide +kernel) rfl
theorem q825 : (Cond.code yX3_isOpen cX3_isOpen 2 (some .boolean)) ∈ WW := WW_mem 825 (by decide +kernel) rfl
theorem q826 : (Cond.methodLink RL 94 yX3_holdsOn) ∈ WW := WW_mem 826 (by decide +kernel) rfl
theorem q827 : (Cond.instanceMethod yX3_holdsOn) ∈ WW := WW_mem 827 (by decide +kernel) rfl
theorem q828 : (Cond.selects RX3 yX3_holdsOn yX3_holdsOn) ∈ WW := WW_mem 828 (by decide +kernel) rfl
theorem q829 : (Cond.code yX3_holdsOn cX3_holdsOn 2 (some .int)) ∈ WW := WW_mem 829 (by decide +kernel) rfl
theorem q838 : (Cond.methodLink RX0 33 yX0_endOf) ∈ WW := WW_mem 838 (by decide +kernel) rfl
theorem q839 : (Cond.instanceMethod yX0_endOf) ∈ WW := WW_mem 839 (by decide +kernel) rfl
theorem q840 : (Cond.selects RX0 yX0_endOf yX0_endOf) ∈ WW := WW_mem 840 (by decide +kernel) rfl
theorem q841 : (Cond.code yX0_endOf cX0_endOf 2 (some .int)) ∈ WW := WW_mem 841 (by decide +kernel) rfl
theorem q843 : (Cond.methodLink RL 100 yX3_pass) ∈ WW := WW_mem 843 (by decide +kernel) rfl
theorem q844 : (Cond.instanceMethod yX3_pass) ∈ WW := WW_mem 844 (by decide +kernel) rfl
theorem q845 : (Cond.selects RX3 yX3_pass yX3_pass) ∈ WW := WW_mem 845 (by decide +kernel) rfl
theorem q846 : (Cond.code yX3_pass cX3_pass 4 (some .int)) ∈ WW := WW_mem 846 (by decide +kernel) rfl
theorem q848 : (Cond.methodLink RX3 267 yX0_endOf) ∈ WW := WW_mem 848 (by decide +kernel) rfl
theorem q849 : (Cond.methodLink RL 103 yX3_begin) ∈ WW := WW_mem 849 (by decide +kernel) rfl
theorem q850 : (Cond.instanceMethod yX3_begin) ∈ WW := WW_mem 850 (by decide +kernel) rfl
theorem q851 : (Cond.selects RX3 yX3_begin yX3_begin) ∈ WW := WW_mem 851 (by decide +kernel) rfl
theorem q852 : (Cond.code yX3_begin cX3_begin 1 (some .int)) ∈ WW := WW_mem 852 (by decide +kernel) rfl
theorem q853 : (Cond.methodLink RL 106 yX3_commit) ∈ WW := WW_mem 853 (by decide +kernel) rfl
theorem q854 : (Cond.instanceMethod yX3_commit) ∈ WW := WW_mem 854 (by decide +kernel) rfl
theorem q855 : (Cond.selects RX3 yX3_commit yX3_commit) ∈ WW := WW_mem 855 (by decide +kernel) rfl
theorem q856 : (Cond.code yX3_commit cX3_commit 1 (some .int)) ∈ WW := WW_mem 856 (by decide +kernel) rfl
theorem q1081 : (Cond.lays RJ0 "java/lang/String" "hash" "I") ∈ WW := WW_mem 1081 (by decide +kernel) rfl
theorem q1083 : (Cond.lays RJ0 "java/lang/String" "hashIsZero" "Z") ∈ WW := WW_mem 1083 (by decide +kernel) rfl
theorem q1159 : (Cond.methodLink RL 166 yL_state) ∈ WW := WW_mem 1159 (by decide +kernel) rfl
theorem q1160 : (Cond.static yL_state) ∈ WW := WW_mem 1160 (by decide +kernel) rfl
theorem q1161 : (Cond.code yL_state cL_state 8 (some .long)) ∈ WW := WW_mem 1161 (by decide +kernel) rfl
theorem q1162 : (Cond.constantLong RL 132 97) ∈ WW := WW_mem 1162 (by decide +kernel) rfl
theorem q1163 : (Cond.constantLong RL 137 31) ∈ WW := WW_mem 1163 (by decide +kernel) rfl
theorem q1164 : (Cond.methodLink RL 148 yX3_free) ∈ WW := WW_mem 1164 (by decide +kernel) rfl
theorem q1165 : (Cond.instanceMethod yX3_free) ∈ WW := WW_mem 1165 (by decide +kernel) rfl
theorem q1166 : (Cond.selects RX3 yX3_free yX3_free) ∈ WW := WW_mem 1166 (by decide +kernel) rfl
theorem q1167 : (Cond.code yX3_free cX3_free 1 (some .int)) ∈ WW := WW_mem 1167 (by decide +kernel) rfl
theorem q1168 : (Cond.methodLink RL 151 yX3_day) ∈ WW := WW_mem 1168 (by decide +kernel) rfl
theorem q1169 : (Cond.instanceMethod yX3_day) ∈ WW := WW_mem 1169 (by decide +kernel) rfl
theorem q1170 : (Cond.selects RX3 yX3_day yX3_day) ∈ WW := WW_mem 1170 (by decide +kernel) rfl
theorem q1171 : (Cond.code yX3_day cX3_day 1 (some .int)) ∈ WW := WW_mem 1171 (by decide +kernel) rfl
theorem q1172 : (Cond.methodLink RL 170 yL_sound) ∈ WW := WW_mem 1172 (by decide +kernel) rfl
theorem q1173 : (Cond.static yL_sound) ∈ WW := WW_mem 1173 (by decide +kernel) rfl
theorem q1174 : (Cond.code yL_sound cL_sound 11 (some .boolean)) ∈ WW := WW_mem 1174 (by decide +kernel) rfl
theorem q1175 : (Cond.methodLink RL 154 yX3_isConsistent) ∈ WW := WW_mem 1175 (by decide +kernel) rfl
theorem q1176 : (Cond.instanceMethod yX3_isConsistent) ∈ WW := WW_mem 1176 (by decide +kernel) rfl
theorem q1177 : (Cond.selects RX3 yX3_isConsistent yX3_isConsistent) ∈ WW := WW_mem 1177 (by decide +kernel) rfl
theorem q1178 : (Cond.code yX3_isConsistent cX3_isConsistent 1 (some .boolean)) ∈ WW := WW_mem 1178 (by decide +kernel) rfl
theorem q1179 : (Cond.methodLink RX3 291 yX3_areUsersAsWalked) ∈ WW := WW_mem 1179 (by decide +kernel) rfl
theorem q1181 : (Cond.instanceMethod yX3_areUsersAsWalked) ∈ WW := WW_mem 1181 (by decide +kernel) rfl
theorem q1182 : (Cond.code yX3_areUsersAsWalked cX3_areUsersAsWalked 2 (some .boolean)) ∈ WW := WW_mem 1182 (by decide +kernel) rfl
theorem q1183 : (Cond.methodLink RX3 295 yX3_areHeldFilesAlive) ∈ WW := WW_mem 1183 (by decide +kernel) rfl
theorem q1185 : (Cond.instanceMethod yX3_areHeldFilesAlive) ∈ WW := WW_mem 1185 (by decide +kernel) rfl
theorem q1186 : (Cond.code yX3_areHeldFilesAlive cX3_areHeldFilesAlive 2 (some .boolean)) ∈ WW := WW_mem 1186 (by decide +kernel) rfl
theorem n347 : (Cond.castable "java/lang/IllegalArgumentException" "java/lang/IllegalArgumentException") ∈ NWL := NWL_mem 347 (by decide +kernel) rfl
theorem n367 : (Cond.castable "java/lang/IllegalStateException" "java/lang/IllegalStateException") ∈ NWL := NWL_mem 367 (by decide +kernel) rfl
theorem n392 : (Cond.castable "java/lang/IndexOutOfBoundsException" "java/lang/IndexOutOfBoundsException") ∈ NWL := NWL_mem 392 (by decide +kernel) rfl
theorem n484 : (Cond.methodLinkNest RX2 61 yX3_isPlace RX3) ∈ NWL := NWL_mem 484 (by decide +kernel) rfl
theorem n491 : (Cond.methodLinkNest RX2 86 yX3_isBlock RX3) ∈ NWL := NWL_mem 491 (by decide +kernel) rfl
theorem n547 : (Cond.castable "java/lang/UnsupportedOperationException" "java/lang/UnsupportedOperationException") ∈ NWL := NWL_mem 547 (by decide +kernel) rfl
theorem n606 : (Cond.castable "java/util/NoSuchElementException" "java/util/NoSuchElementException") ∈ NWL := NWL_mem 606 (by decide +kernel) rfl
theorem n659 : (Cond.methodLinkNest RX2 83 yX3_countUser RX3) ∈ NWL := NWL_mem 659 (by decide +kernel) rfl
theorem n673 : (Cond.methodLinkNest RX1 88 yX3_countUser RX3) ∈ NWL := NWL_mem 673 (by decide +kernel) rfl
theorem n754 : (Cond.methodLinkNest RX1 82 yX3_isPlace RX3) ∈ NWL := NWL_mem 754 (by decide +kernel) rfl
theorem inX0 : ∀ w ∈ u_ws RX0 TX0 4, w ∈ WW := by
  have h : u_ws RX0 TX0 4 = [Cond.lays RX0 "InodeCouncil$Holds" "opened" "I", Cond.laysFinal RX0 "InodeCouncil$Holds" "files" "[I", Cond.laysFinal RX0 "InodeCouncil$Holds" "ends" "[I", Cond.laysFinal RX0 "InodeCouncil$Holds" "open" "[Z"] := rfl
  rw [h]
  exact List.forall_mem_cons.mpr ⟨q140, List.forall_mem_cons.mpr ⟨q142, List.forall_mem_cons.mpr ⟨q144, List.forall_mem_cons.mpr ⟨q146, fun _ h => absurd h List.not_mem_nil⟩⟩⟩⟩
theorem inX1 : ∀ w ∈ u_ws RX1 TX1 7, w ∈ WW := by
  have h : u_ws RX1 TX1 7 = [Cond.lays RX1 "InodeCouncil$Snapshots" "taken" "I", Cond.lays RX1 "InodeCouncil$Snapshots" "kept" "I", Cond.laysFinal RX1 "InodeCouncil$Snapshots" "ranks" "[I", Cond.laysFinal RX1 "InodeCouncil$Snapshots" "rows" "[I", Cond.laysFinal RX1 "InodeCouncil$Snapshots" "rowInUse" "[Z", Cond.laysFinal RX1 "InodeCouncil$Snapshots" "fileInRow" "[Z", Cond.laysFinal RX1 "InodeCouncil$Snapshots" "cells" "[[I"] := rfl
  rw [h]
  exact List.forall_mem_cons.mpr ⟨q114, List.forall_mem_cons.mpr ⟨q116, List.forall_mem_cons.mpr ⟨q118, List.forall_mem_cons.mpr ⟨q120, List.forall_mem_cons.mpr ⟨q122, List.forall_mem_cons.mpr ⟨q124, List.forall_mem_cons.mpr ⟨q126, fun _ h => absurd h List.not_mem_nil⟩⟩⟩⟩⟩⟩⟩
theorem inX2 : ∀ w ∈ u_ws RX2 TX2 9, w ∈ WW := by
  have h : u_ws RX2 TX2 9 = [Cond.lays RX2 "InodeCouncil$State" "files" "I", Cond.laysFinal RX2 "InodeCouncil$State" "ownerOfFile" "[I", Cond.laysFinal RX2 "InodeCouncil$State" "links" "[I", Cond.laysFinal RX2 "InodeCouncil$State" "alive" "[Z", Cond.laysFinal RX2 "InodeCouncil$State" "cells" "[I", Cond.laysFinal RX2 "InodeCouncil$State" "values" "[I", Cond.laysFinal RX2 "InodeCouncil$State" "users" "[I", Cond.laysFinal RX2 "InodeCouncil$State" "promised" "[I", Cond.lays RX2 "InodeCouncil$State" "entries" "I"] := rfl
  rw [h]
  exact List.forall_mem_cons.mpr ⟨q77, List.forall_mem_cons.mpr ⟨q79, List.forall_mem_cons.mpr ⟨q81, List.forall_mem_cons.mpr ⟨q83, List.forall_mem_cons.mpr ⟨q85, List.forall_mem_cons.mpr ⟨q87, List.forall_mem_cons.mpr ⟨q89, List.forall_mem_cons.mpr ⟨q91, List.forall_mem_cons.mpr ⟨q93, fun _ h => absurd h List.not_mem_nil⟩⟩⟩⟩⟩⟩⟩⟩⟩
theorem inX3 : ∀ w ∈ u_ws RX3 TX3 11, w ∈ WW := by
  have h : u_ws RX3 TX3 11 = [Cond.laysFinal RX3 "InodeCouncil" "now" "LInodeCouncil$State;", Cond.laysFinal RX3 "InodeCouncil" "atBegin" "LInodeCouncil$State;", Cond.lays RX3 "InodeCouncil" "inTransaction" "Z", Cond.laysFinal RX3 "InodeCouncil" "kinds" "[C", Cond.lays RX3 "InodeCouncil" "owners" "I", Cond.laysFinal RX3 "InodeCouncil" "quotas" "[I", Cond.laysFinal RX3 "InodeCouncil" "snapshots" "LInodeCouncil$Snapshots;", Cond.laysFinal RX3 "InodeCouncil" "holds" "LInodeCouncil$Holds;", Cond.lays RX3 "InodeCouncil" "today" "I", Cond.laysFinal RX3 "InodeCouncil" "line" "Ljava/lang/StringBuilder;", Cond.laysFinal RX3 "InodeCouncil" "walked" "[I"] := rfl
  rw [h]
  exact List.forall_mem_cons.mpr ⟨q193, List.forall_mem_cons.mpr ⟨q195, List.forall_mem_cons.mpr ⟨q197, List.forall_mem_cons.mpr ⟨q199, List.forall_mem_cons.mpr ⟨q201, List.forall_mem_cons.mpr ⟨q203, List.forall_mem_cons.mpr ⟨q205, List.forall_mem_cons.mpr ⟨q207, List.forall_mem_cons.mpr ⟨q209, List.forall_mem_cons.mpr ⟨q211, List.forall_mem_cons.mpr ⟨q213, fun _ h => absurd h List.not_mem_nil⟩⟩⟩⟩⟩⟩⟩⟩⟩⟩⟩
theorem inJ0 : ∀ w ∈ u_ws RJ0 TJ0 4, w ∈ WW := by
  have h : u_ws RJ0 TJ0 4 = [Cond.laysFinal RJ0 "java/lang/String" "value" "[B", Cond.laysFinal RJ0 "java/lang/String" "coder" "B", Cond.lays RJ0 "java/lang/String" "hash" "I", Cond.lays RJ0 "java/lang/String" "hashIsZero" "Z"] := rfl
  rw [h]
  exact List.forall_mem_cons.mpr ⟨q329, List.forall_mem_cons.mpr ⟨q331, List.forall_mem_cons.mpr ⟨q1081, List.forall_mem_cons.mpr ⟨q1083, fun _ h => absurd h List.not_mem_nil⟩⟩⟩⟩
theorem inJ4 : ∀ w ∈ u_ws RJ4 TJ4 4, w ∈ WW := by
  have h : u_ws RJ4 TJ4 4 = [Cond.lays RJ4 "java/lang/AbstractStringBuilder" "value" "[B", Cond.lays RJ4 "java/lang/AbstractStringBuilder" "coder" "B", Cond.lays RJ4 "java/lang/AbstractStringBuilder" "maybeLatin1" "Z", Cond.lays RJ4 "java/lang/AbstractStringBuilder" "count" "I"] := rfl
  rw [h]
  exact List.forall_mem_cons.mpr ⟨q172, List.forall_mem_cons.mpr ⟨q174, List.forall_mem_cons.mpr ⟨q176, List.forall_mem_cons.mpr ⟨q178, fun _ h => absurd h List.not_mem_nil⟩⟩⟩⟩
end
section
/-! the world: the class's object with all that it holds (printed by program) -/
abbrev WC (ca : Nat → ClassId) (ad : Nat → Nat) (bq : Nat) (nF : Int32) (nO : Nat → Int32) (nL : Nat → Int32) (nA : Nat → Int32) (nC : Nat → Int32) (nV : Nat → Int32) (nU : Nat → Int32) (nP : Nat → Int32) (nE : Int32) (bF : Int32) (bO : Nat → Int32) (bL : Nat → Int32) (bA : Nat → Int32) (bC : Nat → Int32) (bV : Nat → Int32) (bU : Nat → Int32) (bP : Nat → Int32) (bE : Int32) (cT : Int32) (cK : Nat → Int32) (cO : Int32) (cQ : Nat → Int32) (cD : Int32) (pT : Int32) (pK : Int32) (pR : Nat → Int32) (pW : Nat → Int32) (pU : Nat → Int32) (pI : Nat → Int32) (pC : Nat → Nat → Int32) (uO : Int32) (uF : Nat → Int32) (uE : Nat → Int32) (uN : Nat → Int32) (wK : Nat → Int32) (jM : Int32) (jN : Int32) (jZ : Nat) (jB : Nat → Int32) : va_W :=
  [((ad 0), .inr (7, [.ref (ad 1), .ref (ad 2), .int cT, .ref (ad 3), .int cO, .ref (ad 4), .ref (ad 5), .ref (ad 6), .int cD, .ref (ad 7), .ref (ad 8)])),
   ((ad 1), .inr (6, [.int nF, .ref (ad 9), .ref (ad 10), .ref (ad 11), .ref (ad 12), .ref (ad 13), .ref (ad 14), .ref (ad 15), .int nE])),
   ((ad 9), .inl (ca 0, 40, .inl nO)),
   ((ad 10), .inl (ca 0, 40, .inl nL)),
   ((ad 11), .inl (ca 1, 40, .inl nA)),
   ((ad 12), .inl (ca 0, 640, .inl nC)),
   ((ad 13), .inl (ca 0, 64, .inl nV)),
   ((ad 14), .inl (ca 0, 64, .inl nU)),
   ((ad 15), .inl (ca 0, 4, .inl nP)),
   ((ad 2), .inr (6, [.int bF, .ref (ad 16), .ref (ad 17), .ref (ad 18), .ref (ad 19), .ref (ad 20), .ref (ad 21), .ref (ad 22), .int bE])),
   ((ad 16), .inl (ca 0, 40, .inl bO)),
   ((ad 17), .inl (ca 0, 40, .inl bL)),
   ((ad 18), .inl (ca 1, 40, .inl bA)),
   ((ad 19), .inl (ca 0, 640, .inl bC)),
   ((ad 20), .inl (ca 0, 64, .inl bV)),
   ((ad 21), .inl (ca 0, 64, .inl bU)),
   ((ad 22), .inl (ca 0, 4, .inl bP)),
   ((ad 3), .inl (ca 2, 512, .inl cK)),
   ((ad 4), .inl (ca 0, 4, .inl cQ)),
   ((ad 5), .inr (5, [.int pT, .int pK, .ref (ad 23), .ref (ad 24), .ref (ad 25), .ref (ad 26), .ref (ad 27)])),
   ((ad 23), .inl (ca 0, 30, .inl pR)),
   ((ad 24), .inl (ca 0, 30, .inl pW)),
   ((ad 25), .inl (ca 1, 8, .inl pU)),
   ((ad 26), .inl (ca 1, 320, .inl pI)),
   ((ad 27), .inl (ca 4, 8, .inr (.inr (.inr (.inr (fun i => some (ad (31 + i)))))))),
   ((ad 31), .inl (ca 0, 640, .inl (pC 0))),
   ((ad 32), .inl (ca 0, 640, .inl (pC 1))),
   ((ad 33), .inl (ca 0, 640, .inl (pC 2))),
   ((ad 34), .inl (ca 0, 640, .inl (pC 3))),
   ((ad 35), .inl (ca 0, 640, .inl (pC 4))),
   ((ad 36), .inl (ca 0, 640, .inl (pC 5))),
   ((ad 37), .inl (ca 0, 640, .inl (pC 6))),
   ((ad 38), .inl (ca 0, 640, .inl (pC 7))),
   ((ad 6), .inr (4, [.int uO, .ref (ad 28), .ref (ad 29), .ref (ad 30)])),
   ((ad 28), .inl (ca 0, 30, .inl uF)),
   ((ad 29), .inl (ca 0, 30, .inl uE)),
   ((ad 30), .inl (ca 1, 30, .inl uN)),
   ((ad 7), .inr (1, [.ref bq, .int 0, .int jM, .int jN])),
   (bq, .inl (ca 3, jZ, .inl jB)),
   ((ad 8), .inl (ca 0, 64, .inl wK))]
theorem WC_row {ca : Nat → ClassId} {ad : Nat → Nat} {bq : Nat} {nF : Int32} {nO : Nat → Int32} {nL : Nat → Int32} {nA : Nat → Int32} {nC : Nat → Int32} {nV : Nat → Int32} {nU : Nat → Int32} {nP : Nat → Int32} {nE : Int32} {bF : Int32} {bO : Nat → Int32} {bL : Nat → Int32} {bA : Nat → Int32} {bC : Nat → Int32} {bV : Nat → Int32} {bU : Nat → Int32} {bP : Nat → Int32} {bE : Int32} {cT : Int32} {cK : Nat → Int32} {cO : Int32} {cQ : Nat → Int32} {cD : Int32} {pT : Int32} {pK : Int32} {pR : Nat → Int32} {pW : Nat → Int32} {pU : Nat → Int32} {pI : Nat → Int32} {pC : Nat → Nat → Int32} {uO : Int32} {uF : Nat → Int32} {uE : Nat → Int32} {uN : Nat → Int32} {wK : Nat → Int32} {jM : Int32} {jN : Int32} {jZ : Nat} {jB : Nat → Int32} {R : va_W} {k : Nat} (hk : k < 8) : (WC ca ad bq nF nO nL nA nC nV nU nP nE bF bO bL bA bC bV bU bP bE cT cK cO cQ cD pT pK pR pW pU pI pC uO uF uE uN wK jM jN jZ jB ++ R)[25 + k]? = some (ad (31 + k), .inl (ca 0, 640, .inl (pC k))) := by
  match k, hk with
  | 0, _ => rfl
  | 1, _ => rfl
  | 2, _ => rfl
  | 3, _ => rfl
  | 4, _ => rfl
  | 5, _ => rfl
  | 6, _ => rfl
  | 7, _ => rfl
theorem WC_setrow {ca : Nat → ClassId} {ad : Nat → Nat} {bq : Nat} {nF : Int32} {nO : Nat → Int32} {nL : Nat → Int32} {nA : Nat → Int32} {nC : Nat → Int32} {nV : Nat → Int32} {nU : Nat → Int32} {nP : Nat → Int32} {nE : Int32} {bF : Int32} {bO : Nat → Int32} {bL : Nat → Int32} {bA : Nat → Int32} {bC : Nat → Int32} {bV : Nat → Int32} {bU : Nat → Int32} {bP : Nat → Int32} {bE : Int32} {cT : Int32} {cK : Nat → Int32} {cO : Int32} {cQ : Nat → Int32} {cD : Int32} {pT : Int32} {pK : Int32} {pR : Nat → Int32} {pW : Nat → Int32} {pU : Nat → Int32} {pI : Nat → Int32} {pC : Nat → Nat → Int32} {uO : Int32} {uF : Nat → Int32} {uE : Nat → Int32} {uN : Nat → Int32} {wK : Nat → Int32} {jM : Int32} {jN : Int32} {jZ : Nat} {jB : Nat → Int32} {R : va_W} {k i : Nat} {x : Int32} (hk : k < 8) : (WC ca ad bq nF nO nL nA nC nV nU nP nE bF bO bL bA bC bV bU bP bE cT cK cO cQ cD pT pK pR pW pU pI pC uO uF uE uN wK jM jN jZ jB ++ R).set (25 + k) (ad (31 + k), .inl (ca 0, 640, .inl (upd (pC k) i x))) = (WC ca ad bq nF nO nL nA nC nV nU nP nE bF bO bL bA bC bV bU bP bE cT cK cO cQ cD pT pK pR pW pU pI (updG pC k i x) uO uF uE uN wK jM jN jZ jB ++ R) := by
  match k, hk with
  | 0, _ => rfl
  | 1, _ => rfl
  | 2, _ => rfl
  | 3, _ => rfl
  | 4, _ => rfl
  | 5, _ => rfl
  | 6, _ => rfl
  | 7, _ => rfl
end
section
/-! METHODS THAT THROW: their contracts' forms, their calls, their ends -/
theorem WW_of {w : Cond} (h : w ∈ lw_tbl) (g : goodWord w = true) : w ∈ WW := List.mem_append_left _ (List.mem_filter.mpr ⟨h, g⟩)
def XN : Nat → String
  | 1 => "java/lang/IllegalArgumentException"
  | 2 => "java/lang/IllegalStateException"
  | 3 => "java/lang/IndexOutOfBoundsException"
  | 4 => "java/lang/UnsupportedOperationException"
  | 5 => "java/util/NoSuchElementException"
  | _ => "java/lang/ArithmeticException"
abbrev XL : List String := ["java/lang/RuntimeException", "java/lang/Exception"]
/-- the tables of digits -/
def dg1 (j : Nat) : Value := .int (nI (48 + j % 10))
def dg2 (j : Nat) : Value := .int (nI (48 + j / 10))
def TT (A : Nat → Prop) (U : State) (H : Heap) : Prop := ∃ t1 t2 : Nat, va_Z "java/lang/Integer" "DigitOnes" "[B" (.ref t1) A U H ∧ va_T .byte t1 100 dg1 A U H ∧ va_Z "java/lang/Integer" "DigitTens" "[B" (.ref t2) A U H ∧ va_T .byte t2 100 dg2 A U H
theorem TT.go {A A1 : Nat → Prop} {s U : State} {H0 H : Heap} (h : TT A s H0) (hq : ∀ a : Nat, a < H0.size → ¬ A a → H[a]? = H0[a]?) (hal : s.vm.Alike U.vm) (hAB : ∀ q, A1 q → A q) : TT A1 U H := by
  obtain ⟨t1, t2, h1, h2, h3, h4⟩ := h
  exact ⟨t1, t2, (va_Z.moved hal (h1.kept hq)).narrow hAB, (va_T.moved hal (h2.kept hq)).narrow hAB, (va_Z.moved hal (h3.kept hq)).narrow hAB, (va_T.moved hal (h4.kept hq)).narrow hAB⟩
abbrev FMT : String := "Ljava/util/function/BiFunction;"
def ZZ (A : Nat → Prop) (U : State) (H : Heap) : Prop := vx_Zq Bundle.tN "UNASSIGNED_STACK" Bundle.steD A U H ∧ vx_Zq Bundle.tN "SUPPRESSED_SENTINEL" Bundle.listD A U H ∧ va_Z "java/lang/String" "COMPACT_STRINGS" "Z" (.int 1) A U H ∧ va_Zq "jdk/internal/util/Preconditions" "SIOOBE_FORMATTER" FMT A U H ∧ TT A U H
theorem ZZ.go {A A1 : Nat → Prop} {s U : State} {H0 H : Heap} {locs : List Loc} (h : ZZ A s H0) (hS : va_S A H0 H locs) (hal : s.vm.Alike U.vm) (hu : U.heap = H) (hAB : ∀ q, A1 q → A q) : ZZ A1 U U.heap := by
  rw [hu]
  exact ⟨((vx_Zq.moved hal (h.1.kept hS.2.1)).narrow hAB), ((vx_Zq.moved hal (h.2.1.kept hS.2.1)).narrow hAB), ((va_Z.moved hal (h.2.2.1.kept hS.2.1)).narrow hAB), ((va_Zq.moved hal (h.2.2.2.1.kept hS.2.1)).narrow hAB), h.2.2.2.2.go hS.2.1 hal hAB⟩
theorem ZZ.same {A : Nat → Prop} {U : State} {g : JFrame} {mk : MethodId} {a : Array Value} (h : ZZ A U U.heap) : ZZ A (U.calling g mk a) (U.calling g mk a).heap :=
  ⟨vx_Zq.moved (u := U) (U := U.calling g mk a) (Vm.Alike.refl U.vm) h.1, vx_Zq.moved (u := U) (U := U.calling g mk a) (Vm.Alike.refl U.vm) h.2.1, va_Z.moved (u := U) (U := U.calling g mk a) (Vm.Alike.refl U.vm) h.2.2.1, va_Zq.moved (u := U) (U := U.calling g mk a) (Vm.Alike.refl U.vm) h.2.2.2.1, TT.go (U := U.calling g mk a) h.2.2.2.2 (fun _ _ _ => rfl) (Vm.Alike.refl U.vm) (fun _ z => z)⟩
def PREX (av : List Value) (D : va_G) (ca : Nat → ClassId) (sl : List (String × Nat × String)) (w : va_W) (sz : Nat) : Array Value → State → Prop :=
  va_Pc av (fun U => U.heap.size = sz ∧ va_P D vwCl w U.heap ∧ EE D ca sl U ∧ va_D (fun _ => True) w ∧ ZZ (va_A w sz) U U.heap)
theorem PREX_blind {av : List Value} {D : va_G} {ca : Nat → ClassId} {sl : List (String × Nat × String)} {w : va_W} {sz : Nat} : FrameBlind (PREX av D ca sl w sz) := fun a U g mk q => by
  obtain ⟨q0, q1, qP, qE, qD, qZ⟩ := q
  exact ⟨q0, q1, qP, EE.same (u := U) rfl qE, qD, ZZ.same qZ⟩
def QXI (o : Except Nat Int32) (D : va_G) (w' w : va_W) (sz : Nat) : Array Value → State → Outcome → State → Prop := va_Qi (fun (r' : Int32) (_ : Unit) => o = .ok r') (fun _ t => BW D w' w sz t) (va_A w sz)
def QXD (o : Except Nat UInt64) (D : va_G) (w' w : va_W) (sz : Nat) : Array Value → State → Outcome → State → Prop := va_Qd (fun (r' : UInt64) (_ : Unit) => o = .ok r') (fun _ t => BW D w' w sz t) (va_A w sz)
def QXF (o : Except Nat UInt32) (D : va_G) (w' w : va_W) (sz : Nat) : Array Value → State → Outcome → State → Prop := va_Qf (fun (r' : UInt32) (_ : Unit) => o = .ok r') (fun _ t => BW D w' w sz t) (va_A w sz)
def QXV (o : Except Nat Unit) (D : va_G) (w' w : va_W) (sz : Nat) : Array Value → State → Outcome → State → Prop := va_Qv (fun (_ : Unit) => o = .ok ()) (fun _ t => BW D w' w sz t) (va_A w sz)
def QXE {α : Type} (o : Except Nat α) (D : va_G) (w' w : va_W) (sz : Nat) : String → State → State → Prop := vx_X (fun k : Nat => o = .error k) (fun E k t => E = XN k ∧ BW D w' w sz t) (va_A w sz)
theorem at_all {L : List Cond} (h : L.all (fun w => decide (w ∈ lw_tbl) && (goodWord w || (nwW w && w.onTables))) = true) {args : Array Value} {s : State} (hts : ∀ w ∈ WW, w.before args s = true) (hN : ∀ w ∈ NWL, va_Nw w s) : ∀ w ∈ L, w.before args s = true := by
  intro w hw
  have h1 := List.all_eq_true.mp h w hw
  simp only [Bool.and_eq_true, decide_eq_true_eq, Bool.or_eq_true] at h1
  rcases h1.2 with g | g
  · exact hts w (WW_of h1.1 g)
  · have h2 := hN w (List.mem_filter.mpr ⟨h1.1, g.1⟩)
    exact va_Nw.use g.2 h2
theorem at_ot {L : List Cond} (h : L.all (fun w => decide (w ∈ lw_tbl) && (goodWord w || (nwW w && w.onTables))) = true) : ∀ w ∈ L, vx_ot w = true := by
  intro w hw
  have h1 := List.all_eq_true.mp h w hw
  simp only [Bool.and_eq_true, decide_eq_true_eq, Bool.or_eq_true] at h1
  unfold vx_ot
  rcases h1.2 with g | g
  · rw [g, Bool.or_true]
  · rw [g.2, Bool.true_or]
section XCALLS
variable {p : Program} {l : Launch} {e : Env} {Rm : Room} {s : State} {m : MethodId} {args : Array Value} {below : List Frame} {meth : Method} {c : Code} {H : Heap} {locs : List Loc} {cells slots : Nat} {Q : State → Prop}
variable {y : MethodName} {bytes cc : ByteArray} {maxL nL mc ms MC MS n index : Nat} {ret : Option FieldType} {rm : Room} {own C host : String} {b : Nat} {As rest st : List Value} {pc : Nat} {ls : Array Slot}
variable {D : va_G} {ca : Nat → ClassId} {sl : List (String × Nat × String)} {w w' : va_W} {A0 : Nat → Prop} {k : Nat}
theorem prex_ok {av : List Value} (hE : EE D ca sl s) (hP : va_P D vwCl w H) (hD : va_D A0 w) (hS : va_S A0 s.heap H locs) (hA : ∀ q, s.heap.size ≤ q → A0 q) (hZ : ZZ A0 s s.heap) : ∀ U : State, U.heap = H → s.WarmedH U.vm → PREX av D ca sl w H.size av.toArray U := fun U hU hW =>
  ⟨rfl, by rw [hU], by rw [hU]; exact hP, hE.warm hW, hD.weaken (fun _ _ _ _ => trivial), hZ.go hS hW.alike hU (vaA_sub hD hS hA)⟩
/-- thrown over this frame, no handler: it leaves -/
theorem x_leave {α : Type} {w0 : va_W} {A : Nat → Prop} {Qc : Array Value → State → Outcome → State → Prop} {q9 : Addr} {ce : Cell} (hAe : va_A w0 s.heap.size = A) (hQm : vx_MQ below Qc (QXE (.error k : Except Nat α) D w' w0 s.heap.size) args s MC MS A = Q) (htab : ∀ x ∈ c.exceptionTable.toList, False) (hlocks : meth.locks = false)
    (hP : va_P D vwCl w' H) (hD : va_D A w') (hS : va_S A s.heap H locs) (hce : H[q9]? = some ce) (hv : ce.vm = .none) (hcl : s.vm.findClass (XN k) = some ce.cls) (hc : cells ≤ MC) (hs : slots ≤ MS) :
    vx_W p l e Rm s m args below meth c H locs cells slots Q (F0 m pc ls rest) q9 := by
  subst hQm
  subst hAe
  exact vx_out (E := XN k) (fun x hx => (htab x hx).elim) hlocks hce hv hcl (fun t ht hal => ⟨k, rfl, ⟨rfl, by rw [ht]; exact hP, hD⟩, hS.F ht⟩) hS.2.2 hc hs
theorem cx_vi_ok {r : Int32} (hM : vx_Met l y (wm y bytes maxL ret) rm (PREX (.ref b :: As) D ca sl w H.size) (QXI (.ok r) D w' w H.size) (QXE (.ok r : Except Nat Int32) D w' w H.size) mc ms (va_A w H.size)) (S : CallFix p m c cc nL s args WW own) (cw : CallW Rm s args own C index y bytes maxL ret (wm y bytes maxL ret) rm mc ms n)
    (hrecv : ∃ cellB : Cell, H[b]? = some cellB ∧ cellB.vm.isStatics = false ∧ s.vm.findClass C = some cellB.cls) (hE : EE D ca sl s) (hP : va_P D vwCl w H) (hD : va_D A0 w) (hS : va_S A0 s.heap H locs) (hA : ∀ q, s.heap.size ≤ q → A0 q) (hZ : ZZ A0 s s.heap)
    (hn : As.length = n) (hsize : ls.size = nL) (hst : st = As.reverse ++ .ref b :: rest) (hW : 2 * (F0 m pc ls st).monitorRoom + (rest.map fun v => v.category).sum ≤ 8) (hdg : decode cc pc = .ok (.invokevirtual index, 3)) (hf : cells + mc ≤ Rm.cells ∧ slots + ms ≤ Rm.slots)
    (kk : ∀ (H1 : Heap) (locs1 : List Loc), va_P D vwCl w' H1 → va_D A0 w' → va_S A0 s.heap H1 locs1 → W p l e Rm s m args below meth c H1 locs1 (cells + mc) (slots + ms) Q (F0 m (pc + 3) ls (.int r :: rest))) : W p l e Rm s m args below meth c H locs cells slots Q (F0 m pc ls st) :=
  vx_calli (vx_runV S hM cw ⟨PREX_blind, hrecv, prex_ok hE hP hD hS hA hZ⟩ rfl hn hsize hst hW hdg hf) hS (fun q _ h => vaA_sub hD hS hA q h) (vaA_sub hD hS hA) (fun q _ h => vaA_sub hD hS hA q h)
    (fun E ce q9 u t H1 locs1 ht hvm hw hB hz1 hk1 hS1 hce hv hcl => nomatch hw)
    (fun r' u t H1 locs1 ht hvm hw hB hz1 hk1 hS1 => by
      obtain ⟨hP1, hD1⟩ := bw_ok hD hS hA ht hB
      cases hw
      exact kk H1 locs1 hP1 hD1 hS1)
theorem cx_vv_ok (hM : vx_Met l y (wm y bytes maxL ret) rm (PREX (.ref b :: As) D ca sl w H.size) (QXV (.ok ()) D w' w H.size) (QXE (.ok () : Except Nat Unit) D w' w H.size) mc ms (va_A w H.size)) (S : CallFix p m c cc nL s args WW own) (cw : CallW Rm s args own C index y bytes maxL ret (wm y bytes maxL ret) rm mc ms n)
    (hrecv : ∃ cellB : Cell, H[b]? = some cellB ∧ cellB.vm.isStatics = false ∧ s.vm.findClass C = some cellB.cls) (hE : EE D ca sl s) (hP : va_P D vwCl w H) (hD : va_D A0 w) (hS : va_S A0 s.heap H locs) (hA : ∀ q, s.heap.size ≤ q → A0 q) (hZ : ZZ A0 s s.heap)
    (hn : As.length = n) (hsize : ls.size = nL) (hst : st = As.reverse ++ .ref b :: rest) (hW : 2 * (F0 m pc ls st).monitorRoom + (rest.map fun v => v.category).sum ≤ 8) (hdg : decode cc pc = .ok (.invokevirtual index, 3)) (hf : cells + mc ≤ Rm.cells ∧ slots + ms ≤ Rm.slots)
    (kk : ∀ (H1 : Heap) (locs1 : List Loc), va_P D vwCl w' H1 → va_D A0 w' → va_S A0 s.heap H1 locs1 → W p l e Rm s m args below meth c H1 locs1 (cells + mc) (slots + ms) Q (F0 m (pc + 3) ls rest)) : W p l e Rm s m args below meth c H locs cells slots Q (F0 m pc ls st) :=
  vx_callv (vx_runV S hM cw ⟨PREX_blind, hrecv, prex_ok hE hP hD hS hA hZ⟩ rfl hn hsize hst hW hdg hf) hS (fun q _ h => vaA_sub hD hS hA q h) (vaA_sub hD hS hA) (fun q _ h => vaA_sub hD hS hA q h)
    (fun E ce q9 u t H1 locs1 ht hvm hw hB hz1 hk1 hS1 hce hv hcl => nomatch hw)
    (fun u t H1 locs1 ht hvm hw hB hz1 hk1 hS1 => by
      obtain ⟨hP1, hD1⟩ := bw_ok hD hS hA ht hB
      exact kk H1 locs1 hP1 hD1 hS1)
theorem cx_vi_err {α : Type} {w0 : va_W} {A : Nat → Prop} {Qc : Array Value → State → Outcome → State → Prop} (hM : vx_Met l y (wm y bytes maxL ret) rm (PREX (.ref b :: As) D ca sl w H.size) (QXI (.error k) D w' w H.size) (QXE (.error k : Except Nat Int32) D w' w H.size) mc ms (va_A w H.size)) (S : CallFix p m c cc nL s args WW own) (cw : CallW Rm s args own C index y bytes maxL ret (wm y bytes maxL ret) rm mc ms n)
    (hrecv : ∃ cellB : Cell, H[b]? = some cellB ∧ cellB.vm.isStatics = false ∧ s.vm.findClass C = some cellB.cls) (hE : EE D ca sl s) (hP : va_P D vwCl w H) (hD : va_D A w) (hS : va_S A s.heap H locs) (hA : ∀ q, s.heap.size ≤ q → A q) (hZ : ZZ A s s.heap)
    (hn : As.length = n) (hsize : ls.size = nL) (hst : st = As.reverse ++ .ref b :: rest) (hW : 2 * (F0 m pc ls st).monitorRoom + (rest.map fun v => v.category).sum ≤ 8) (hdg : decode cc pc = .ok (.invokevirtual index, 3)) (hf : cells + mc ≤ Rm.cells ∧ slots + ms ≤ Rm.slots)
    (hAe : va_A w0 s.heap.size = A) (hQm : vx_MQ below Qc (QXE (.error k : Except Nat α) D w' w0 s.heap.size) args s MC MS A = Q) (htab : ∀ x ∈ c.exceptionTable.toList, False) (hlocks : meth.locks = false) (hc : cells + mc ≤ MC) (hs : slots + ms ≤ MS) : W p l e Rm s m args below meth c H locs cells slots Q (F0 m pc ls st) :=
  vx_calli (vx_runV S hM cw ⟨PREX_blind, hrecv, prex_ok hE hP hD hS hA hZ⟩ rfl hn hsize hst hW hdg hf) hS (fun q _ h => vaA_sub hD hS hA q h) (vaA_sub hD hS hA) (fun q _ h => vaA_sub hD hS hA q h)
    (fun E ce q9 u t H1 locs1 ht hvm hw hB hz1 hk1 hS1 hce hv hcl => by
      obtain ⟨hP1, hD1⟩ := bw_ok hD hS hA ht hB.2
      cases hw
      exact x_leave hAe hQm htab hlocks hP1 hD1 hS1 hce hv (by rw [← hB.1]; exact hcl) hc hs)
    (fun r' u t H1 locs1 ht hvm hw hB hz1 hk1 hS1 => nomatch hw)
theorem cx_vv_err {α : Type} {w0 : va_W} {A : Nat → Prop} {Qc : Array Value → State → Outcome → State → Prop} (hM : vx_Met l y (wm y bytes maxL ret) rm (PREX (.ref b :: As) D ca sl w H.size) (QXV (.error k) D w' w H.size) (QXE (.error k : Except Nat Unit) D w' w H.size) mc ms (va_A w H.size)) (S : CallFix p m c cc nL s args WW own) (cw : CallW Rm s args own C index y bytes maxL ret (wm y bytes maxL ret) rm mc ms n)
    (hrecv : ∃ cellB : Cell, H[b]? = some cellB ∧ cellB.vm.isStatics = false ∧ s.vm.findClass C = some cellB.cls) (hE : EE D ca sl s) (hP : va_P D vwCl w H) (hD : va_D A w) (hS : va_S A s.heap H locs) (hA : ∀ q, s.heap.size ≤ q → A q) (hZ : ZZ A s s.heap)
    (hn : As.length = n) (hsize : ls.size = nL) (hst : st = As.reverse ++ .ref b :: rest) (hW : 2 * (F0 m pc ls st).monitorRoom + (rest.map fun v => v.category).sum ≤ 8) (hdg : decode cc pc = .ok (.invokevirtual index, 3)) (hf : cells + mc ≤ Rm.cells ∧ slots + ms ≤ Rm.slots)
    (hAe : va_A w0 s.heap.size = A) (hQm : vx_MQ below Qc (QXE (.error k : Except Nat α) D w' w0 s.heap.size) args s MC MS A = Q) (htab : ∀ x ∈ c.exceptionTable.toList, False) (hlocks : meth.locks = false) (hc : cells + mc ≤ MC) (hs : slots + ms ≤ MS) : W p l e Rm s m args below meth c H locs cells slots Q (F0 m pc ls st) :=
  vx_callv (vx_runV S hM cw ⟨PREX_blind, hrecv, prex_ok hE hP hD hS hA hZ⟩ rfl hn hsize hst hW hdg hf) hS (fun q _ h => vaA_sub hD hS hA q h) (vaA_sub hD hS hA) (fun q _ h => vaA_sub hD hS hA q h)
    (fun E ce q9 u t H1 locs1 ht hvm hw hB hz1 hk1 hS1 hce hv hcl => by
      obtain ⟨hP1, hD1⟩ := bw_ok hD hS hA ht hB.2
      cases hw
      exact x_leave hAe hQm htab hlocks hP1 hD1 hS1 hce hv (by rw [← hB.1]; exact hcl) hc hs)
    (fun u t H1 locs1 ht hvm hw hB hz1 hk1 hS1 => nomatch hw)
theorem x_after {w0 : va_W} {A : Nat → Prop} {t : State} (hP : va_P D vwCl w' H) (hD : va_D (va_A w0 s.heap.size) w') (hS : va_S (va_A w0 s.heap.size) s.heap H locs) (hz : H.size ≤ t.heap.size) (hk : ∀ q : Nat, q < H.size → t.heap[q]? = H[q]?) : BW D w' w0 s.heap.size t ∧ va_F (va_A w0 s.heap.size) s t :=
  ⟨⟨hP.kept (fun k9 x hx => hk x.1 ((hP k9 x hx).lt)), hD⟩, Nat.le_trans hS.1 hz, fun q h1 h2 => (hk q (Nat.lt_of_lt_of_le h1 hS.1)).trans (hS.2.1 q h1 h2)⟩
theorem endx_throw {α : Type} {w0 : va_W} {A : Nat → Prop} {Qc : Array Value → State → Outcome → State → Prop} {text : String} {ik is ic : Nat} {cl9 : String} (k : Nat) (hk9 : XN k = cl9) (hAe : va_A w0 s.heap.size = A) (hQm : vx_MQ below Qc (QXE (.error k : Except Nat α) D w' w0 s.heap.size) args s MC MS A = Q)
    (hst : l.stackTraces = false) (hx : p.tables.exec = Jvm.exec) (hb : c.code = cc) (hts : ∀ w ∈ WW, w.before args s = true) (hE : EE D ca sl s) (hown : s.vm.findClass own = some m.cls) (htab : ∀ x ∈ c.exceptionTable.toList, False) (hlocks : meth.locks = false) (hfit : Bundle.fit cl9 = true)
    (hlk : Cond.classLink own ik cl9 ∈ WW) (hini : Cond.initialized cl9 ∈ WW) (hsl : (own, is, text) ∈ sl) (hat : (vx_atS own ic cl9 XL).all (fun w => decide (w ∈ lw_tbl) && (goodWord w || (nwW w && w.onTables))) = true) (hZ : ZZ A s s.heap) (hsize : ls.size = c.maxLocals)
    (hP : va_P D vwCl w' H) (hD : va_D A w') (hS : va_S A s.heap H locs)
    (d0 : decode cc pc = .ok (.new ik, 3)) (d3 : decode cc (pc + 3) = .ok (.dup, 1)) (d4 : decode cc (pc + 4) = .ok (.ldc is, 2)) (d6 : decode cc (pc + 6) = .ok (.invokespecial ic, 3)) (d9 : decode cc (pc + 9) = .ok (.athrow, 1))
    (hRf : 5 < Rm.frames) (hRl : (rest.map fun v => v.category).sum + 82 ≤ Rm.locals) (hRc : cells + 1 ≤ Rm.cells) (hRs : slots + 6 ≤ Rm.slots) (hc : cells + 1 ≤ MC) (hs : slots + 6 ≤ MS) :
    W p l e Rm s m args below meth c H locs cells slots Q (F0 m pc ls rest) := by
  subst hQm
  subst hAe
  obtain ⟨sa, hsa⟩ := hE.2.2 _ hsl
  exact vx_throwS (names := XL) hx hb hst hown hfit (by decide +kernel) (hts _ hlk) (hts _ hini) hsa (at_all hat hts hE.2.1)
    (List.forall_mem_cons.mpr ⟨by unfold vx_ot; rfl, List.forall_mem_cons.mpr ⟨by unfold vx_ot; rfl, at_ot hat⟩⟩) hZ.1 hZ.2.1 hS hsize d0 d3 d4 d6 d9 (fun x hx => (htab x hx).elim) hRf hRl hRc hRs hlocks
    (fun t hal hz hk => ⟨k, rfl, ⟨hk9.symm, (x_after (A := va_A w0 s.heap.size) hP hD hS hz hk).1⟩, (x_after (A := va_A w0 s.heap.size) hP hD hS hz hk).2⟩) hS.2.2 hc hs
theorem endx_throwW {α : Type} {w0 : va_W} {A : Nat → Prop} {Qc : Array Value → State → Outcome → State → Prop} {text : String} {ik is ic : Nat} {cl9 : String} (k : Nat) (hk9 : XN k = cl9) (hAe : va_A w0 s.heap.size = A) (hQm : vx_MQ below Qc (QXE (.error k : Except Nat α) D w' w0 s.heap.size) args s MC MS A = Q)
    (hst : l.stackTraces = false) (hx : p.tables.exec = Jvm.exec) (hb : c.code = cc) (hts : ∀ w ∈ WW, w.before args s = true) (hE : EE D ca sl s) (hown : s.vm.findClass own = some m.cls) (htab : ∀ x ∈ c.exceptionTable.toList, False) (hlocks : meth.locks = false) (hfit : Bundle.fit cl9 = true)
    (hlk : Cond.classLink own ik cl9 ∈ WW) (hini : Cond.initialized cl9 ∈ WW) (hsl : (own, is, text) ∈ sl) (hat : (vx_atS own ic cl9 XL).all (fun w => decide (w ∈ lw_tbl) && (goodWord w || (nwW w && w.onTables))) = true) (hZ : ZZ A s s.heap) (hsize : ls.size = c.maxLocals)
    (hP : va_P D vwCl w' H) (hD : va_D A w') (hS : va_S A s.heap H locs)
    (d0 : decode cc pc = .ok (.new ik, 3)) (d3 : decode cc (pc + 3) = .ok (.dup, 1)) (d4 : decode cc (pc + 4) = .ok (.ldc_w is, 3)) (d7 : decode cc (pc + 7) = .ok (.invokespecial ic, 3)) (d10 : decode cc (pc + 10) = .ok (.athrow, 1))
    (hRf : 5 < Rm.frames) (hRl : (rest.map fun v => v.category).sum + 82 ≤ Rm.locals) (hRc : cells + 1 ≤ Rm.cells) (hRs : slots + 6 ≤ Rm.slots) (hc : cells + 1 ≤ MC) (hs : slots + 6 ≤ MS) :
    W p l e Rm s m args below meth c H locs cells slots Q (F0 m pc ls rest) := by
  subst hQm
  subst hAe
  obtain ⟨sa, hsa⟩ := hE.2.2 _ hsl
  exact vx_throwSW (names := XL) hx hb hst hown hfit (by decide +kernel) (hts _ hlk) (hts _ hini) hsa (at_all hat hts hE.2.1)
    (List.forall_mem_cons.mpr ⟨by unfold vx_ot; rfl, List.forall_mem_cons.mpr ⟨by unfold vx_ot; rfl, at_ot hat⟩⟩) hZ.1 hZ.2.1 hS hsize d0 d3 d4 d7 d10 (fun x hx => (htab x hx).elim) hRf hRl hRc hRs hlocks
    (fun t hal hz hk => ⟨k, rfl, ⟨hk9.symm, (x_after (A := va_A w0 s.heap.size) hP hD hS hz hk).1⟩, (x_after (A := va_A w0 s.heap.size) hP hD hS hz hk).2⟩) hS.2.2 hc hs
theorem endx_i {v : Int32} {ty : FieldType} {w0 : va_W} {A : Nat → Prop} (hAe : va_A w0 s.heap.size = A) (hQm : vx_MQ below (QXI (.ok v) D w' w0 s.heap.size) (QXE (.ok v : Except Nat Int32) D w' w0 s.heap.size) args s MC MS A = Q) (hx : p.tables.exec = Jvm.exec) (hb : c.code = cc) (hr : meth.sig.returnType = some ty) (hlocks : meth.locks = false) (hn : narrow ty (.int v) = .int v) (hP : va_P D vwCl w' H) (hD : va_D A w') (hS : va_S A s.heap H locs) (hdg : decode cc pc = .ok (.ireturn, 1)) (hc : cells ≤ MC) (hs : slots ≤ MS) :
    W p l e Rm s m args below meth c H locs cells slots Q (F0 m pc ls [.int v]) := by
  subst hQm
  subst hAe
  exact W.widen hc hs (vx_ret (W.zret (v := v) hx hb hr hn (fun t ht hW => ⟨⟨v, (),  rfl, rfl, by rw [ht]; exact hP, hD⟩, hS.F ht⟩) hS.2.2 hdg hlocks))
theorem endx_d {v : UInt64} {w0 : va_W} {A : Nat → Prop} (hAe : va_A w0 s.heap.size = A) (hQm : vx_MQ below (QXD (.ok v) D w' w0 s.heap.size) (QXE (.ok v : Except Nat UInt64) D w' w0 s.heap.size) args s MC MS A = Q) (hx : p.tables.exec = Jvm.exec) (hb : c.code = cc) (hr : meth.sig.returnType = some .double) (hlocks : meth.locks = false) (hP : va_P D vwCl w' H) (hD : va_D A w') (hS : va_S A s.heap H locs) (hdg : decode cc pc = .ok (.dreturn, 1)) (hc : cells ≤ MC) (hs : slots ≤ MS) :
    W p l e Rm s m args below meth c H locs cells slots Q (F0 m pc ls [.double v]) := by
  subst hQm
  subst hAe
  exact W.widen hc hs (vx_ret (W.dret (v := v) hx hb hr (fun t ht hW => ⟨⟨v, (),  rfl, rfl, by rw [ht]; exact hP, hD⟩, hS.F ht⟩) hS.2.2 hdg hlocks))
theorem endx_f {v : UInt32} {w0 : va_W} {A : Nat → Prop} (hAe : va_A w0 s.heap.size = A) (hQm : vx_MQ below (QXF (.ok v) D w' w0 s.heap.size) (QXE (.ok v : Except Nat UInt32) D w' w0 s.heap.size) args s MC MS A = Q) (hx : p.tables.exec = Jvm.exec) (hb : c.code = cc) (hr : meth.sig.returnType = some .float) (hlocks : meth.locks = false) (hP : va_P D vwCl w' H) (hD : va_D A w') (hS : va_S A s.heap H locs) (hdg : decode cc pc = .ok (.freturn, 1)) (hc : cells ≤ MC) (hs : slots ≤ MS) :
    W p l e Rm s m args below meth c H locs cells slots Q (F0 m pc ls [.float v]) := by
  subst hQm
  subst hAe
  exact W.widen hc hs (vx_ret (W.fret (v := v) hx hb hr (fun t ht hW => ⟨⟨v, (),  rfl, rfl, by rw [ht]; exact hP, hD⟩, hS.F ht⟩) hS.2.2 hdg hlocks))
theorem endx_v {w0 : va_W} {A : Nat → Prop} (hAe : va_A w0 s.heap.size = A) (hQm : vx_MQ below (QXV (.ok ()) D w' w0 s.heap.size) (QXE (.ok () : Except Nat Unit) D w' w0 s.heap.size) args s MC MS A = Q) (hx : p.tables.exec = Jvm.exec) (hb : c.code = cc) (hr : meth.sig.returnType = none) (hlocks : meth.locks = false) (hP : va_P D vwCl w' H) (hD : va_D A w') (hS : va_S A s.heap H locs) (hdg : decode cc pc = .ok (.return_, 1)) (hc : cells ≤ MC) (hs : slots ≤ MS) :
    W p l e Rm s m args below meth c H locs cells slots Q (F0 m pc ls []) := by
  subst hQm
  subst hAe
  exact W.widen hc hs (vx_ret (W.vret hx hb hr (fun t ht hW => ⟨⟨(),  rfl, rfl, by rw [ht]; exact hP, hD⟩, hS.F ht⟩) hS.2.2 hdg hlocks))
end XCALLS

/-! NoSuchElementException. Its constructor links RuntimeException's at entry 13, not at 7 as those of the other exceptions link theirs, so the kit's rows for a throw don't fit it. Rows for it alone, over the library's ctorMessageOffV; of the new cell they say whose it is, and that no word of the machine lies in it: no contract here asks more. -/
abbrev NSE : String := "java/util/NoSuchElementException"
abbrev RTE : String := "java/lang/RuntimeException"
def nx_code : ByteArray := ⟨#[0x2a, 0x2b, 0xb7, 0x00, 0x0d, 0xb1]⟩
abbrev nx_way : List Cond := Bundle.passSAtoms NSE RTE 13 nx_code
abbrev nx_rest : List Cond := Bundle.chainSAtoms RTE ["java/lang/Exception"]
abbrev nx_up : List Cond := Bundle.throwableAtoms ++ (Bundle.throwableSAtoms ++ (nx_way ++ nx_rest))
abbrev nx_fields : List (String × String) := [("backtrace", "Ljava/lang/Object;"), ("cause", "Ljava/lang/Throwable;"), ("stackTrace", Bundle.steD), ("suppressedExceptions", Bundle.listD), ("detailMessage", "Ljava/lang/String;")]
def nx_lay (q : String × String) : Cond := .lays NSE Bundle.tN q.1 q.2
abbrev nx_back : List Cond := [.fieldLink Bundle.tN 198 Bundle.tN "backtrace" "Ljava/lang/Object;", .lays Bundle.tN Bundle.tN "backtrace" "Ljava/lang/Object;"]
abbrev nx_pair : List Cond := [.selects NSE Bundle.tFill0 Bundle.tFill0, .selects NSE Bundle.tFill Bundle.tFill]
abbrev nx_new (own : String) (ic : Nat) : List Cond := [.methodLink own ic (Bundle.initS NSE), .instantiable NSE 6]
abbrev nx_all (own : String) (ic : Nat) : List Cond := nx_new own ic ++ (nx_pair ++ (nx_back ++ (nx_fields.map nx_lay ++ nx_up)))
def nx_at (own : String) (ic : Nat) : List Cond := (nx_all own ic).filter vx_no
/-- both halves of a list of words -/
theorem nx_cut {A B : List Cond} {args : Array Value} {s : State} (h : ∀ w ∈ A ++ B, w.before args s = true) : (∀ w ∈ A, w.before args s = true) ∧ (∀ w ∈ B, w.before args s = true) :=
  ⟨fun w hw => h w (List.mem_append_left _ hw), fun w hw => h w (List.mem_append_right _ hw)⟩
/-- the three constructors under way, each passing the message on -/
theorem nx_road {args : Array Value} {s : State} {pl : Platform} (hpl : pl.magicAccessors = ({} : Platform).magicAccessors) {top : MethodId} (htop : s.methodNamed? (Bundle.initS Bundle.tN) = some top)
    (h1 : ∀ w ∈ nx_way, w.before args s = true) (h2 : ∀ w ∈ nx_rest, w.before args s = true) :
    ∃ (P : PassC) (Ps : List PassC), Ps.length = 2 ∧ (∀ Q, Q ∈ P :: Ps → Q.LinksS pl s) ∧ s.methodNamed? (Bundle.initS NSE) = some P.m ∧ PassesOn top ((P :: Ps).map (·.toPassT)) := by
  obtain ⟨P, lP, mP, sP⟩ := PassC.ofS_atoms (args := args) (s := s) hpl (by decide +kernel) (by decide) (by decide +kernel) (by decide +kernel) (by decide +kernel) (by decide +kernel) h1
  obtain ⟨P2, Ps, hn, l2, lr, m2, s2, pr⟩ := Bundle.chainS (args := args) hpl htop ["java/lang/Exception"] RTE (by decide +kernel) (fun n hn => by rw [List.mem_singleton.mp hn]; decide +kernel) h2
  refine ⟨P, P2 :: Ps, by rw [List.length_cons, hn]; rfl, fun Q hQ => ?_, mP, ?_, s2, pr⟩
  · cases hQ with
    | head => exact lP
    | tail _ hQ => cases hQ with
      | head => exact l2
      | tail _ hQ => exact lr Q hQ
  · rw [m2] at sP
    exact (Option.some.inj sP).symm
/-- a selection finds Throwable's own method -/
theorem nx_pick {l : Launch} {e : Env} {args : Array Value} {s : State} {cX : ClassId} {m : MethodId} {x : MethodName} (hA : l.admits e) (hc : s.vm.findClass NSE = some cX) (hm : s.methodNamed? x = some m)
    (hx : x.cls ≠ "java/lang/invoke/MethodHandle" ∧ x.cls ≠ "java/lang/invoke/VarHandle") (h : (Cond.selects NSE x x).before args s = true) : selectMethod e.platform s.vm cX m = .method m := by
  obtain ⟨c1, r1, m1, g1, g2, g3, g4, -⟩ := Cond.selects_spec h
  rw [hc] at g1
  rw [State.methodFound?_of_named hm hx] at g2
  rw [hm] at g3
  rw [Launch.admits_selectMethod hA, Option.some.inj g1, Option.some.inj g2]
  rw [← Option.some.inj g3, Option.some.inj g2] at g4
  exact g4
theorem nx_past {x : Cell} {i j : Nat} {v : Value} (h : i ≠ j) : (x.setSlot j v).slots[i]? = x.slots[i]? := Array.getElem?_setIfInBounds_ne (fun q => h q.symm)
/-- no backtrace is noted before the stack is filled -/
theorem nx_skip {args : Array Value} {s : State} {pl : Platform} {T : ThrowableC} {Z : Init0T} (hpl : pl.magicAccessors = ({} : Platform).magicAccessors) (L : T.Links pl s) (Y : Bundle.Ties T Z s) {cX : ClassId} {kX : Class} (hcX : s.vm.findClass NSE = some cX) (hkX : s.vm.classes[cX]? = some kX)
    (hb : ∀ w ∈ nx_back, w.before args s = true) (hl : ∀ q ∈ nx_fields, (nx_lay q).before args s = true) (a : Addr) (u0 sen : RefV) (t : ThreadId) :
    SkipFacts T pl s (fun u => u) u0 ((preparedCellV T.toThrowableT (freshCell cX kX) a u0 sen).withEntry t) := by
  obtain ⟨ci, i, f, b1, b2, b3, b4, -, bn, bt, bf⟩ := Cond.ownField (t := .object "java/lang/Object") Y.found L.cls (by decide +kernel) (hb _ (List.mem_cons_self ..)) (hb _ (List.mem_cons_of_mem _ (List.mem_cons_self ..))) pl hpl
  obtain ⟨ty, d, hd, hdn⟩ := Cond.laysAt hcX hkX bf (hl ("backtrace", "Ljava/lang/Object;") (by decide))
  obtain ⟨-, d1, k1, n1⟩ := Cond.laysAt hcX hkX Y.cause (hl ("cause", "Ljava/lang/Throwable;") (by decide))
  obtain ⟨-, d2, k2, n2⟩ := Cond.laysAt hcX hkX Y.stack (hl ("stackTrace", Bundle.steD) (by decide))
  obtain ⟨-, d3, k3, n3⟩ := Cond.laysAt hcX hkX Y.supp (hl ("suppressedExceptions", Bundle.listD) (by decide))
  refine ⟨⟨ci, i, f⟩, ⟨b1, b2, b3, b4⟩, ?_, fun _ _ => rfl⟩
  show ((((freshCell cX kX).setSlot T.fCause.slot (.ref a)).setSlot T.fStack.slot u0.v).setSlot T.fSupp.slot sen.v).slots[f.slot]? = some .null
  rw [nx_past (Cond.laysApart hd k3 hdn n3 (by rw [bn, Y.suppName]; decide)), nx_past (Cond.laysApart hd k2 hdn n2 (by rw [bn, Y.stackName]; decide)), nx_past (Cond.laysApart hd k1 hdn n1 (by rw [bn, Y.causeName]; decide)), fresh_default ty, bt]
  rfl
section NX1
variable {p : Program} {l : Launch} {e : Env} {R : Room} {s : State} {m : MethodId} {args : Array Value} {below : List Frame} {meth : Method} {c : Code} {W : State} {cells slots : Nat}
/-- the constructor runs, then the object is thrown and leaves the frame -/
theorem nx_thrown (X : Stand p l e R s m args below meth c W [] cells slots) (hexec : p.tables.exec = Jvm.exec) (htr : e.platform.stackTraces = false) {own : String} {ic : Nat} (hown : s.vm.findClass own = some m.cls)
    (h : ∀ w ∈ nx_all own ic, w.before args s = true) (hUS : (Cond.isRef (.static Bundle.tN "UNASSIGNED_STACK" Bundle.steD)).before args s = true) (hSS : (Cond.isRef (.static Bundle.tN "SUPPRESSED_SENTINEL" Bundle.listD)).before args s = true)
    {a sa : Addr} {cX : ClassId} {kX : Class} (hcX : s.vm.findClass NSE = some cX) (hkX : s.vm.classes[cX]? = some kX) (hcell : W.heap[a]? = some (freshCell cX kX)) (hnew : s.heap.size ≤ a)
    {pc : Nat} {ls : Array Slot} {rest : List Value} (hsize : ls.size = c.maxLocals) (d0 : decode c.code pc = .ok (.invokespecial ic, 3)) (d3 : decode c.code (pc + 3) = .ok (.athrow, 1))
    (hout : ∀ x ∈ c.exceptionTable.toList, covers x (pc + 3) = false) (hRf : 5 < R.frames) (hRl : (rest.map fun v => v.category).sum + 82 ≤ R.locals) (hlocks : meth.locks = false) :
    ∃ (U : State) (ce : Cell), Steps p.tables e below (W.setTop (F0 m pc ls (.ref sa :: .ref a :: .ref a :: rest))) U ∧ U.status = .running ∧ Ended U below (.threw a) ∧ s.WarmedH U.vm ∧ s.sameButNew ({ U with vm := s.vm } : State) [] cells slots ∧
      U.heap[a]? = some ce ∧ ce.vm = .none ∧ ce.cls = cX := by
  obtain ⟨hnw, h⟩ := nx_cut h
  obtain ⟨hpr, h⟩ := nx_cut h
  obtain ⟨hbk, h⟩ := nx_cut h
  obtain ⟨hfl, h⟩ := nx_cut h
  obtain ⟨hth, h⟩ := nx_cut h
  obtain ⟨hts, h⟩ := nx_cut h
  obtain ⟨hwy, hrs⟩ := nx_cut h
  have hl : ∀ q ∈ nx_fields, (nx_lay q).before args s = true := fun q hq => hfl _ (List.mem_map_of_mem hq)
  have hP := X.admits.platform
  have hpl : e.platform.magicAccessors = ({} : Platform).magicAccessors := by rw [hP]
  obtain ⟨T, Z0, L, -, Y⟩ := ThrowableC.of_atoms (args := args) (by rw [hP]) (by rw [hP]) hpl hth
  obtain ⟨Z, M, lZ, lM, hZm⟩ := Init0T.ofS_atoms (args := args) hpl L Y hts
  obtain ⟨P, Ps, hn, lPs, hPm, hgo⟩ := nx_road (args := args) hpl hZm hwy hrs
  obtain ⟨ck, kk, hck, hkk, hord, -, -, -⟩ := Cond.instantiable_spec (hnw (.instantiable NSE 6) (by simp))
  rw [hcX] at hck
  rw [← Option.some.inj hck, hkX] at hkk
  rw [← Option.some.inj hkk] at hord
  -- Throwable's statics, in the heap at the entry and now
  obtain ⟨cS, hcS, hst⟩ := Y.statics
  obtain ⟨u0, hu0⟩ := Cond.staticRefV Y.unassigned L.unassignedStatic L.statics hcS hst hUS
  obtain ⟨sen, hsen⟩ := Cond.staticRefV Y.sentinel L.sentinelStatic L.statics hcS hst hSS
  obtain ⟨cW, hcW, hvW, -, hsame⟩ := X.same.2.2.2.2.2 T.aS cS hcS
  have hvm : cW.vm = cS.vm := by rw [hvW]
  have hkn : cW.vm ≠ .unknown := fun q => by rw [← hvm, q] at hst; exact absurd hst (by decide)
  have hne : T.aS ≠ a := fun q => by
    have hlt := (Array.getElem?_eq_some_iff.mp hcS).1
    rw [q] at hlt
    exact Nat.not_lt.mpr hnew hlt
  obtain ⟨iM, hM⟩ := Y.msg
  obtain ⟨t1, -⟩ := Cond.laysAt hcX hkX Y.cause (hl ("cause", "Ljava/lang/Throwable;") (by decide))
  obtain ⟨t2, -⟩ := Cond.laysAt hcX hkX Y.stack (hl ("stackTrace", Bundle.steD) (by decide))
  obtain ⟨t3, -⟩ := Cond.laysAt hcX hkX Y.supp (hl ("suppressedExceptions", Bundle.listD) (by decide))
  obtain ⟨t4, -⟩ := Cond.laysAt hcX hkX hM (hl ("detailMessage", "Ljava/lang/String;") (by decide))
  -- the call, linked for the first time or again
  obtain ⟨mi, -, -, -, vm1, hmi, -, -, -, -, -, -, -, w1, run1⟩ := Steps.initColdS (below := below) (args := args) X.here hexec X.warmed hpl hown (t := Bundle.initS NSE) rfl rfl (by decide) (hnw (.methodLink own ic (Bundle.initS NSE)) (by simp))
    (hwy (.instanceMethod (Bundle.initS NSE)) (by simp [Bundle.passSAtoms])) (hwy (.code (Bundle.initS NSE) nx_code 2 none) (by simp [Bundle.passSAtoms])) (f := F0 m pc ls (.ref sa :: .ref a :: .ref a :: rest)) rfl rfl d0
  rw [hPm] at hmi
  obtain ⟨vm2, X2, run2⟩ := (X.noted w1).ctorMessageOffV hexec (g := F0 m pc ls (.ref a :: rest)) rfl hsize T L Z lZ M lM (P :: Ps) lPs hgo (u0 := u0) (sen := sen) (self := a) (msg := .ref sa) rfl hcell
    (fun _ q => nomatch q) (fun q => nomatch q) rfl rfl (nx_pick X.admits hcX Y.fill0 (by decide) (hpr _ (by simp))) (nx_pick X.admits hcX Y.fill (by decide) (hpr _ (by simp)))
    hcW hne hkn ((hsame _ (by simp)).trans hu0) ((hsame _ (by simp)).trans hsen)
    (Takes.of_laid hkX hord t1 (by rw [Y.causeType]; rfl)) (Takes.of_laid hkX hord t2 (by rw [Y.stackType]; exact fits_refV_array _ u0)) (Takes.of_laid hkX hord t3 (by rw [Y.suppType]; exact fits_refV_object _ sen))
    (Takes.of_laid hkX hord t4 (by rw [Y.msgType]; rfl)) Y.objLocals (nx_skip hpl L Y hcX hkX hbk hl a u0 sen _) htr [] d0
    (by rw [List.length_cons, hn]; exact hRf) (by
      have hr : (F0 m pc ls (.ref a :: rest)).monitorRoom = 0 := rfl
      have hs : (F0 m pc ls (.ref a :: rest)).stack = .ref a :: rest := rfl
      have hc1 : (Value.ref a).category = 1 := rfl
      rw [List.length_cons, hn, hr, hs, List.map_cons, List.sum_cons, hc1]
      omega)
  obtain ⟨run3, q1, q2, q3, q4⟩ := X2.athrowLeaves hexec (g := F0 m (pc + 3) ls (.ref a :: rest)) rfl rfl rfl hout rfl d3
  refine ⟨_, _, run1 _ (fun acts => ?_), q1, q2, q3, q4.weaken (fun y hy hlt => ?_) (Nat.le_refl _) (Nat.le_refl _), heapAt_setCell_self _ (Array.getElem?_eq_some_iff.mp hcell).1, rfl, rfl⟩
  · rw [doInvoke_state, ← Option.some.inj hmi]
    exact run2 _ run3
  · have hy0 : y.base = a := by
      simp only [List.nil_append, List.mem_cons, List.not_mem_nil, or_false] at hy
      rcases hy with rfl | rfl | rfl | rfl | rfl <;> rfl
    rw [hy0] at hlt
    exact absurd hlt (Nat.not_lt.mpr hnew)
end NX1
section NSE2
variable {p : Program} {l : Launch} {e : Env} {R : Room} {s : State} {m : MethodId} {args : Array Value} {below : List Frame} {meth : Method} {c : Code} {H : Heap} {locs : List Loc} {cells slots : Nat} {Q : State → Prop}
variable {mc ms : Nat} {free : Addr → Prop} {A0 A1 : Nat → Prop} {H0 : Heap} {a : Array Value} {ls : Array Slot} {st0 rest : List Value}
variable {Qc : Array Value → State → Outcome → State → Prop} {XC : String → State → State → Prop}
theorem nx_throwS {cc : ByteArray} {pc : Nat} (hexec : p.tables.exec = Jvm.exec) (hb : c.code = cc) (hl : l.stackTraces = false) {own text : String} {ik is ic mc ms sa : Nat} {A : Nat → Prop}
    (hown : s.vm.findClass own = some m.cls)
    (hk : (Cond.classLink own ik NSE).before args s = true) (hini : (Cond.initialized NSE).before args s = true) (hstr : vk_R own is text sa s) (hat : ∀ w ∈ nx_at own ic, w.before args s = true)
    (hgood : ∀ w ∈ Cond.classLink own ik NSE :: Cond.initialized NSE :: nx_at own ic, vx_ot w = true)
    (hU : vx_Zq Bundle.tN "UNASSIGNED_STACK" Bundle.steD A s s.heap) (hN : vx_Zq Bundle.tN "SUPPRESSED_SENTINEL" Bundle.listD A s s.heap) (hS : va_S A s.heap H locs) (hsize : ls.size = c.maxLocals)
    (d0 : decode cc pc = .ok (.new ik, 3)) (d3 : decode cc (pc + 3) = .ok (.dup, 1)) (d4 : decode cc (pc + 4) = .ok (.ldc is, 2)) (d6 : decode cc (pc + 6) = .ok (.invokespecial ic, 3)) (d9 : decode cc (pc + 9) = .ok (.athrow, 1))
    (hout : ∀ x ∈ c.exceptionTable.toList, covers x (pc + 9) = false)
    (hRframes : 5 < R.frames) (hRlocals : (rest.map fun v => v.category).sum + 82 ≤ R.locals) (hRcells : cells + 1 ≤ R.cells) (hRslots : slots + 6 ≤ R.slots) (hlocks : meth.locks = false)
    (hx : ∀ t : State, s.vm.Alike t.vm → H.size ≤ t.heap.size → (∀ q : Nat, q < H.size → t.heap[q]? = H[q]?) → XC NSE s t)
    (hf : ∀ z ∈ locs, free z.base) (hc : cells + 1 ≤ mc) (hs : slots + 6 ≤ ms) :
    W p l e R s m args below meth c H locs cells slots (vx_MQ below Qc XC args s mc ms free) (F0 m pc ls rest) := by
  intro T hT X
  have htr : e.platform.stackTraces = false := (show e.platform.stackTraces = l.stackTraces by rw [X.admits.platform]).trans hl
  have Y := vx_rebase X (R' := { frames := R.frames, locals := R.locals, cells := 1, slots := 6 }) (Nat.le_refl _) (Nat.le_refl _) hRcells hRslots
  obtain ⟨s', hA⟩ : ∃ z, z = (T.setVm s.vm).setFrames (.invoking m args :: below) := ⟨_, rfl⟩
  rw [← hA] at Y
  have hvm : s'.vm = s.vm := by rw [hA]; rfl
  have hhp : s'.heap = H := by rw [hA]; exact hT
  have hW0 : s.WarmedH s'.vm := by rw [hvm]; exact State.WarmedH.refl s
  have hat' : ∀ w ∈ nx_at own ic, w.before args s' = true := fun w hw => vx_ot_at hW0 hvm.symm (hgood w (List.mem_cons_of_mem _ (List.mem_cons_of_mem _ hw))) (hat w hw)
  have hk' : (Cond.classLink own ik NSE).before args s' = true := vx_ot_at hW0 hvm.symm (hgood _ List.mem_cons_self) hk
  have hini' : (Cond.initialized NSE).before args s' = true := vx_ot_at hW0 hvm.symm (hgood _ (List.mem_cons_of_mem _ List.mem_cons_self)) hini
  have hU' : vx_Zq Bundle.tN "UNASSIGNED_STACK" Bundle.steD A s' s'.heap := by rw [hhp]; exact vx_Zq.moved hW0.alike (hU.kept hS.2.1)
  have hN' : vx_Zq Bundle.tN "SUPPRESSED_SENTINEL" Bundle.listD A s' s'.heap := by rw [hhp]; exact vx_Zq.moved hW0.alike (hN.kept hS.2.1)
  have h : ∀ w ∈ nx_all own ic, w.before args s' = true := vx_own hat' (vx_isRefq hU'.1) (vx_isRefq hN'.1) hU'.2.word hN'.2.word
  have hown' : s'.vm.findClass own = some m.cls := by rw [hvm]; exact hown
  have hins : (Cond.instantiable NSE 6).before args s' = true := h _ (List.mem_append_left _ (List.mem_cons_of_mem _ (List.mem_cons_self ..)))
  obtain ⟨vm₁, cX, kX, hfX, hkX, -, -, X₁, st1⟩ := Y.newCold hexec (own := own) (C := NSE) (index := ik) (n := 6) hown' hk' hins hini'
    (g := F0 m pc ls rest) rfl (by rw [hb]; exact d0) (Nat.le_refl _) (Nat.le_refl _)
  generalize hT1 : (T.setVm vm₁).pushCell { cls := cX, slots := kX.instanceTypes.map defaultValue, vm := .none } = T1 at X₁ st1
  have hcat : (Value.ref T.heap.size).category = 1 := rfl
  have hcellA : T1.heap[T.heap.size]? = some (freshCell cX kX) := by rw [← hT1]; exact State.heap_pushCell_size _ _
  have d3' : decode c.code (pc + 3) = .ok (.dup, 1) := by rw [hb]; exact d3
  have d4' : decode c.code (pc + 4) = .ok (.ldc is, 2) := by rw [hb]; exact d4
  have hstr' : vk_R own is text sa s' := vk_R.warm hW0 hstr
  obtain ⟨U, ce, hsteps, hrun, hend, hW, hsame, hce, hv9, hc9⟩ := nx_thrown X₁ hexec htr hown' h (vx_isRefq hU'.1) (vx_isRefq hN'.1) (sa := sa) hfX hkX hcellA (by rw [hhp, hT]; exact Nat.le_refl _) (rest := rest) hsize
    (by rw [hb]; exact d6) (by rw [hb]; exact d9) hout hRframes hRlocals hlocks
  obtain ⟨f1, f2⟩ := vx_frame hsame
  rw [hhp] at f1 f2
  have hWs : s.WarmedH U.vm := State.WarmedH.trans hW0 hW
  have hcl : s.vm.findClass NSE = some ce.cls := by rw [hc9, ← hvm]; exact hfX
  have hall : s.sameButNew ({ U with vm := s.vm } : State) locs mc ms := by
    subst hA
    obtain ⟨e1, e2⟩ := hsame
    rw [State.setFrames_setFrames] at e1
    have h2 : (T.setVm s.vm).sameButNew ({ U with vm := s.vm } : State) [] (0 + 1) (0 + 6) := ⟨e1, e2⟩
    have h3 := X.same.trans h2
    rw [List.append_nil] at h3
    exact h3.mono hc hs
  refine ⟨U, ?_, .threw T.heap.size, hrun, hend, Or.inr ⟨T.heap.size, rfl, NSE, ce, locs, hx U hWs.alike f1 (fun q hq => f2 q hq (fun z hz => nomatch hz)), hce, hv9, hcl, hWs, hall, hf⟩⟩
  refine st1 _ ?_
  show Steps p.tables e below (T1.setTop { method := m, pc := pc + 3, locals := ls, stack := .ref T.heap.size :: rest, locked := none }) _
  jvm_step X₁.here [X₁.here.top, hexec, d3', Value.category]
  exact X₁.ldcString hexec (own := own) (text := text) (index := is) (a := sa) hown' hstr'.1 hstr'.2
    (g := { method := m, pc := pc + 4, locals := ls, stack := .ref T.heap.size :: .ref T.heap.size :: rest, locked := none }) rfl d4' _ hsteps
theorem nx_throwSW {cc : ByteArray} {pc : Nat} (hexec : p.tables.exec = Jvm.exec) (hb : c.code = cc) (hl : l.stackTraces = false) {own text : String} {ik is ic mc ms sa : Nat} {A : Nat → Prop}
    (hown : s.vm.findClass own = some m.cls)
    (hk : (Cond.classLink own ik NSE).before args s = true) (hini : (Cond.initialized NSE).before args s = true) (hstr : vk_R own is text sa s) (hat : ∀ w ∈ nx_at own ic, w.before args s = true)
    (hgood : ∀ w ∈ Cond.classLink own ik NSE :: Cond.initialized NSE :: nx_at own ic, vx_ot w = true)
    (hU : vx_Zq Bundle.tN "UNASSIGNED_STACK" Bundle.steD A s s.heap) (hN : vx_Zq Bundle.tN "SUPPRESSED_SENTINEL" Bundle.listD A s s.heap) (hS : va_S A s.heap H locs) (hsize : ls.size = c.maxLocals)
    (d0 : decode cc pc = .ok (.new ik, 3)) (d3 : decode cc (pc + 3) = .ok (.dup, 1)) (d4 : decode cc (pc + 4) = .ok (.ldc_w is, 3)) (d7 : decode cc (pc + 7) = .ok (.invokespecial ic, 3)) (d10 : decode cc (pc + 10) = .ok (.athrow, 1))
    (hout : ∀ x ∈ c.exceptionTable.toList, covers x (pc + 10) = false)
    (hRframes : 5 < R.frames) (hRlocals : (rest.map fun v => v.category).sum + 82 ≤ R.locals) (hRcells : cells + 1 ≤ R.cells) (hRslots : slots + 6 ≤ R.slots) (hlocks : meth.locks = false)
    (hx : ∀ t : State, s.vm.Alike t.vm → H.size ≤ t.heap.size → (∀ q : Nat, q < H.size → t.heap[q]? = H[q]?) → XC NSE s t)
    (hf : ∀ z ∈ locs, free z.base) (hc : cells + 1 ≤ mc) (hs : slots + 6 ≤ ms) :
    W p l e R s m args below meth c H locs cells slots (vx_MQ below Qc XC args s mc ms free) (F0 m pc ls rest) := by
  intro T hT X
  have htr : e.platform.stackTraces = false := (show e.platform.stackTraces = l.stackTraces by rw [X.admits.platform]).trans hl
  have Y := vx_rebase X (R' := { frames := R.frames, locals := R.locals, cells := 1, slots := 6 }) (Nat.le_refl _) (Nat.le_refl _) hRcells hRslots
  obtain ⟨s', hA⟩ : ∃ z, z = (T.setVm s.vm).setFrames (.invoking m args :: below) := ⟨_, rfl⟩
  rw [← hA] at Y
  have hvm : s'.vm = s.vm := by rw [hA]; rfl
  have hhp : s'.heap = H := by rw [hA]; exact hT
  have hW0 : s.WarmedH s'.vm := by rw [hvm]; exact State.WarmedH.refl s
  have hat' : ∀ w ∈ nx_at own ic, w.before args s' = true := fun w hw => vx_ot_at hW0 hvm.symm (hgood w (List.mem_cons_of_mem _ (List.mem_cons_of_mem _ hw))) (hat w hw)
  have hk' : (Cond.classLink own ik NSE).before args s' = true := vx_ot_at hW0 hvm.symm (hgood _ List.mem_cons_self) hk
  have hini' : (Cond.initialized NSE).before args s' = true := vx_ot_at hW0 hvm.symm (hgood _ (List.mem_cons_of_mem _ List.mem_cons_self)) hini
  have hU' : vx_Zq Bundle.tN "UNASSIGNED_STACK" Bundle.steD A s' s'.heap := by rw [hhp]; exact vx_Zq.moved hW0.alike (hU.kept hS.2.1)
  have hN' : vx_Zq Bundle.tN "SUPPRESSED_SENTINEL" Bundle.listD A s' s'.heap := by rw [hhp]; exact vx_Zq.moved hW0.alike (hN.kept hS.2.1)
  have h : ∀ w ∈ nx_all own ic, w.before args s' = true := vx_own hat' (vx_isRefq hU'.1) (vx_isRefq hN'.1) hU'.2.word hN'.2.word
  have hown' : s'.vm.findClass own = some m.cls := by rw [hvm]; exact hown
  have hins : (Cond.instantiable NSE 6).before args s' = true := h _ (List.mem_append_left _ (List.mem_cons_of_mem _ (List.mem_cons_self ..)))
  obtain ⟨vm₁, cX, kX, hfX, hkX, -, -, X₁, st1⟩ := Y.newCold hexec (own := own) (C := NSE) (index := ik) (n := 6) hown' hk' hins hini'
    (g := F0 m pc ls rest) rfl (by rw [hb]; exact d0) (Nat.le_refl _) (Nat.le_refl _)
  generalize hT1 : (T.setVm vm₁).pushCell { cls := cX, slots := kX.instanceTypes.map defaultValue, vm := .none } = T1 at X₁ st1
  have hcat : (Value.ref T.heap.size).category = 1 := rfl
  have hcellA : T1.heap[T.heap.size]? = some (freshCell cX kX) := by rw [← hT1]; exact State.heap_pushCell_size _ _
  have d3' : decode c.code (pc + 3) = .ok (.dup, 1) := by rw [hb]; exact d3
  have d4' : decode c.code (pc + 4) = .ok (.ldc_w is, 3) := by rw [hb]; exact d4
  have hstr' : vk_R own is text sa s' := vk_R.warm hW0 hstr
  obtain ⟨U, ce, hsteps, hrun, hend, hW, hsame, hce, hv9, hc9⟩ := nx_thrown X₁ hexec htr hown' h (vx_isRefq hU'.1) (vx_isRefq hN'.1) (sa := sa) hfX hkX hcellA (by rw [hhp, hT]; exact Nat.le_refl _) (rest := rest) hsize
    (by rw [hb]; exact d7) (by rw [hb]; exact d10) hout hRframes hRlocals hlocks
  obtain ⟨f1, f2⟩ := vx_frame hsame
  rw [hhp] at f1 f2
  have hWs : s.WarmedH U.vm := State.WarmedH.trans hW0 hW
  have hcl : s.vm.findClass NSE = some ce.cls := by rw [hc9, ← hvm]; exact hfX
  have hall : s.sameButNew ({ U with vm := s.vm } : State) locs mc ms := by
    subst hA
    obtain ⟨e1, e2⟩ := hsame
    rw [State.setFrames_setFrames] at e1
    have h2 : (T.setVm s.vm).sameButNew ({ U with vm := s.vm } : State) [] (0 + 1) (0 + 6) := ⟨e1, e2⟩
    have h3 := X.same.trans h2
    rw [List.append_nil] at h3
    exact h3.mono hc hs
  refine ⟨U, ?_, .threw T.heap.size, hrun, hend, Or.inr ⟨T.heap.size, rfl, NSE, ce, locs, hx U hWs.alike f1 (fun q hq => f2 q hq (fun z hz => nomatch hz)), hce, hv9, hcl, hWs, hall, hf⟩⟩
  refine st1 _ ?_
  show Steps p.tables e below (T1.setTop { method := m, pc := pc + 3, locals := ls, stack := .ref T.heap.size :: rest, locked := none }) _
  jvm_step X₁.here [X₁.here.top, hexec, d3', Value.category]
  exact X₁.ldcStringW hexec (own := own) (text := text) (index := is) (a := sa) hown' hstr'.1 hstr'.2
    (g := { method := m, pc := pc + 4, locals := ls, stack := .ref T.heap.size :: .ref T.heap.size :: rest, locked := none }) rfl d4' _ hsteps
end NSE2
section NSE3
variable {p : Program} {l : Launch} {e : Env} {Rm : Room} {s : State} {m : MethodId} {args : Array Value} {below : List Frame} {meth : Method} {c : Code} {H : Heap} {locs : List Loc} {cells slots : Nat} {Q : State → Prop}
variable {cc : ByteArray} {mc ms MC MS : Nat} {own : String} {rest : List Value} {pc : Nat} {ls : Array Slot}
variable {D : va_G} {ca : Nat → ClassId} {sl : List (String × Nat × String)} {w' : va_W}
theorem endn_throw {α : Type} {w0 : va_W} {A : Nat → Prop} {Qc : Array Value → State → Outcome → State → Prop} {text : String} {ik is ic : Nat} (k : Nat) (hk9 : XN k = NSE) (hAe : va_A w0 s.heap.size = A) (hQm : vx_MQ below Qc (QXE (.error k : Except Nat α) D w' w0 s.heap.size) args s MC MS A = Q)
    (hst : l.stackTraces = false) (hx : p.tables.exec = Jvm.exec) (hb : c.code = cc) (hts : ∀ w ∈ WW, w.before args s = true) (hE : EE D ca sl s) (hown : s.vm.findClass own = some m.cls) (htab : ∀ x ∈ c.exceptionTable.toList, False) (hlocks : meth.locks = false) (_ : Bundle.fit NSE = true)
    (hlk : Cond.classLink own ik NSE ∈ WW) (hini : Cond.initialized NSE ∈ WW) (hsl : (own, is, text) ∈ sl) (hat : (nx_at own ic).all (fun w => decide (w ∈ lw_tbl) && (goodWord w || (nwW w && w.onTables))) = true) (hZ : ZZ A s s.heap) (hsize : ls.size = c.maxLocals)
    (hP : va_P D vwCl w' H) (hD : va_D A w') (hS : va_S A s.heap H locs)
    (d0 : decode cc pc = .ok (.new ik, 3)) (d3 : decode cc (pc + 3) = .ok (.dup, 1)) (d4 : decode cc (pc + 4) = .ok (.ldc is, 2)) (d6 : decode cc (pc + 6) = .ok (.invokespecial ic, 3)) (d9 : decode cc (pc + 9) = .ok (.athrow, 1))
    (hRf : 5 < Rm.frames) (hRl : (rest.map fun v => v.category).sum + 82 ≤ Rm.locals) (hRc : cells + 1 ≤ Rm.cells) (hRs : slots + 6 ≤ Rm.slots) (hc : cells + 1 ≤ MC) (hs : slots + 6 ≤ MS) :
    W p l e Rm s m args below meth c H locs cells slots Q (F0 m pc ls rest) := by
  subst hQm
  subst hAe
  obtain ⟨sa, hsa⟩ := hE.2.2 _ hsl
  exact nx_throwS hx hb hst hown (hts _ hlk) (hts _ hini) hsa (at_all hat hts hE.2.1)
    (List.forall_mem_cons.mpr ⟨by unfold vx_ot; rfl, List.forall_mem_cons.mpr ⟨by unfold vx_ot; rfl, at_ot hat⟩⟩) hZ.1 hZ.2.1 hS hsize d0 d3 d4 d6 d9 (fun x hx => (htab x hx).elim) hRf hRl hRc hRs hlocks
    (fun t hal hz hk => ⟨k, rfl, ⟨hk9.symm, (x_after (A := va_A w0 s.heap.size) hP hD hS hz hk).1⟩, (x_after (A := va_A w0 s.heap.size) hP hD hS hz hk).2⟩) hS.2.2 hc hs
theorem endn_throwW {α : Type} {w0 : va_W} {A : Nat → Prop} {Qc : Array Value → State → Outcome → State → Prop} {text : String} {ik is ic : Nat} (k : Nat) (hk9 : XN k = NSE) (hAe : va_A w0 s.heap.size = A) (hQm : vx_MQ below Qc (QXE (.error k : Except Nat α) D w' w0 s.heap.size) args s MC MS A = Q)
    (hst : l.stackTraces = false) (hx : p.tables.exec = Jvm.exec) (hb : c.code = cc) (hts : ∀ w ∈ WW, w.before args s = true) (hE : EE D ca sl s) (hown : s.vm.findClass own = some m.cls) (htab : ∀ x ∈ c.exceptionTable.toList, False) (hlocks : meth.locks = false) (_ : Bundle.fit NSE = true)
    (hlk : Cond.classLink own ik NSE ∈ WW) (hini : Cond.initialized NSE ∈ WW) (hsl : (own, is, text) ∈ sl) (hat : (nx_at own ic).all (fun w => decide (w ∈ lw_tbl) && (goodWord w || (nwW w && w.onTables))) = true) (hZ : ZZ A s s.heap) (hsize : ls.size = c.maxLocals)
    (hP : va_P D vwCl w' H) (hD : va_D A w') (hS : va_S A s.heap H locs)
    (d0 : decode cc pc = .ok (.new ik, 3)) (d3 : decode cc (pc + 3) = .ok (.dup, 1)) (d4 : decode cc (pc + 4) = .ok (.ldc_w is, 3)) (d7 : decode cc (pc + 7) = .ok (.invokespecial ic, 3)) (d10 : decode cc (pc + 10) = .ok (.athrow, 1))
    (hRf : 5 < Rm.frames) (hRl : (rest.map fun v => v.category).sum + 82 ≤ Rm.locals) (hRc : cells + 1 ≤ Rm.cells) (hRs : slots + 6 ≤ Rm.slots) (hc : cells + 1 ≤ MC) (hs : slots + 6 ≤ MS) :
    W p l e Rm s m args below meth c H locs cells slots Q (F0 m pc ls rest) := by
  subst hQm
  subst hAe
  obtain ⟨sa, hsa⟩ := hE.2.2 _ hsl
  exact nx_throwSW hx hb hst hown (hts _ hlk) (hts _ hini) hsa (at_all hat hts hE.2.1)
    (List.forall_mem_cons.mpr ⟨by unfold vx_ot; rfl, List.forall_mem_cons.mpr ⟨by unfold vx_ot; rfl, at_ot hat⟩⟩) hZ.1 hZ.2.1 hS hsize d0 d3 d4 d7 d10 (fun x hx => (htab x hx).elim) hRf hRl hRc hRs hlocks
    (fun t hal hz hk => ⟨k, rfl, ⟨hk9.symm, (x_after (A := va_A w0 s.heap.size) hP hD hS hz hk).1⟩, (x_after (A := va_A w0 s.heap.size) hP hD hS hz hk).2⟩) hS.2.2 hc hs
end NSE3

/-! the texts of the exceptions, their words (printed by program) -/
def SL0 : List (String × Nat × String) := [(RX3, 71, "there are 4 owners"), (RX3, 84, "there have been 40 files"), (RX3, 107, "the file has 9 links"), (RX3, 141, "there is a hole"), (RX3, 173, "so many more blocks are not free"), (RX3, 182, "no blocks were promised"), (RX3, 187, "8 snapshots are kept"), (RX3, 192, "there have been 30 snapshots"), (RX3, 212, "there was a hole"), (RX3, 227, "no snapshot is kept"), (RX3, 235, "more blocks than the quota"), (RX3, 237, "the file does not exist"), (RX3, 242, "there have been 30 holds"), (RX3, 252, "the hold is not open"), (RX3, 263, "no hold is open"), (RX3, 265, "the day would be greater than 9999"), (RX3, 277, "no transaction is open"), (RX3, 281, "there is no such entry"), (RX3, 311, "there is no such character"), (RX3, 319, "the number is out of range"), (RX3, 322, "there is no such owner"), (RX3, 327, "there is no such file"), (RX3, 332, "there is no such place"), (RX3, 337, "there is no such block"), (RX3, 342, "there has been no such snapshot"), (RX3, 348, "the snapshot is not kept or lacks the file"), (RX3, 353, "there is no such hold"), (RX3, 355, "the file has no links"), (RX3, 357, "a transaction is open"), (RX3, 360, "no block is free for the owner"), (RX3, 362, "there is a hole or the file is gone"), (RJx00060, 13, "Array index out of range: "), (RJx7c733, 13, "String index out of range: "), (RJ7, 48, "fromIndex("), (RJ7, 57, ") > toIndex("), (RJ7, 59, ")"), (RJ7, 337, " > ")]
theorem sl0 : ((RX3, 71, "there are 4 owners") : String × Nat × String) ∈ SL0 := List.mem_of_getElem? (i := 0) rfl
theorem sl1 : ((RX3, 84, "there have been 40 files") : String × Nat × String) ∈ SL0 := List.mem_of_getElem? (i := 1) rfl
theorem sl2 : ((RX3, 107, "the file has 9 links") : String × Nat × String) ∈ SL0 := List.mem_of_getElem? (i := 2) rfl
theorem sl3 : ((RX3, 141, "there is a hole") : String × Nat × String) ∈ SL0 := List.mem_of_getElem? (i := 3) rfl
theorem sl4 : ((RX3, 173, "so many more blocks are not free") : String × Nat × String) ∈ SL0 := List.mem_of_getElem? (i := 4) rfl
theorem sl5 : ((RX3, 182, "no blocks were promised") : String × Nat × String) ∈ SL0 := List.mem_of_getElem? (i := 5) rfl
theorem sl6 : ((RX3, 187, "8 snapshots are kept") : String × Nat × String) ∈ SL0 := List.mem_of_getElem? (i := 6) rfl
theorem sl7 : ((RX3, 192, "there have been 30 snapshots") : String × Nat × String) ∈ SL0 := List.mem_of_getElem? (i := 7) rfl
theorem sl8 : ((RX3, 212, "there was a hole") : String × Nat × String) ∈ SL0 := List.mem_of_getElem? (i := 8) rfl
theorem sl9 : ((RX3, 227, "no snapshot is kept") : String × Nat × String) ∈ SL0 := List.mem_of_getElem? (i := 9) rfl
theorem sl10 : ((RX3, 235, "more blocks than the quota") : String × Nat × String) ∈ SL0 := List.mem_of_getElem? (i := 10) rfl
theorem sl11 : ((RX3, 237, "the file does not exist") : String × Nat × String) ∈ SL0 := List.mem_of_getElem? (i := 11) rfl
theorem sl12 : ((RX3, 242, "there have been 30 holds") : String × Nat × String) ∈ SL0 := List.mem_of_getElem? (i := 12) rfl
theorem sl13 : ((RX3, 252, "the hold is not open") : String × Nat × String) ∈ SL0 := List.mem_of_getElem? (i := 13) rfl
theorem sl14 : ((RX3, 263, "no hold is open") : String × Nat × String) ∈ SL0 := List.mem_of_getElem? (i := 14) rfl
theorem sl15 : ((RX3, 265, "the day would be greater than 9999") : String × Nat × String) ∈ SL0 := List.mem_of_getElem? (i := 15) rfl
theorem sl16 : ((RX3, 277, "no transaction is open") : String × Nat × String) ∈ SL0 := List.mem_of_getElem? (i := 16) rfl
theorem sl17 : ((RX3, 281, "there is no such entry") : String × Nat × String) ∈ SL0 := List.mem_of_getElem? (i := 17) rfl
theorem sl18 : ((RX3, 311, "there is no such character") : String × Nat × String) ∈ SL0 := List.mem_of_getElem? (i := 18) rfl
theorem sl19 : ((RX3, 319, "the number is out of range") : String × Nat × String) ∈ SL0 := List.mem_of_getElem? (i := 19) rfl
theorem sl20 : ((RX3, 322, "there is no such owner") : String × Nat × String) ∈ SL0 := List.mem_of_getElem? (i := 20) rfl
theorem sl21 : ((RX3, 327, "there is no such file") : String × Nat × String) ∈ SL0 := List.mem_of_getElem? (i := 21) rfl
theorem sl22 : ((RX3, 332, "there is no such place") : String × Nat × String) ∈ SL0 := List.mem_of_getElem? (i := 22) rfl
theorem sl23 : ((RX3, 337, "there is no such block") : String × Nat × String) ∈ SL0 := List.mem_of_getElem? (i := 23) rfl
theorem sl24 : ((RX3, 342, "there has been no such snapshot") : String × Nat × String) ∈ SL0 := List.mem_of_getElem? (i := 24) rfl
theorem sl25 : ((RX3, 348, "the snapshot is not kept or lacks the file") : String × Nat × String) ∈ SL0 := List.mem_of_getElem? (i := 25) rfl
theorem sl26 : ((RX3, 353, "there is no such hold") : String × Nat × String) ∈ SL0 := List.mem_of_getElem? (i := 26) rfl
theorem sl27 : ((RX3, 355, "the file has no links") : String × Nat × String) ∈ SL0 := List.mem_of_getElem? (i := 27) rfl
theorem sl28 : ((RX3, 357, "a transaction is open") : String × Nat × String) ∈ SL0 := List.mem_of_getElem? (i := 28) rfl
theorem sl29 : ((RX3, 360, "no block is free for the owner") : String × Nat × String) ∈ SL0 := List.mem_of_getElem? (i := 29) rfl
theorem sl30 : ((RX3, 362, "there is a hole or the file is gone") : String × Nat × String) ∈ SL0 := List.mem_of_getElem? (i := 30) rfl
theorem sl31 : ((RJx00060, 13, "Array index out of range: ") : String × Nat × String) ∈ SL0 := List.mem_of_getElem? (i := 31) rfl
theorem sl32 : ((RJx7c733, 13, "String index out of range: ") : String × Nat × String) ∈ SL0 := List.mem_of_getElem? (i := 32) rfl
theorem sl33 : ((RJ7, 48, "fromIndex(") : String × Nat × String) ∈ SL0 := List.mem_of_getElem? (i := 33) rfl
theorem sl34 : ((RJ7, 57, ") > toIndex(") : String × Nat × String) ∈ SL0 := List.mem_of_getElem? (i := 34) rfl
theorem sl35 : ((RJ7, 59, ")") : String × Nat × String) ∈ SL0 := List.mem_of_getElem? (i := 35) rfl
theorem sl36 : ((RJ7, 337, " > ") : String × Nat × String) ∈ SL0 := List.mem_of_getElem? (i := 36) rfl
theorem at73 : (vx_atS RX3 73 "java/lang/IllegalStateException" XL).all (fun w => decide (w ∈ lw_tbl) && (goodWord w || (nwW w && w.onTables))) = true := by decide +kernel
theorem at175 : (vx_atS RX3 175 "java/lang/UnsupportedOperationException" XL).all (fun w => decide (w ∈ lw_tbl) && (goodWord w || (nwW w && w.onTables))) = true := by decide +kernel
theorem at214 : (nx_at RX3 214).all (fun w => decide (w ∈ lw_tbl) && (goodWord w || (nwW w && w.onTables))) = true := by decide +kernel
theorem at283 : (vx_atS RX3 283 "java/lang/IndexOutOfBoundsException" XL).all (fun w => decide (w ∈ lw_tbl) && (goodWord w || (nwW w && w.onTables))) = true := by decide +kernel
theorem at321 : (vx_atS RX3 321 "java/lang/IllegalArgumentException" XL).all (fun w => decide (w ∈ lw_tbl) && (goodWord w || (nwW w && w.onTables))) = true := by decide +kernel
end
