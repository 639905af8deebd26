/-! THE START (printed by program, gen78.py) -/
section START
variable {args : Array Value} {s : State}
theorem fl_at {w : Cond} (j : Nat) (h : (flatC (Jvm.Cond.and given_1 narrow_1))[j]? = some w) (ht : (Jvm.Cond.and given_1 narrow_1).before args s = true) : w.before args s = true := flat_of_before _ ht _ (List.mem_of_getElem? h)
theorem st_arr {ty : FieldType} (h : (Cond.arrayClass ty).before args s = true) : ∃ cA : ClassId, ArrOfT s cA ty ∧ s.vm.findClass ("[" ++ ty.toString) = some cA := by
  obtain ⟨c, k, comp, h1, h2, h3⟩ := Cond.arrayClass_spec (args := args) (first := s) (o := none) (s := s) (idx := []) h
  exact ⟨c, fun n z => ⟨fun k h => (by cases h), k, h2, comp, h3⟩, h1⟩
theorem st_ao {t : FieldType} (h : (Cond.arrayOver (.array t)).before args s = true) : ∃ cA : ClassId, ArrOfT s cA (.array t) ∧ s.vm.findClass ("[" ++ (FieldType.array t).toString) = some cA := by
  obtain ⟨comp, c, k, h1, h2, h3, h4, h5⟩ := arrayOverA_spec (args := args) (first := s) (o := none) (s := s) (idx := []) h
  exact ⟨c, fun n z => ⟨fun k h => (by cases h), k, h3, comp, h4⟩, h5⟩
theorem st_str {own tx : String} {k : Nat} (h1 : (Cond.stringRef own k tx).before args s = true) (h2 : (Cond.exactly (.string own k) "java/lang/String").before args s = true) : ∃ a : Nat, vk_R own k tx a s := by
  obtain ⟨a, c, cell, kk, q1, -⟩ := Cond.exactly_spec (args := args) (first := s) (o := none) (s := s) (idx := []) h2
  exact ⟨a, vk_R.of (A := args) h1 q1⟩
theorem nw_of {w : Cond} (g : nwW w = true) (h : w.before args s = true) : va_Nw w s := by
  cases w with
  | arrayOver t =>
    cases t with
    | array t => exact ao_alike (Vm.Alike.refl _) h
    | _ => simp [nwW] at g
  | _ => first | exact va_Nw.of rfl h | (simp [nwW] at g)
theorem st_i0 : lw_tbl[477]? = some (Cond.instantiable RJ0 4) := by decide +kernel
theorem st_i1 : lw_tbl[169]? = some (Cond.instantiable RJ4 4) := by decide +kernel
theorem st_i2 : lw_tbl[459]? = some (Cond.instantiable RJx00060 6) := by decide +kernel
theorem st_i3 : lw_tbl[1035]? = some (Cond.instantiable RJx7c733 6) := by decide +kernel
theorem st_i4 : lw_tbl[150]? = some (Cond.instantiable RX0 4) := by decide +kernel
theorem st_i5 : lw_tbl[118]? = some (Cond.instantiable RX1 7) := by decide +kernel
theorem st_i6 : lw_tbl[79]? = some (Cond.instantiable RX2 9) := by decide +kernel
theorem st_i7 : lw_tbl[71]? = some (Cond.instantiable RX3 11) := by decide +kernel
theorem st_i8 : lw_tbl[1323]? = some (Cond.instantiable RX4 29) := by decide +kernel
theorem st_c2_0 : lw_tbl[466]? = some (Cond.lays RJx00060 "java/lang/Throwable" "backtrace" "Ljava/lang/Object;") := by decide +kernel
theorem st_c2_1 : lw_tbl[467]? = some (Cond.lays RJx00060 "java/lang/Throwable" "detailMessage" "Ljava/lang/String;") := by decide +kernel
theorem st_c2_2 : lw_tbl[468]? = some (Cond.lays RJx00060 "java/lang/Throwable" "cause" "Ljava/lang/Throwable;") := by decide +kernel
theorem st_c2_3 : lw_tbl[469]? = some (Cond.lays RJx00060 "java/lang/Throwable" "stackTrace" "[Ljava/lang/StackTraceElement;") := by decide +kernel
theorem st_c2_4 : lw_tbl[470]? = some (Cond.lays RJx00060 "java/lang/Throwable" "depth" "I") := by decide +kernel
theorem st_c2_5 : lw_tbl[471]? = some (Cond.lays RJx00060 "java/lang/Throwable" "suppressedExceptions" "Ljava/util/List;") := by decide +kernel
theorem st_in2 : ∀ w ∈ u_ws RJx00060 TJx00060 6, w ∈ lw_tbl := by
  have h : u_ws RJx00060 TJx00060 6 = [Cond.lays RJx00060 "java/lang/Throwable" "backtrace" "Ljava/lang/Object;", Cond.lays RJx00060 "java/lang/Throwable" "detailMessage" "Ljava/lang/String;", Cond.lays RJx00060 "java/lang/Throwable" "cause" "Ljava/lang/Throwable;", Cond.lays RJx00060 "java/lang/Throwable" "stackTrace" "[Ljava/lang/StackTraceElement;", Cond.lays RJx00060 "java/lang/Throwable" "depth" "I", Cond.lays RJx00060 "java/lang/Throwable" "suppressedExceptions" "Ljava/util/List;"] := rfl
  rw [h]
  exact List.forall_mem_cons.mpr ⟨List.mem_of_getElem? st_c2_0, List.forall_mem_cons.mpr ⟨List.mem_of_getElem? st_c2_1, List.forall_mem_cons.mpr ⟨List.mem_of_getElem? st_c2_2, List.forall_mem_cons.mpr ⟨List.mem_of_getElem? st_c2_3, List.forall_mem_cons.mpr ⟨List.mem_of_getElem? st_c2_4, List.forall_mem_cons.mpr ⟨List.mem_of_getElem? st_c2_5, fun _ h => absurd h List.not_mem_nil⟩⟩⟩⟩⟩⟩
theorem st_c3_0 : lw_tbl[1247]? = some (Cond.lays RJx7c733 "java/lang/Throwable" "backtrace" "Ljava/lang/Object;") := by decide +kernel
theorem st_c3_1 : lw_tbl[1248]? = some (Cond.lays RJx7c733 "java/lang/Throwable" "detailMessage" "Ljava/lang/String;") := by decide +kernel
theorem st_c3_2 : lw_tbl[1249]? = some (Cond.lays RJx7c733 "java/lang/Throwable" "cause" "Ljava/lang/Throwable;") := by decide +kernel
theorem st_c3_3 : lw_tbl[1250]? = some (Cond.lays RJx7c733 "java/lang/Throwable" "stackTrace" "[Ljava/lang/StackTraceElement;") := by decide +kernel
theorem st_c3_4 : lw_tbl[1251]? = some (Cond.lays RJx7c733 "java/lang/Throwable" "depth" "I") := by decide +kernel
theorem st_c3_5 : lw_tbl[1252]? = some (Cond.lays RJx7c733 "java/lang/Throwable" "suppressedExceptions" "Ljava/util/List;") := by decide +kernel
theorem st_in3 : ∀ w ∈ u_ws RJx7c733 TJx7c733 6, w ∈ lw_tbl := by
  have h : u_ws RJx7c733 TJx7c733 6 = [Cond.lays RJx7c733 "java/lang/Throwable" "backtrace" "Ljava/lang/Object;", Cond.lays RJx7c733 "java/lang/Throwable" "detailMessage" "Ljava/lang/String;", Cond.lays RJx7c733 "java/lang/Throwable" "cause" "Ljava/lang/Throwable;", Cond.lays RJx7c733 "java/lang/Throwable" "stackTrace" "[Ljava/lang/StackTraceElement;", Cond.lays RJx7c733 "java/lang/Throwable" "depth" "I", Cond.lays RJx7c733 "java/lang/Throwable" "suppressedExceptions" "Ljava/util/List;"] := rfl
  rw [h]
  exact List.forall_mem_cons.mpr ⟨List.mem_of_getElem? st_c3_0, List.forall_mem_cons.mpr ⟨List.mem_of_getElem? st_c3_1, List.forall_mem_cons.mpr ⟨List.mem_of_getElem? st_c3_2, List.forall_mem_cons.mpr ⟨List.mem_of_getElem? st_c3_3, List.forall_mem_cons.mpr ⟨List.mem_of_getElem? st_c3_4, List.forall_mem_cons.mpr ⟨List.mem_of_getElem? st_c3_5, fun _ h => absurd h List.not_mem_nil⟩⟩⟩⟩⟩⟩
theorem st_a0 : lw_tbl[115]? = some (Cond.arrayClass .int) := by decide +kernel
theorem st_a1 : lw_tbl[116]? = some (Cond.arrayClass .boolean) := by decide +kernel
theorem st_a2 : lw_tbl[148]? = some (Cond.arrayClass .char) := by decide +kernel
theorem st_a3 : lw_tbl[200]? = some (Cond.arrayClass .byte) := by decide +kernel
theorem st_a4 : lw_tbl[125]? = some (Cond.arrayOver (.array .int)) := by decide +kernel
theorem st_a5 : lw_tbl[1685]? = some (Cond.arrayClass .long) := by decide +kernel
theorem st_a6 : lw_tbl[1686]? = some (Cond.arrayClass .double) := by decide +kernel
theorem st_K (htl : ∀ w ∈ lw_tbl, w.before args s = true) : ∃ (D : va_G) (ca : Nat → ClassId), va_K D vwCl (tyL ca) s := by
  have hts := WW_tbl htl
  obtain ⟨c0, i0, k0⟩ := u_known (C := RJ0) (T := TJ0) (N := 4) (n := 4) hts inJ0 (tb_at _ st_i0 htl)
  obtain ⟨c1, i1, k1⟩ := u_known (C := RJ4) (T := TJ4) (N := 4) (n := 4) hts inJ4 (tb_at _ st_i1 htl)
  obtain ⟨c2, i2, k2⟩ := u_known (C := RJx00060) (T := TJx00060) (N := 6) (n := 6) htl st_in2 (tb_at _ st_i2 htl)
  obtain ⟨c3, i3, k3⟩ := u_known (C := RJx7c733) (T := TJx7c733) (N := 6) (n := 6) htl st_in3 (tb_at _ st_i3 htl)
  obtain ⟨c4, i4, k4⟩ := u_known (C := RX0) (T := TX0) (N := 4) (n := 4) hts inX0 (tb_at _ st_i4 htl)
  obtain ⟨c5, i5, k5⟩ := u_known (C := RX1) (T := TX1) (N := 7) (n := 7) hts inX1 (tb_at _ st_i5 htl)
  obtain ⟨c6, i6, k6⟩ := u_known (C := RX2) (T := TX2) (N := 9) (n := 9) hts inX2 (tb_at _ st_i6 htl)
  obtain ⟨c7, i7, k7⟩ := u_known (C := RX3) (T := TX3) (N := 11) (n := 11) hts inX3 (tb_at _ st_i7 htl)
  obtain ⟨c8, i8, k8⟩ := u_known (C := RX4) (T := TX4) (N := 29) (n := 29) hts inX4 (tb_at _ st_i8 htl)
  obtain ⟨a0, r0, f0⟩ := st_arr (tb_at _ st_a0 htl)
  obtain ⟨a1, r1, f1⟩ := st_arr (tb_at _ st_a1 htl)
  obtain ⟨a2, r2, f2⟩ := st_arr (tb_at _ st_a2 htl)
  obtain ⟨a3, r3, f3⟩ := st_arr (tb_at _ st_a3 htl)
  obtain ⟨a4, r4, f4⟩ := st_ao (tb_at _ st_a4 htl)
  obtain ⟨a5, r5, f5⟩ := st_arr (tb_at _ st_a5 htl)
  obtain ⟨a6, r6, f6⟩ := st_arr (tb_at _ st_a6 htl)
  refine ⟨(fun k => [c0, c1, c2, c3, c4, c5, c6, c7, c8].getD k c0, fun k => [i0, i1, i2, i3, i4, i5, i6, i7, i8].getD k i0), fun k => [a0, a1, a2, a3, a4, a5, a6].getD k a0, fun c q hq => ?_, fun k q hq => ?_⟩
  · match c, hq with
    | 0, hq => cases hq; exact k0
    | 1, hq => cases hq; exact k1
    | 2, hq => cases hq; exact k2
    | 3, hq => cases hq; exact k3
    | 4, hq => cases hq; exact k4
    | 5, hq => cases hq; exact k5
    | 6, hq => cases hq; exact k6
    | 7, hq => cases hq; exact k7
    | 8, hq => cases hq; exact k8
    | k + 9, hq => simp [vwCl] at hq
  · match k, hq with
    | 0, hq => cases hq; exact ⟨r0, f0⟩
    | 1, hq => cases hq; exact ⟨r1, f1⟩
    | 2, hq => cases hq; exact ⟨r2, f2⟩
    | 3, hq => cases hq; exact ⟨r3, f3⟩
    | 4, hq => cases hq; exact ⟨r4, f4⟩
    | 5, hq => cases hq; exact ⟨r5, f5⟩
    | 6, hq => cases hq; exact ⟨r6, f6⟩
    | k + 7, hq => simp [tyL] at hq
theorem st_t0 : lw_tbl[454]? = some (Cond.stringRef RX3 71 "there are 4 owners") := by decide +kernel
theorem st_x0 : (flatC (Jvm.Cond.and given_1 narrow_1))[354]? = some (Cond.exactly (.string RX3 71) "java/lang/String") := by decide +kernel
theorem st_t1 : lw_tbl[503]? = some (Cond.stringRef RX3 84 "there have been 40 files") := by decide +kernel
theorem st_x1 : (flatC (Jvm.Cond.and given_1 narrow_1))[402]? = some (Cond.exactly (.string RX3 84) "java/lang/String") := by decide +kernel
theorem st_t2 : lw_tbl[552]? = some (Cond.stringRef RX3 107 "the file has 9 links") := by decide +kernel
theorem st_x2 : (flatC (Jvm.Cond.and given_1 narrow_1))[480]? = some (Cond.exactly (.string RX3 107) "java/lang/String") := by decide +kernel
theorem st_t3 : lw_tbl[677]? = some (Cond.stringRef RX3 141 "there is a hole") := by decide +kernel
theorem st_x3 : (flatC (Jvm.Cond.and given_1 narrow_1))[594]? = some (Cond.exactly (.string RX3 141) "java/lang/String") := by decide +kernel
theorem st_t4 : lw_tbl[757]? = some (Cond.stringRef RX3 173 "so many more blocks are not free") := by decide +kernel
theorem st_x4 : (flatC (Jvm.Cond.and given_1 narrow_1))[678]? = some (Cond.exactly (.string RX3 173) "java/lang/String") := by decide +kernel
theorem st_t5 : lw_tbl[773]? = some (Cond.stringRef RX3 182 "no blocks were promised") := by decide +kernel
theorem st_x5 : (flatC (Jvm.Cond.and given_1 narrow_1))[714]? = some (Cond.exactly (.string RX3 182) "java/lang/String") := by decide +kernel
theorem st_t6 : lw_tbl[785]? = some (Cond.stringRef RX3 187 "8 snapshots are kept") := by decide +kernel
theorem st_x6 : (flatC (Jvm.Cond.and given_1 narrow_1))[741]? = some (Cond.exactly (.string RX3 187) "java/lang/String") := by decide +kernel
theorem st_t7 : lw_tbl[790]? = some (Cond.stringRef RX3 192 "there have been 30 snapshots") := by decide +kernel
theorem st_x7 : (flatC (Jvm.Cond.and given_1 narrow_1))[765]? = some (Cond.exactly (.string RX3 192) "java/lang/String") := by decide +kernel
theorem st_t8 : lw_tbl[849]? = some (Cond.stringRef RX3 212 "there was a hole") := by decide +kernel
theorem st_x8 : (flatC (Jvm.Cond.and given_1 narrow_1))[878]? = some (Cond.exactly (.string RX3 212) "java/lang/String") := by decide +kernel
theorem st_t9 : lw_tbl[874]? = some (Cond.stringRef RX3 227 "no snapshot is kept") := by decide +kernel
theorem st_x9 : (flatC (Jvm.Cond.and given_1 narrow_1))[898]? = some (Cond.exactly (.string RX3 227) "java/lang/String") := by decide +kernel
theorem st_t10 : lw_tbl[641]? = some (Cond.stringRef RX3 235 "more blocks than the quota") := by decide +kernel
theorem st_x10 : (flatC (Jvm.Cond.and given_1 narrow_1))[530]? = some (Cond.exactly (.string RX3 235) "java/lang/String") := by decide +kernel
theorem st_t11 : lw_tbl[894]? = some (Cond.stringRef RX3 237 "the file does not exist") := by decide +kernel
theorem st_x11 : (flatC (Jvm.Cond.and given_1 narrow_1))[921]? = some (Cond.exactly (.string RX3 237) "java/lang/String") := by decide +kernel
theorem st_t12 : lw_tbl[899]? = some (Cond.stringRef RX3 242 "there have been 30 holds") := by decide +kernel
theorem st_x12 : (flatC (Jvm.Cond.and given_1 narrow_1))[948]? = some (Cond.exactly (.string RX3 242) "java/lang/String") := by decide +kernel
theorem st_t13 : lw_tbl[917]? = some (Cond.stringRef RX3 252 "the hold is not open") := by decide +kernel
theorem st_x13 : (flatC (Jvm.Cond.and given_1 narrow_1))[1001]? = some (Cond.exactly (.string RX3 252) "java/lang/String") := by decide +kernel
theorem st_t14 : lw_tbl[955]? = some (Cond.stringRef RX3 263 "no hold is open") := by decide +kernel
theorem st_x14 : (flatC (Jvm.Cond.and given_1 narrow_1))[1025]? = some (Cond.exactly (.string RX3 263) "java/lang/String") := by decide +kernel
theorem st_t15 : lw_tbl[963]? = some (Cond.stringRef RX3 265 "the day would be greater than 9999") := by decide +kernel
theorem st_x15 : (flatC (Jvm.Cond.and given_1 narrow_1))[1044]? = some (Cond.exactly (.string RX3 265) "java/lang/String") := by decide +kernel
theorem st_t16 : lw_tbl[979]? = some (Cond.stringRef RX3 277 "no transaction is open") := by decide +kernel
theorem st_x16 : (flatC (Jvm.Cond.and given_1 narrow_1))[1082]? = some (Cond.exactly (.string RX3 277) "java/lang/String") := by decide +kernel
theorem st_t17 : lw_tbl[987]? = some (Cond.stringRef RX3 281 "there is no such entry") := by decide +kernel
theorem st_x17 : (flatC (Jvm.Cond.and given_1 narrow_1))[1108]? = some (Cond.exactly (.string RX3 281) "java/lang/String") := by decide +kernel
theorem st_t18 : lw_tbl[1010]? = some (Cond.stringRef RX3 286 "all blocks are free") := by decide +kernel
theorem st_x18 : (flatC (Jvm.Cond.and given_1 narrow_1))[1134]? = some (Cond.exactly (.string RX3 286) "java/lang/String") := by decide +kernel
theorem st_t19 : lw_tbl[1019]? = some (Cond.stringRef RX3 289 "no file exists") := by decide +kernel
theorem st_x19 : (flatC (Jvm.Cond.and given_1 narrow_1))[1157]? = some (Cond.exactly (.string RX3 289) "java/lang/String") := by decide +kernel
theorem st_t20 : lw_tbl[1311]? = some (Cond.stringRef RX3 311 "there is no such character") := by decide +kernel
theorem st_x20 : (flatC (Jvm.Cond.and given_1 narrow_1))[1278]? = some (Cond.exactly (.string RX3 311) "java/lang/String") := by decide +kernel
theorem st_t21 : lw_tbl[408]? = some (Cond.stringRef RX3 319 "the number is out of range") := by decide +kernel
theorem st_x21 : (flatC (Jvm.Cond.and given_1 narrow_1))[299]? = some (Cond.exactly (.string RX3 319) "java/lang/String") := by decide +kernel
theorem st_t22 : lw_tbl[499]? = some (Cond.stringRef RX3 322 "there is no such owner") := by decide +kernel
theorem st_x22 : (flatC (Jvm.Cond.and given_1 narrow_1))[376]? = some (Cond.exactly (.string RX3 322) "java/lang/String") := by decide +kernel
theorem st_t23 : lw_tbl[528]? = some (Cond.stringRef RX3 327 "there is no such file") := by decide +kernel
theorem st_x23 : (flatC (Jvm.Cond.and given_1 narrow_1))[430]? = some (Cond.exactly (.string RX3 327) "java/lang/String") := by decide +kernel
theorem st_t24 : lw_tbl[602]? = some (Cond.stringRef RX3 332 "there is no such place") := by decide +kernel
theorem st_x24 : (flatC (Jvm.Cond.and given_1 narrow_1))[504]? = some (Cond.exactly (.string RX3 332) "java/lang/String") := by decide +kernel
theorem st_t25 : lw_tbl[742]? = some (Cond.stringRef RX3 337 "there is no such block") := by decide +kernel
theorem st_x25 : (flatC (Jvm.Cond.and given_1 narrow_1))[652]? = some (Cond.exactly (.string RX3 337) "java/lang/String") := by decide +kernel
theorem st_t26 : lw_tbl[821]? = some (Cond.stringRef RX3 342 "there has been no such snapshot") := by decide +kernel
theorem st_x26 : (flatC (Jvm.Cond.and given_1 narrow_1))[797]? = some (Cond.exactly (.string RX3 342) "java/lang/String") := by decide +kernel
theorem st_t27 : lw_tbl[843]? = some (Cond.stringRef RX3 348 "the snapshot is not kept or lacks the file") := by decide +kernel
theorem st_x27 : (flatC (Jvm.Cond.and given_1 narrow_1))[832]? = some (Cond.exactly (.string RX3 348) "java/lang/String") := by decide +kernel
theorem st_t28 : lw_tbl[916]? = some (Cond.stringRef RX3 353 "there is no such hold") := by decide +kernel
theorem st_x28 : (flatC (Jvm.Cond.and given_1 narrow_1))[976]? = some (Cond.exactly (.string RX3 353) "java/lang/String") := by decide +kernel
theorem st_t29 : lw_tbl[551]? = some (Cond.stringRef RX3 355 "the file has no links") := by decide +kernel
theorem st_x29 : (flatC (Jvm.Cond.and given_1 narrow_1))[455]? = some (Cond.exactly (.string RX3 355) "java/lang/String") := by decide +kernel
theorem st_t30 : lw_tbl[447]? = some (Cond.stringRef RX3 357 "a transaction is open") := by decide +kernel
theorem st_x30 : (flatC (Jvm.Cond.and given_1 narrow_1))[329]? = some (Cond.exactly (.string RX3 357) "java/lang/String") := by decide +kernel
theorem st_t31 : lw_tbl[652]? = some (Cond.stringRef RX3 360 "no block is free for the owner") := by decide +kernel
theorem st_x31 : (flatC (Jvm.Cond.and given_1 narrow_1))[560]? = some (Cond.exactly (.string RX3 360) "java/lang/String") := by decide +kernel
theorem st_t32 : lw_tbl[699]? = some (Cond.stringRef RX3 362 "there is a hole or the file is gone") := by decide +kernel
theorem st_x32 : (flatC (Jvm.Cond.and given_1 narrow_1))[613]? = some (Cond.exactly (.string RX3 362) "java/lang/String") := by decide +kernel
theorem st_t33 : lw_tbl[1328]? = some (Cond.stringRef RX4 66 "") := by decide +kernel
theorem st_x33 : (flatC (Jvm.Cond.and given_1 narrow_1))[1308]? = some (Cond.exactly (.string RX4 66) "java/lang/String") := by decide +kernel
theorem st_t34 : lw_tbl[1272]? = some (Cond.stringRef RJx00060 13 "Array index out of range: ") := by decide +kernel
theorem st_x34 : (flatC (Jvm.Cond.and given_1 narrow_1))[1248]? = some (Cond.exactly (.string RJx00060 13) "java/lang/String") := by decide +kernel
theorem st_t35 : lw_tbl[1041]? = some (Cond.stringRef RJx7c733 13 "String index out of range: ") := by decide +kernel
theorem st_x35 : (flatC (Jvm.Cond.and given_1 narrow_1))[1175]? = some (Cond.exactly (.string RJx7c733 13) "java/lang/String") := by decide +kernel
theorem st_t36 : lw_tbl[1263]? = some (Cond.stringRef RJ7 48 "fromIndex(") := by decide +kernel
theorem st_x36 : (flatC (Jvm.Cond.and given_1 narrow_1))[1213]? = some (Cond.exactly (.string RJ7 48) "java/lang/String") := by decide +kernel
theorem st_t37 : lw_tbl[1264]? = some (Cond.stringRef RJ7 57 ") > toIndex(") := by decide +kernel
theorem st_x37 : (flatC (Jvm.Cond.and given_1 narrow_1))[1227]? = some (Cond.exactly (.string RJ7 57) "java/lang/String") := by decide +kernel
theorem st_t38 : lw_tbl[1265]? = some (Cond.stringRef RJ7 59 ")") := by decide +kernel
theorem st_x38 : (flatC (Jvm.Cond.and given_1 narrow_1))[1243]? = some (Cond.exactly (.string RJ7 59) "java/lang/String") := by decide +kernel
theorem st_t39 : lw_tbl[1222]? = some (Cond.stringRef RJ7 337 " > ") := by decide +kernel
theorem st_x39 : (flatC (Jvm.Cond.and given_1 narrow_1))[1206]? = some (Cond.exactly (.string RJ7 337) "java/lang/String") := by decide +kernel
theorem st_E (htl : ∀ w ∈ lw_tbl, w.before args s = true) (hgv : (Jvm.Cond.and given_1 narrow_1).before args s = true) : ∃ (D : va_G) (ca : Nat → ClassId), EE D ca SL0 s := by
  obtain ⟨D, ca, hK⟩ := st_K htl
  refine ⟨D, ca, hK, fun w hw => nw_of (List.mem_filter.mp hw).2 (htl w (List.mem_filter.mp hw).1), ?_⟩
  unfold SL0
  exact List.forall_mem_cons.mpr ⟨st_str (tb_at _ st_t0 htl) (fl_at _ st_x0 hgv), List.forall_mem_cons.mpr ⟨st_str (tb_at _ st_t1 htl) (fl_at _ st_x1 hgv), List.forall_mem_cons.mpr ⟨st_str (tb_at _ st_t2 htl) (fl_at _ st_x2 hgv), List.forall_mem_cons.mpr ⟨st_str (tb_at _ st_t3 htl) (fl_at _ st_x3 hgv), List.forall_mem_cons.mpr ⟨st_str (tb_at _ st_t4 htl) (fl_at _ st_x4 hgv), List.forall_mem_cons.mpr ⟨st_str (tb_at _ st_t5 htl) (fl_at _ st_x5 hgv), List.forall_mem_cons.mpr ⟨st_str (tb_at _ st_t6 htl) (fl_at _ st_x6 hgv), List.forall_mem_cons.mpr ⟨st_str (tb_at _ st_t7 htl) (fl_at _ st_x7 hgv), List.forall_mem_cons.mpr ⟨st_str (tb_at _ st_t8 htl) (fl_at _ st_x8 hgv), List.forall_mem_cons.mpr ⟨st_str (tb_at _ st_t9 htl) (fl_at _ st_x9 hgv), List.forall_mem_cons.mpr ⟨st_str (tb_at _ st_t10 htl) (fl_at _ st_x10 hgv), List.forall_mem_cons.mpr ⟨st_str (tb_at _ st_t11 htl) (fl_at _ st_x11 hgv), List.forall_mem_cons.mpr ⟨st_str (tb_at _ st_t12 htl) (fl_at _ st_x12 hgv), List.forall_mem_cons.mpr ⟨st_str (tb_at _ st_t13 htl) (fl_at _ st_x13 hgv), List.forall_mem_cons.mpr ⟨st_str (tb_at _ st_t14 htl) (fl_at _ st_x14 hgv), List.forall_mem_cons.mpr ⟨st_str (tb_at _ st_t15 htl) (fl_at _ st_x15 hgv), List.forall_mem_cons.mpr ⟨st_str (tb_at _ st_t16 htl) (fl_at _ st_x16 hgv), List.forall_mem_cons.mpr ⟨st_str (tb_at _ st_t17 htl) (fl_at _ st_x17 hgv), List.forall_mem_cons.mpr ⟨st_str (tb_at _ st_t18 htl) (fl_at _ st_x18 hgv), List.forall_mem_cons.mpr ⟨st_str (tb_at _ st_t19 htl) (fl_at _ st_x19 hgv), List.forall_mem_cons.mpr ⟨st_str (tb_at _ st_t20 htl) (fl_at _ st_x20 hgv), List.forall_mem_cons.mpr ⟨st_str (tb_at _ st_t21 htl) (fl_at _ st_x21 hgv), List.forall_mem_cons.mpr ⟨st_str (tb_at _ st_t22 htl) (fl_at _ st_x22 hgv), List.forall_mem_cons.mpr ⟨st_str (tb_at _ st_t23 htl) (fl_at _ st_x23 hgv), List.forall_mem_cons.mpr ⟨st_str (tb_at _ st_t24 htl) (fl_at _ st_x24 hgv), List.forall_mem_cons.mpr ⟨st_str (tb_at _ st_t25 htl) (fl_at _ st_x25 hgv), List.forall_mem_cons.mpr ⟨st_str (tb_at _ st_t26 htl) (fl_at _ st_x26 hgv), List.forall_mem_cons.mpr ⟨st_str (tb_at _ st_t27 htl) (fl_at _ st_x27 hgv), List.forall_mem_cons.mpr ⟨st_str (tb_at _ st_t28 htl) (fl_at _ st_x28 hgv), List.forall_mem_cons.mpr ⟨st_str (tb_at _ st_t29 htl) (fl_at _ st_x29 hgv), List.forall_mem_cons.mpr ⟨st_str (tb_at _ st_t30 htl) (fl_at _ st_x30 hgv), List.forall_mem_cons.mpr ⟨st_str (tb_at _ st_t31 htl) (fl_at _ st_x31 hgv), List.forall_mem_cons.mpr ⟨st_str (tb_at _ st_t32 htl) (fl_at _ st_x32 hgv), List.forall_mem_cons.mpr ⟨st_str (tb_at _ st_t33 htl) (fl_at _ st_x33 hgv), List.forall_mem_cons.mpr ⟨st_str (tb_at _ st_t34 htl) (fl_at _ st_x34 hgv), List.forall_mem_cons.mpr ⟨st_str (tb_at _ st_t35 htl) (fl_at _ st_x35 hgv), List.forall_mem_cons.mpr ⟨st_str (tb_at _ st_t36 htl) (fl_at _ st_x36 hgv), List.forall_mem_cons.mpr ⟨st_str (tb_at _ st_t37 htl) (fl_at _ st_x37 hgv), List.forall_mem_cons.mpr ⟨st_str (tb_at _ st_t38 htl) (fl_at _ st_x38 hgv), List.forall_mem_cons.mpr ⟨st_str (tb_at _ st_t39 htl) (fl_at _ st_x39 hgv), fun _ h => absurd h List.not_mem_nil⟩⟩⟩⟩⟩⟩⟩⟩⟩⟩⟩⟩⟩⟩⟩⟩⟩⟩⟩⟩⟩⟩⟩⟩⟩⟩⟩⟩⟩⟩⟩⟩⟩⟩⟩⟩⟩⟩⟩⟩
theorem st_lU : lw_tbl[389]? = some (Cond.laysStatic "java/lang/Throwable" "UNASSIGNED_STACK" "[Ljava/lang/StackTraceElement;") := by decide +kernel
theorem st_lS : lw_tbl[391]? = some (Cond.laysStatic "java/lang/Throwable" "SUPPRESSED_SENTINEL" "Ljava/util/List;") := by decide +kernel
theorem st_lC : lw_tbl[178]? = some (Cond.laysStatic "java/lang/String" "COMPACT_STRINGS" "Z") := by decide +kernel
theorem st_lF : lw_tbl[1102]? = some (Cond.laysStatic "jdk/internal/util/Preconditions" "SIOOBE_FORMATTER" "Ljava/util/function/BiFunction;") := by decide +kernel
theorem st_lO : lw_tbl[1172]? = some (Cond.laysStatic "java/lang/Integer" "DigitOnes" "[B") := by decide +kernel
theorem st_lT : lw_tbl[1174]? = some (Cond.laysStatic "java/lang/Integer" "DigitTens" "[B") := by decide +kernel
theorem st_nT : lw_tbl[51]? = some (Cond.initialized "java/lang/Throwable") := by decide +kernel
theorem st_nS : lw_tbl[48]? = some (Cond.initialized "java/lang/String") := by decide +kernel
theorem st_nP : lw_tbl[67]? = some (Cond.initialized "jdk/internal/util/Preconditions") := by decide +kernel
theorem st_nI : lw_tbl[69]? = some (Cond.initialized "java/lang/Integer") := by decide +kernel
theorem st_rU : (flatC (Jvm.Cond.and given_1 narrow_1))[5]? = some (Cond.isRef (.static "java/lang/Throwable" "UNASSIGNED_STACK" "[Ljava/lang/StackTraceElement;")) := by decide +kernel
theorem st_rS : (flatC (Jvm.Cond.and given_1 narrow_1))[6]? = some (Cond.isRef (.static "java/lang/Throwable" "SUPPRESSED_SENTINEL" "Ljava/util/List;")) := by decide +kernel
theorem st_rF : (flatC (Jvm.Cond.and given_1 narrow_1))[7]? = some (Cond.isRef (.static "jdk/internal/util/Preconditions" "SIOOBE_FORMATTER" "Ljava/util/function/BiFunction;")) := by decide +kernel
theorem st_cs : (flatC (Jvm.Cond.and given_1 narrow_1))[4]? = some (Cond.eq (.static "java/lang/String" "COMPACT_STRINGS" "Z") (.int 1)) := by decide +kernel
theorem st_yO : (flatC (Jvm.Cond.and given_1 narrow_1))[12]? = some (Cond.arrayOf (.static "java/lang/Integer" "DigitOnes" "[B") .byte) := by decide +kernel
theorem st_zO : (flatC (Jvm.Cond.and given_1 narrow_1))[13]? = some (Cond.eq (.length (.static "java/lang/Integer" "DigitOnes" "[B")) (.int 100)) := by decide +kernel
set_option maxRecDepth 100000 in
theorem st_eO : ∀ j : Fin 100, (flatC (Jvm.Cond.and given_1 narrow_1))[14 + j.val]? = some (Cond.eq (.elem (.static "java/lang/Integer" "DigitOnes" "[B") (.int (Int32.ofNat j.val))) (.int (nI (48 + j.val % 10)))) := by decide +kernel
theorem st_yT : (flatC (Jvm.Cond.and given_1 narrow_1))[115]? = some (Cond.arrayOf (.static "java/lang/Integer" "DigitTens" "[B") .byte) := by decide +kernel
theorem st_zT : (flatC (Jvm.Cond.and given_1 narrow_1))[116]? = some (Cond.eq (.length (.static "java/lang/Integer" "DigitTens" "[B")) (.int 100)) := by decide +kernel
set_option maxRecDepth 100000 in
theorem st_eT : ∀ j : Fin 100, (flatC (Jvm.Cond.and given_1 narrow_1))[117 + j.val]? = some (Cond.eq (.elem (.static "java/lang/Integer" "DigitTens" "[B") (.int (Int32.ofNat j.val))) (.int (nI (48 + j.val / 10)))) := by decide +kernel
theorem st_Z {A : Nat → Prop} (htl : ∀ w ∈ lw_tbl, w.before args s = true) (hgv : (Jvm.Cond.and given_1 narrow_1).before args s = true) (hA : ∀ a : Nat, a < s.heap.size → ¬ A a) : ZZ A s s.heap := by
  obtain ⟨t1, e1, T1⟩ := va_Tof (A := A) (f := dg1) (N := 100) (by omega) (fl_at _ st_yO hgv) (va_eqt (fl_at _ st_zO hgv)) (fun j hj => va_eqt (fl_at _ (st_eO ⟨j, hj⟩) hgv)) hA
  obtain ⟨t2, e2, T2⟩ := va_Tof (A := A) (f := dg2) (N := 100) (by omega) (fl_at _ st_yT hgv) (va_eqt (fl_at _ st_zT hgv)) (fun j hj => va_eqt (fl_at _ (st_eT ⟨j, hj⟩) hgv)) hA
  exact ⟨vx_Zqof (tb_at _ st_lU htl) (tb_at _ st_nT htl) (fl_at _ st_rU hgv) hA, vx_Zqof (tb_at _ st_lS htl) (tb_at _ st_nT htl) (fl_at _ st_rS hgv) hA, va_Zof (tb_at _ st_lC htl) (tb_at _ st_nS htl) (va_eqi (fl_at _ st_cs hgv)) hA, va_Zqof (tb_at _ st_lF htl) (tb_at _ st_nP htl) (fl_at _ st_rF hgv) hA, t1, t2, va_Zref (tb_at _ st_lO htl) (tb_at _ st_nI htl) e1 hA, T1, va_Zref (tb_at _ st_lT htl) (tb_at _ st_nI htl) e2 hA, T2⟩
theorem st_k0 : (flatC (Jvm.Cond.and given_1 narrow_1))[251]? = some (Cond.not (.castable "java/lang/IllegalArgumentException" "java/lang/IndexOutOfBoundsException")) := by decide +kernel
theorem st_k1 : (flatC (Jvm.Cond.and given_1 narrow_1))[223]? = some (Cond.not (.castable "java/lang/IllegalStateException" "java/lang/IllegalArgumentException")) := by decide +kernel
theorem st_k2 : (flatC (Jvm.Cond.and given_1 narrow_1))[252]? = some (Cond.not (.castable "java/lang/IllegalStateException" "java/lang/IndexOutOfBoundsException")) := by decide +kernel
theorem st_k3 : (flatC (Jvm.Cond.and given_1 narrow_1))[278]? = some (Cond.not (.castable "java/lang/IllegalStateException" "java/util/NoSuchElementException")) := by decide +kernel
theorem st_k4 : (flatC (Jvm.Cond.and given_1 narrow_1))[226]? = some (Cond.not (.castable "java/lang/UnsupportedOperationException" "java/lang/IllegalArgumentException")) := by decide +kernel
theorem st_k5 : (flatC (Jvm.Cond.and given_1 narrow_1))[240]? = some (Cond.not (.castable "java/lang/UnsupportedOperationException" "java/lang/IllegalStateException")) := by decide +kernel
theorem st_k6 : (flatC (Jvm.Cond.and given_1 narrow_1))[253]? = some (Cond.not (.castable "java/lang/UnsupportedOperationException" "java/lang/IndexOutOfBoundsException")) := by decide +kernel
theorem st_k7 : (flatC (Jvm.Cond.and given_1 narrow_1))[281]? = some (Cond.not (.castable "java/lang/UnsupportedOperationException" "java/util/NoSuchElementException")) := by decide +kernel
theorem st_k8 : (flatC (Jvm.Cond.and given_1 narrow_1))[254]? = some (Cond.not (.castable "java/util/NoSuchElementException" "java/lang/IndexOutOfBoundsException")) := by decide +kernel
theorem st_N (hgv : (Jvm.Cond.and given_1 narrow_1).before args s = true) : NCE s := by
  unfold NCE NCL
  exact List.forall_mem_cons.mpr ⟨va_Nc.of (fl_at _ st_k0 hgv), List.forall_mem_cons.mpr ⟨va_Nc.of (fl_at _ st_k1 hgv), List.forall_mem_cons.mpr ⟨va_Nc.of (fl_at _ st_k2 hgv), List.forall_mem_cons.mpr ⟨va_Nc.of (fl_at _ st_k3 hgv), List.forall_mem_cons.mpr ⟨va_Nc.of (fl_at _ st_k4 hgv), List.forall_mem_cons.mpr ⟨va_Nc.of (fl_at _ st_k5 hgv), List.forall_mem_cons.mpr ⟨va_Nc.of (fl_at _ st_k6 hgv), List.forall_mem_cons.mpr ⟨va_Nc.of (fl_at _ st_k7 hgv), List.forall_mem_cons.mpr ⟨va_Nc.of (fl_at _ st_k8 hgv), fun _ h => absurd h List.not_mem_nil⟩⟩⟩⟩⟩⟩⟩⟩⟩
theorem st_cw : lw_tbl[1328]? = some (Cond.stringRef RX4 66 "") := by decide +kernel
theorem st_cx : (flatC (Jvm.Cond.and given_1 narrow_1))[1308]? = some (Cond.exactly (.string RX4 66) "java/lang/String") := by decide +kernel
theorem st_cc : (flatC (Jvm.Cond.and given_1 narrow_1))[1309]? = some (Cond.eq (.field (.string RX4 66) "java/lang/String" "coder" "B") (.int 0)) := by decide +kernel
theorem st_ca : (flatC (Jvm.Cond.and given_1 narrow_1))[1310]? = some (Cond.arrayOf (.field (.string RX4 66) "java/lang/String" "value" "[B") .byte) := by decide +kernel
theorem st_cl : (flatC (Jvm.Cond.and given_1 narrow_1))[1311]? = some (Cond.eq (.length (.field (.string RX4 66) "java/lang/String" "value" "[B")) (.int 0)) := by decide +kernel
theorem st_C {A : Nat → Prop} (htl : ∀ w ∈ lw_tbl, w.before args s = true) (hgv : (Jvm.Cond.and given_1 narrow_1).before args s = true) (hA : ∀ a : Nat, a < s.heap.size → ¬ A a) : ∃ a : Nat, vk_R RX4 66 "" a s ∧ KS a A s s.heap := by
  have hx := fl_at _ st_cx hgv
  obtain ⟨a, c, cell, kk, q1, -⟩ := Cond.exactly_spec (args := args) (first := s) (o := none) (s := s) (idx := []) hx
  obtain ⟨vb, e1, T1⟩ := va_Tof (A := A) (f := fun _ => .int 0) (N := 0) (by omega) (fl_at _ st_ca hgv) (va_eqt (fl_at _ st_cl hgv)) (fun j hj => absurd hj (Nat.not_lt_zero j)) hA
  exact ⟨a, vk_R.of (A := args) (tb_at _ st_cw htl) q1, va_Oof hx q1 hA, vk_OFof q1 (va_eqt (fl_at _ st_cc hgv)) hA, vb, vk_OFof q1 e1 hA, T1⟩
end START
