/-! THE START (printed by program, gen78.py) -/
section START
variable {args : Array Value} {s : State}
theorem fl_at {w : Cond} (j : Nat) (h : (flatC (Jvm.Cond.and given_1 narrow_1))[j]? = some w) (ht : (Jvm.Cond.and given_1 narrow_1).before args s = true) : w.before args s = true := flat_of_before _ ht _ (List.mem_of_getElem? h)
theorem st_arr {ty : FieldType} (h : (Cond.arrayClass ty).before args s = true) : ∃ cA : ClassId, ArrOfT s cA ty ∧ s.vm.findClass ("[" ++ ty.toString) = some cA := by
  obtain ⟨c, k, comp, h1, h2, h3⟩ := Cond.arrayClass_spec (args := args) (first := s) (o := none) (s := s) (idx := []) h
  exact ⟨c, fun n z => ⟨fun k h => (by cases h), k, h2, comp, h3⟩, h1⟩
theorem st_ao {t : FieldType} (h : (Cond.arrayOver (.array t)).before args s = true) : ∃ cA : ClassId, ArrOfT s cA (.array t) ∧ s.vm.findClass ("[" ++ (FieldType.array t).toString) = some cA := by
  obtain ⟨comp, c, k, h1, h2, h3, h4, h5⟩ := arrayOverA_spec (args := args) (first := s) (o := none) (s := s) (idx := []) h
  exact ⟨c, fun n z => ⟨fun k h => (by cases h), k, h3, comp, h4⟩, h5⟩
theorem st_str {own tx : String} {k : Nat} (h1 : (Cond.stringRef own k tx).before args s = true) (h2 : (Cond.exactly (.string own k) "java/lang/String").before args s = true) : ∃ a : Nat, vk_R own k tx a s := by
  obtain ⟨a, c, cell, kk, q1, -⟩ := Cond.exactly_spec (args := args) (first := s) (o := none) (s := s) (idx := []) h2
  exact ⟨a, vk_R.of (A := args) h1 q1⟩
theorem nw_of {w : Cond} (g : nwW w = true) (h : w.before args s = true) : va_Nw w s := by
  cases w with
  | arrayOver t =>
    cases t with
    | array t => exact ao_alike (Vm.Alike.refl _) h
    | _ => simp [nwW] at g
  | _ => first | exact va_Nw.of rfl h | (simp [nwW] at g)
theorem st_i0 : lw_tbl[328]? = some (Cond.instantiable RJ0 4) := by decide +kernel
theorem st_i1 : lw_tbl[150]? = some (Cond.instantiable RJ4 4) := by decide +kernel
theorem st_i2 : lw_tbl[255]? = some (Cond.instantiable RJx00060 6) := by decide +kernel
theorem st_i3 : lw_tbl[875]? = some (Cond.instantiable RJx7c733 6) := by decide +kernel
theorem st_i4 : lw_tbl[131]? = some (Cond.instantiable RX0 4) := by decide +kernel
theorem st_i5 : lw_tbl[99]? = some (Cond.instantiable RX1 7) := by decide +kernel
theorem st_i6 : lw_tbl[60]? = some (Cond.instantiable RX2 9) := by decide +kernel
theorem st_i7 : lw_tbl[52]? = some (Cond.instantiable RX3 11) := by decide +kernel
theorem st_c2_0 : lw_tbl[296]? = some (Cond.lays RJx00060 "java/lang/Throwable" "backtrace" "Ljava/lang/Object;") := by decide +kernel
theorem st_c2_1 : lw_tbl[298]? = some (Cond.lays RJx00060 "java/lang/Throwable" "detailMessage" "Ljava/lang/String;") := by decide +kernel
theorem st_c2_2 : lw_tbl[300]? = some (Cond.lays RJx00060 "java/lang/Throwable" "cause" "Ljava/lang/Throwable;") := by decide +kernel
theorem st_c2_3 : lw_tbl[302]? = some (Cond.lays RJx00060 "java/lang/Throwable" "stackTrace" "[Ljava/lang/StackTraceElement;") := by decide +kernel
theorem st_c2_4 : lw_tbl[304]? = some (Cond.lays RJx00060 "java/lang/Throwable" "depth" "I") := by decide +kernel
theorem st_c2_5 : lw_tbl[306]? = some (Cond.lays RJx00060 "java/lang/Throwable" "suppressedExceptions" "Ljava/util/List;") := by decide +kernel
theorem st_in2 : ∀ w ∈ u_ws RJx00060 TJx00060 6, w ∈ lw_tbl := by
  have h : u_ws RJx00060 TJx00060 6 = [Cond.lays RJx00060 "java/lang/Throwable" "backtrace" "Ljava/lang/Object;", Cond.lays RJx00060 "java/lang/Throwable" "detailMessage" "Ljava/lang/String;", Cond.lays RJx00060 "java/lang/Throwable" "cause" "Ljava/lang/Throwable;", Cond.lays RJx00060 "java/lang/Throwable" "stackTrace" "[Ljava/lang/StackTraceElement;", Cond.lays RJx00060 "java/lang/Throwable" "depth" "I", Cond.lays RJx00060 "java/lang/Throwable" "suppressedExceptions" "Ljava/util/List;"] := rfl
  rw [h]
  exact List.forall_mem_cons.mpr ⟨List.mem_of_getElem? st_c2_0, List.forall_mem_cons.mpr ⟨List.mem_of_getElem? st_c2_1, List.forall_mem_cons.mpr ⟨List.mem_of_getElem? st_c2_2, List.forall_mem_cons.mpr ⟨List.mem_of_getElem? st_c2_3, List.forall_mem_cons.mpr ⟨List.mem_of_getElem? st_c2_4, List.forall_mem_cons.mpr ⟨List.mem_of_getElem? st_c2_5, fun _ h => absurd h List.not_mem_nil⟩⟩⟩⟩⟩⟩
theorem st_c3_0 : lw_tbl[1087]? = some (Cond.lays RJx7c733 "java/lang/Throwable" "backtrace" "Ljava/lang/Object;") := by decide +kernel
theorem st_c3_1 : lw_tbl[1088]? = some (Cond.lays RJx7c733 "java/lang/Throwable" "detailMessage" "Ljava/lang/String;") := by decide +kernel
theorem st_c3_2 : lw_tbl[1089]? = some (Cond.lays RJx7c733 "java/lang/Throwable" "cause" "Ljava/lang/Throwable;") := by decide +kernel
theorem st_c3_3 : lw_tbl[1090]? = some (Cond.lays RJx7c733 "java/lang/Throwable" "stackTrace" "[Ljava/lang/StackTraceElement;") := by decide +kernel
theorem st_c3_4 : lw_tbl[1091]? = some (Cond.lays RJx7c733 "java/lang/Throwable" "depth" "I") := by decide +kernel
theorem st_c3_5 : lw_tbl[1092]? = some (Cond.lays RJx7c733 "java/lang/Throwable" "suppressedExceptions" "Ljava/util/List;") := by decide +kernel
theorem st_in3 : ∀ w ∈ u_ws RJx7c733 TJx7c733 6, w ∈ lw_tbl := by
  have h : u_ws RJx7c733 TJx7c733 6 = [Cond.lays RJx7c733 "java/lang/Throwable" "backtrace" "Ljava/lang/Object;", Cond.lays RJx7c733 "java/lang/Throwable" "detailMessage" "Ljava/lang/String;", Cond.lays RJx7c733 "java/lang/Throwable" "cause" "Ljava/lang/Throwable;", Cond.lays RJx7c733 "java/lang/Throwable" "stackTrace" "[Ljava/lang/StackTraceElement;", Cond.lays RJx7c733 "java/lang/Throwable" "depth" "I", Cond.lays RJx7c733 "java/lang/Throwable" "suppressedExceptions" "Ljava/util/List;"] := rfl
  rw [h]
  exact List.forall_mem_cons.mpr ⟨List.mem_of_getElem? st_c3_0, List.forall_mem_cons.mpr ⟨List.mem_of_getElem? st_c3_1, List.forall_mem_cons.mpr ⟨List.mem_of_getElem? st_c3_2, List.forall_mem_cons.mpr ⟨List.mem_of_getElem? st_c3_3, List.forall_mem_cons.mpr ⟨List.mem_of_getElem? st_c3_4, List.forall_mem_cons.mpr ⟨List.mem_of_getElem? st_c3_5, fun _ h => absurd h List.not_mem_nil⟩⟩⟩⟩⟩⟩
theorem st_a0 : lw_tbl[96]? = some (Cond.arrayClass .int) := by decide +kernel
theorem st_a1 : lw_tbl[97]? = some (Cond.arrayClass .boolean) := by decide +kernel
theorem st_a2 : lw_tbl[129]? = some (Cond.arrayClass .char) := by decide +kernel
theorem st_a3 : lw_tbl[181]? = some (Cond.arrayClass .byte) := by decide +kernel
theorem st_a4 : lw_tbl[106]? = some (Cond.arrayOver (.array .int)) := by decide +kernel
theorem st_K (htl : ∀ w ∈ lw_tbl, w.before args s = true) : ∃ (D : va_G) (ca : Nat → ClassId), va_K D vwCl (tyL ca) s := by
  have hts := WW_tbl htl
  obtain ⟨c0, i0, k0⟩ := u_known (C := RJ0) (T := TJ0) (N := 4) (n := 4) hts inJ0 (tb_at _ st_i0 htl)
  obtain ⟨c1, i1, k1⟩ := u_known (C := RJ4) (T := TJ4) (N := 4) (n := 4) hts inJ4 (tb_at _ st_i1 htl)
  obtain ⟨c2, i2, k2⟩ := u_known (C := RJx00060) (T := TJx00060) (N := 6) (n := 6) htl st_in2 (tb_at _ st_i2 htl)
  obtain ⟨c3, i3, k3⟩ := u_known (C := RJx7c733) (T := TJx7c733) (N := 6) (n := 6) htl st_in3 (tb_at _ st_i3 htl)
  obtain ⟨c4, i4, k4⟩ := u_known (C := RX0) (T := TX0) (N := 4) (n := 4) hts inX0 (tb_at _ st_i4 htl)
  obtain ⟨c5, i5, k5⟩ := u_known (C := RX1) (T := TX1) (N := 7) (n := 7) hts inX1 (tb_at _ st_i5 htl)
  obtain ⟨c6, i6, k6⟩ := u_known (C := RX2) (T := TX2) (N := 9) (n := 9) hts inX2 (tb_at _ st_i6 htl)
  obtain ⟨c7, i7, k7⟩ := u_known (C := RX3) (T := TX3) (N := 11) (n := 11) hts inX3 (tb_at _ st_i7 htl)
  obtain ⟨a0, r0, f0⟩ := st_arr (tb_at _ st_a0 htl)
  obtain ⟨a1, r1, f1⟩ := st_arr (tb_at _ st_a1 htl)
  obtain ⟨a2, r2, f2⟩ := st_arr (tb_at _ st_a2 htl)
  obtain ⟨a3, r3, f3⟩ := st_arr (tb_at _ st_a3 htl)
  obtain ⟨a4, r4, f4⟩ := st_ao (tb_at _ st_a4 htl)
  refine ⟨(fun k => [c0, c1, c2, c3, c4, c5, c6, c7].getD k c0, fun k => [i0, i1, i2, i3, i4, i5, i6, i7].getD k i0), fun k => [a0, a1, a2, a3, a4].getD k a0, fun c q hq => ?_, fun k q hq => ?_⟩
  · match c, hq with
    | 0, hq => cases hq; exact k0
    | 1, hq => cases hq; exact k1
    | 2, hq => cases hq; exact k2
    | 3, hq => cases hq; exact k3
    | 4, hq => cases hq; exact k4
    | 5, hq => cases hq; exact k5
    | 6, hq => cases hq; exact k6
    | 7, hq => cases hq; exact k7
    | k + 8, hq => simp [vwCl] at hq
  · match k, hq with
    | 0, hq => cases hq; exact ⟨r0, f0⟩
    | 1, hq => cases hq; exact ⟨r1, f1⟩
    | 2, hq => cases hq; exact ⟨r2, f2⟩
    | 3, hq => cases hq; exact ⟨r3, f3⟩
    | 4, hq => cases hq; exact ⟨r4, f4⟩
    | k + 5, hq => simp [tyL] at hq
theorem st_t0 : lw_tbl[381]? = some (Cond.stringRef RX3 71 "there are 4 owners") := by decide +kernel
theorem st_x0 : (flatC (Jvm.Cond.and given_1 narrow_1))[330]? = some (Cond.exactly (.string RX3 71) "java/lang/String") := by decide +kernel
theorem st_t1 : lw_tbl[403]? = some (Cond.stringRef RX3 84 "there have been 40 files") := by decide +kernel
theorem st_x1 : (flatC (Jvm.Cond.and given_1 narrow_1))[378]? = some (Cond.exactly (.string RX3 84) "java/lang/String") := by decide +kernel
theorem st_t2 : lw_tbl[451]? = some (Cond.stringRef RX3 107 "the file has 9 links") := by decide +kernel
theorem st_x2 : (flatC (Jvm.Cond.and given_1 narrow_1))[456]? = some (Cond.exactly (.string RX3 107) "java/lang/String") := by decide +kernel
theorem st_t3 : lw_tbl[595]? = some (Cond.stringRef RX3 141 "there is a hole") := by decide +kernel
theorem st_x3 : (flatC (Jvm.Cond.and given_1 narrow_1))[570]? = some (Cond.exactly (.string RX3 141) "java/lang/String") := by decide +kernel
theorem st_t4 : lw_tbl[678]? = some (Cond.stringRef RX3 173 "so many more blocks are not free") := by decide +kernel
theorem st_x4 : (flatC (Jvm.Cond.and given_1 narrow_1))[654]? = some (Cond.exactly (.string RX3 173) "java/lang/String") := by decide +kernel
theorem st_t5 : lw_tbl[688]? = some (Cond.stringRef RX3 182 "no blocks were promised") := by decide +kernel
theorem st_x5 : (flatC (Jvm.Cond.and given_1 narrow_1))[690]? = some (Cond.exactly (.string RX3 182) "java/lang/String") := by decide +kernel
theorem st_t6 : lw_tbl[697]? = some (Cond.stringRef RX3 187 "8 snapshots are kept") := by decide +kernel
theorem st_x6 : (flatC (Jvm.Cond.and given_1 narrow_1))[717]? = some (Cond.exactly (.string RX3 187) "java/lang/String") := by decide +kernel
theorem st_t7 : lw_tbl[702]? = some (Cond.stringRef RX3 192 "there have been 30 snapshots") := by decide +kernel
theorem st_x7 : (flatC (Jvm.Cond.and given_1 narrow_1))[741]? = some (Cond.exactly (.string RX3 192) "java/lang/String") := by decide +kernel
theorem st_t8 : lw_tbl[755]? = some (Cond.stringRef RX3 212 "there was a hole") := by decide +kernel
theorem st_x8 : (flatC (Jvm.Cond.and given_1 narrow_1))[854]? = some (Cond.exactly (.string RX3 212) "java/lang/String") := by decide +kernel
theorem st_t9 : lw_tbl[774]? = some (Cond.stringRef RX3 227 "no snapshot is kept") := by decide +kernel
theorem st_x9 : (flatC (Jvm.Cond.and given_1 narrow_1))[874]? = some (Cond.exactly (.string RX3 227) "java/lang/String") := by decide +kernel
theorem st_t10 : lw_tbl[554]? = some (Cond.stringRef RX3 235 "more blocks than the quota") := by decide +kernel
theorem st_x10 : (flatC (Jvm.Cond.and given_1 narrow_1))[506]? = some (Cond.exactly (.string RX3 235) "java/lang/String") := by decide +kernel
theorem st_t11 : lw_tbl[788]? = some (Cond.stringRef RX3 237 "the file does not exist") := by decide +kernel
theorem st_x11 : (flatC (Jvm.Cond.and given_1 narrow_1))[897]? = some (Cond.exactly (.string RX3 237) "java/lang/String") := by decide +kernel
theorem st_t12 : lw_tbl[793]? = some (Cond.stringRef RX3 242 "there have been 30 holds") := by decide +kernel
theorem st_x12 : (flatC (Jvm.Cond.and given_1 narrow_1))[924]? = some (Cond.exactly (.string RX3 242) "java/lang/String") := by decide +kernel
theorem st_t13 : lw_tbl[809]? = some (Cond.stringRef RX3 252 "the hold is not open") := by decide +kernel
theorem st_x13 : (flatC (Jvm.Cond.and given_1 narrow_1))[977]? = some (Cond.exactly (.string RX3 252) "java/lang/String") := by decide +kernel
theorem st_t14 : lw_tbl[842]? = some (Cond.stringRef RX3 263 "no hold is open") := by decide +kernel
theorem st_x14 : (flatC (Jvm.Cond.and given_1 narrow_1))[1001]? = some (Cond.exactly (.string RX3 263) "java/lang/String") := by decide +kernel
theorem st_t15 : lw_tbl[847]? = some (Cond.stringRef RX3 265 "the day would be greater than 9999") := by decide +kernel
theorem st_x15 : (flatC (Jvm.Cond.and given_1 narrow_1))[1020]? = some (Cond.exactly (.string RX3 265) "java/lang/String") := by decide +kernel
theorem st_t16 : lw_tbl[857]? = some (Cond.stringRef RX3 277 "no transaction is open") := by decide +kernel
theorem st_x16 : (flatC (Jvm.Cond.and given_1 narrow_1))[1058]? = some (Cond.exactly (.string RX3 277) "java/lang/String") := by decide +kernel
theorem st_t17 : lw_tbl[862]? = some (Cond.stringRef RX3 281 "there is no such entry") := by decide +kernel
theorem st_x17 : (flatC (Jvm.Cond.and given_1 narrow_1))[1084]? = some (Cond.exactly (.string RX3 281) "java/lang/String") := by decide +kernel
theorem st_t18 : lw_tbl[1148]? = some (Cond.stringRef RX3 311 "there is no such character") := by decide +kernel
theorem st_x18 : (flatC (Jvm.Cond.and given_1 narrow_1))[1213]? = some (Cond.exactly (.string RX3 311) "java/lang/String") := by decide +kernel
theorem st_t19 : lw_tbl[354]? = some (Cond.stringRef RX3 319 "the number is out of range") := by decide +kernel
theorem st_x19 : (flatC (Jvm.Cond.and given_1 narrow_1))[275]? = some (Cond.exactly (.string RX3 319) "java/lang/String") := by decide +kernel
theorem st_t20 : lw_tbl[399]? = some (Cond.stringRef RX3 322 "there is no such owner") := by decide +kernel
theorem st_x20 : (flatC (Jvm.Cond.and given_1 narrow_1))[352]? = some (Cond.exactly (.string RX3 322) "java/lang/String") := by decide +kernel
theorem st_t21 : lw_tbl[428]? = some (Cond.stringRef RX3 327 "there is no such file") := by decide +kernel
theorem st_x21 : (flatC (Jvm.Cond.and given_1 narrow_1))[406]? = some (Cond.exactly (.string RX3 327) "java/lang/String") := by decide +kernel
theorem st_t22 : lw_tbl[507]? = some (Cond.stringRef RX3 332 "there is no such place") := by decide +kernel
theorem st_x22 : (flatC (Jvm.Cond.and given_1 narrow_1))[480]? = some (Cond.exactly (.string RX3 332) "java/lang/String") := by decide +kernel
theorem st_t23 : lw_tbl[645]? = some (Cond.stringRef RX3 337 "there is no such block") := by decide +kernel
theorem st_x23 : (flatC (Jvm.Cond.and given_1 narrow_1))[628]? = some (Cond.exactly (.string RX3 337) "java/lang/String") := by decide +kernel
theorem st_t24 : lw_tbl[730]? = some (Cond.stringRef RX3 342 "there has been no such snapshot") := by decide +kernel
theorem st_x24 : (flatC (Jvm.Cond.and given_1 narrow_1))[773]? = some (Cond.exactly (.string RX3 342) "java/lang/String") := by decide +kernel
theorem st_t25 : lw_tbl[749]? = some (Cond.stringRef RX3 348 "the snapshot is not kept or lacks the file") := by decide +kernel
theorem st_x25 : (flatC (Jvm.Cond.and given_1 narrow_1))[808]? = some (Cond.exactly (.string RX3 348) "java/lang/String") := by decide +kernel
theorem st_t26 : lw_tbl[807]? = some (Cond.stringRef RX3 353 "there is no such hold") := by decide +kernel
theorem st_x26 : (flatC (Jvm.Cond.and given_1 narrow_1))[952]? = some (Cond.exactly (.string RX3 353) "java/lang/String") := by decide +kernel
theorem st_t27 : lw_tbl[450]? = some (Cond.stringRef RX3 355 "the file has no links") := by decide +kernel
theorem st_x27 : (flatC (Jvm.Cond.and given_1 narrow_1))[431]? = some (Cond.exactly (.string RX3 355) "java/lang/String") := by decide +kernel
theorem st_t28 : lw_tbl[374]? = some (Cond.stringRef RX3 357 "a transaction is open") := by decide +kernel
theorem st_x28 : (flatC (Jvm.Cond.and given_1 narrow_1))[305]? = some (Cond.exactly (.string RX3 357) "java/lang/String") := by decide +kernel
theorem st_t29 : lw_tbl[573]? = some (Cond.stringRef RX3 360 "no block is free for the owner") := by decide +kernel
theorem st_x29 : (flatC (Jvm.Cond.and given_1 narrow_1))[536]? = some (Cond.exactly (.string RX3 360) "java/lang/String") := by decide +kernel
theorem st_t30 : lw_tbl[613]? = some (Cond.stringRef RX3 362 "there is a hole or the file is gone") := by decide +kernel
theorem st_x30 : (flatC (Jvm.Cond.and given_1 narrow_1))[589]? = some (Cond.exactly (.string RX3 362) "java/lang/String") := by decide +kernel
theorem st_t31 : lw_tbl[1112]? = some (Cond.stringRef RJx00060 13 "Array index out of range: ") := by decide +kernel
theorem st_x31 : (flatC (Jvm.Cond.and given_1 narrow_1))[1183]? = some (Cond.exactly (.string RJx00060 13) "java/lang/String") := by decide +kernel
theorem st_t32 : lw_tbl[881]? = some (Cond.stringRef RJx7c733 13 "String index out of range: ") := by decide +kernel
theorem st_x32 : (flatC (Jvm.Cond.and given_1 narrow_1))[1110]? = some (Cond.exactly (.string RJx7c733 13) "java/lang/String") := by decide +kernel
theorem st_t33 : lw_tbl[1103]? = some (Cond.stringRef RJ7 48 "fromIndex(") := by decide +kernel
theorem st_x33 : (flatC (Jvm.Cond.and given_1 narrow_1))[1148]? = some (Cond.exactly (.string RJ7 48) "java/lang/String") := by decide +kernel
theorem st_t34 : lw_tbl[1104]? = some (Cond.stringRef RJ7 57 ") > toIndex(") := by decide +kernel
theorem st_x34 : (flatC (Jvm.Cond.and given_1 narrow_1))[1162]? = some (Cond.exactly (.string RJ7 57) "java/lang/String") := by decide +kernel
theorem st_t35 : lw_tbl[1105]? = some (Cond.stringRef RJ7 59 ")") := by decide +kernel
theorem st_x35 : (flatC (Jvm.Cond.and given_1 narrow_1))[1178]? = some (Cond.exactly (.string RJ7 59) "java/lang/String") := by decide +kernel
theorem st_t36 : lw_tbl[1062]? = some (Cond.stringRef RJ7 337 " > ") := by decide +kernel
theorem st_x36 : (flatC (Jvm.Cond.and given_1 narrow_1))[1141]? = some (Cond.exactly (.string RJ7 337) "java/lang/String") := by decide +kernel
theorem st_E (htl : ∀ w ∈ lw_tbl, w.before args s = true) (hgv : (Jvm.Cond.and given_1 narrow_1).before args s = true) : ∃ (D : va_G) (ca : Nat → ClassId), EE D ca SL0 s := by
  obtain ⟨D, ca, hK⟩ := st_K htl
  refine ⟨D, ca, hK, fun w hw => nw_of (List.mem_filter.mp hw).2 (htl w (List.mem_filter.mp hw).1), ?_⟩
  unfold SL0
  exact List.forall_mem_cons.mpr ⟨st_str (tb_at _ st_t0 htl) (fl_at _ st_x0 hgv), List.forall_mem_cons.mpr ⟨st_str (tb_at _ st_t1 htl) (fl_at _ st_x1 hgv), List.forall_mem_cons.mpr ⟨st_str (tb_at _ st_t2 htl) (fl_at _ st_x2 hgv), List.forall_mem_cons.mpr ⟨st_str (tb_at _ st_t3 htl) (fl_at _ st_x3 hgv), List.forall_mem_cons.mpr ⟨st_str (tb_at _ st_t4 htl) (fl_at _ st_x4 hgv), List.forall_mem_cons.mpr ⟨st_str (tb_at _ st_t5 htl) (fl_at _ st_x5 hgv), List.forall_mem_cons.mpr ⟨st_str (tb_at _ st_t6 htl) (fl_at _ st_x6 hgv), List.forall_mem_cons.mpr ⟨st_str (tb_at _ st_t7 htl) (fl_at _ st_x7 hgv), List.forall_mem_cons.mpr ⟨st_str (tb_at _ st_t8 htl) (fl_at _ st_x8 hgv), List.forall_mem_cons.mpr ⟨st_str (tb_at _ st_t9 htl) (fl_at _ st_x9 hgv), List.forall_mem_cons.mpr ⟨st_str (tb_at _ st_t10 htl) (fl_at _ st_x10 hgv), List.forall_mem_cons.mpr ⟨st_str (tb_at _ st_t11 htl) (fl_at _ st_x11 hgv), List.forall_mem_cons.mpr ⟨st_str (tb_at _ st_t12 htl) (fl_at _ st_x12 hgv), List.forall_mem_cons.mpr ⟨st_str (tb_at _ st_t13 htl) (fl_at _ st_x13 hgv), List.forall_mem_cons.mpr ⟨st_str (tb_at _ st_t14 htl) (fl_at _ st_x14 hgv), List.forall_mem_cons.mpr ⟨st_str (tb_at _ st_t15 htl) (fl_at _ st_x15 hgv), List.forall_mem_cons.mpr ⟨st_str (tb_at _ st_t16 htl) (fl_at _ st_x16 hgv), List.forall_mem_cons.mpr ⟨st_str (tb_at _ st_t17 htl) (fl_at _ st_x17 hgv), List.forall_mem_cons.mpr ⟨st_str (tb_at _ st_t18 htl) (fl_at _ st_x18 hgv), List.forall_mem_cons.mpr ⟨st_str (tb_at _ st_t19 htl) (fl_at _ st_x19 hgv), List.forall_mem_cons.mpr ⟨st_str (tb_at _ st_t20 htl) (fl_at _ st_x20 hgv), List.forall_mem_cons.mpr ⟨st_str (tb_at _ st_t21 htl) (fl_at _ st_x21 hgv), List.forall_mem_cons.mpr ⟨st_str (tb_at _ st_t22 htl) (fl_at _ st_x22 hgv), List.forall_mem_cons.mpr ⟨st_str (tb_at _ st_t23 htl) (fl_at _ st_x23 hgv), List.forall_mem_cons.mpr ⟨st_str (tb_at _ st_t24 htl) (fl_at _ st_x24 hgv), List.forall_mem_cons.mpr ⟨st_str (tb_at _ st_t25 htl) (fl_at _ st_x25 hgv), List.forall_mem_cons.mpr ⟨st_str (tb_at _ st_t26 htl) (fl_at _ st_x26 hgv), List.forall_mem_cons.mpr ⟨st_str (tb_at _ st_t27 htl) (fl_at _ st_x27 hgv), List.forall_mem_cons.mpr ⟨st_str (tb_at _ st_t28 htl) (fl_at _ st_x28 hgv), List.forall_mem_cons.mpr ⟨st_str (tb_at _ st_t29 htl) (fl_at _ st_x29 hgv), List.forall_mem_cons.mpr ⟨st_str (tb_at _ st_t30 htl) (fl_at _ st_x30 hgv), List.forall_mem_cons.mpr ⟨st_str (tb_at _ st_t31 htl) (fl_at _ st_x31 hgv), List.forall_mem_cons.mpr ⟨st_str (tb_at _ st_t32 htl) (fl_at _ st_x32 hgv), List.forall_mem_cons.mpr ⟨st_str (tb_at _ st_t33 htl) (fl_at _ st_x33 hgv), List.forall_mem_cons.mpr ⟨st_str (tb_at _ st_t34 htl) (fl_at _ st_x34 hgv), List.forall_mem_cons.mpr ⟨st_str (tb_at _ st_t35 htl) (fl_at _ st_x35 hgv), List.forall_mem_cons.mpr ⟨st_str (tb_at _ st_t36 htl) (fl_at _ st_x36 hgv), fun _ h => absurd h List.not_mem_nil⟩⟩⟩⟩⟩⟩⟩⟩⟩⟩⟩⟩⟩⟩⟩⟩⟩⟩⟩⟩⟩⟩⟩⟩⟩⟩⟩⟩⟩⟩⟩⟩⟩⟩⟩⟩⟩
theorem st_lU : lw_tbl[272]? = some (Cond.laysStatic "java/lang/Throwable" "UNASSIGNED_STACK" "[Ljava/lang/StackTraceElement;") := by decide +kernel
theorem st_lS : lw_tbl[274]? = some (Cond.laysStatic "java/lang/Throwable" "SUPPRESSED_SENTINEL" "Ljava/util/List;") := by decide +kernel
theorem st_lC : lw_tbl[159]? = some (Cond.laysStatic "java/lang/String" "COMPACT_STRINGS" "Z") := by decide +kernel
theorem st_lF : lw_tbl[942]? = some (Cond.laysStatic "jdk/internal/util/Preconditions" "SIOOBE_FORMATTER" "Ljava/util/function/BiFunction;") := by decide +kernel
theorem st_lO : lw_tbl[1012]? = some (Cond.laysStatic "java/lang/Integer" "DigitOnes" "[B") := by decide +kernel
theorem st_lT : lw_tbl[1014]? = some (Cond.laysStatic "java/lang/Integer" "DigitTens" "[B") := by decide +kernel
theorem st_nT : lw_tbl[33]? = some (Cond.initialized "java/lang/Throwable") := by decide +kernel
theorem st_nS : lw_tbl[31]? = some (Cond.initialized "java/lang/String") := by decide +kernel
theorem st_nP : lw_tbl[48]? = some (Cond.initialized "jdk/internal/util/Preconditions") := by decide +kernel
theorem st_nI : lw_tbl[50]? = some (Cond.initialized "java/lang/Integer") := by decide +kernel
theorem st_rU : (flatC (Jvm.Cond.and given_1 narrow_1))[5]? = some (Cond.isRef (.static "java/lang/Throwable" "UNASSIGNED_STACK" "[Ljava/lang/StackTraceElement;")) := by decide +kernel
theorem st_rS : (flatC (Jvm.Cond.and given_1 narrow_1))[6]? = some (Cond.isRef (.static "java/lang/Throwable" "SUPPRESSED_SENTINEL" "Ljava/util/List;")) := by decide +kernel
theorem st_rF : (flatC (Jvm.Cond.and given_1 narrow_1))[7]? = some (Cond.isRef (.static "jdk/internal/util/Preconditions" "SIOOBE_FORMATTER" "Ljava/util/function/BiFunction;")) := by decide +kernel
theorem st_cs : (flatC (Jvm.Cond.and given_1 narrow_1))[4]? = some (Cond.eq (.static "java/lang/String" "COMPACT_STRINGS" "Z") (.int 1)) := by decide +kernel
theorem st_yO : (flatC (Jvm.Cond.and given_1 narrow_1))[12]? = some (Cond.arrayOf (.static "java/lang/Integer" "DigitOnes" "[B") .byte) := by decide +kernel
theorem st_zO : (flatC (Jvm.Cond.and given_1 narrow_1))[13]? = some (Cond.eq (.length (.static "java/lang/Integer" "DigitOnes" "[B")) (.int 100)) := by decide +kernel
set_option maxRecDepth 100000 in
theorem st_eO : ∀ j : Fin 100, (flatC (Jvm.Cond.and given_1 narrow_1))[14 + j.val]? = some (Cond.eq (.elem (.static "java/lang/Integer" "DigitOnes" "[B") (.int (Int32.ofNat j.val))) (.int (nI (48 + j.val % 10)))) := by decide +kernel
theorem st_yT : (flatC (Jvm.Cond.and given_1 narrow_1))[115]? = some (Cond.arrayOf (.static "java/lang/Integer" "DigitTens" "[B") .byte) := by decide +kernel
theorem st_zT : (flatC (Jvm.Cond.and given_1 narrow_1))[116]? = some (Cond.eq (.length (.static "java/lang/Integer" "DigitTens" "[B")) (.int 100)) := by decide +kernel
set_option maxRecDepth 100000 in
theorem st_eT : ∀ j : Fin 100, (flatC (Jvm.Cond.and given_1 narrow_1))[117 + j.val]? = some (Cond.eq (.elem (.static "java/lang/Integer" "DigitTens" "[B") (.int (Int32.ofNat j.val))) (.int (nI (48 + j.val / 10)))) := by decide +kernel
theorem st_Z {A : Nat → Prop} (htl : ∀ w ∈ lw_tbl, w.before args s = true) (hgv : (Jvm.Cond.and given_1 narrow_1).before args s = true) (hA : ∀ a : Nat, a < s.heap.size → ¬ A a) : ZZ A s s.heap := by
  obtain ⟨t1, e1, T1⟩ := va_Tof (A := A) (f := dg1) (N := 100) (by omega) (fl_at _ st_yO hgv) (va_eqt (fl_at _ st_zO hgv)) (fun j hj => va_eqt (fl_at _ (st_eO ⟨j, hj⟩) hgv)) hA
  obtain ⟨t2, e2, T2⟩ := va_Tof (A := A) (f := dg2) (N := 100) (by omega) (fl_at _ st_yT hgv) (va_eqt (fl_at _ st_zT hgv)) (fun j hj => va_eqt (fl_at _ (st_eT ⟨j, hj⟩) hgv)) hA
  exact ⟨vx_Zqof (tb_at _ st_lU htl) (tb_at _ st_nT htl) (fl_at _ st_rU hgv) hA, vx_Zqof (tb_at _ st_lS htl) (tb_at _ st_nT htl) (fl_at _ st_rS hgv) hA, va_Zof (tb_at _ st_lC htl) (tb_at _ st_nS htl) (va_eqi (fl_at _ st_cs hgv)) hA, va_Zqof (tb_at _ st_lF htl) (tb_at _ st_nP htl) (fl_at _ st_rF hgv) hA, t1, t2, va_Zref (tb_at _ st_lO htl) (tb_at _ st_nI htl) e1 hA, T1, va_Zref (tb_at _ st_lT htl) (tb_at _ st_nI htl) e2 hA, T2⟩
theorem st_k0 : (flatC (Jvm.Cond.and given_1 narrow_1))[222]? = some (Cond.not (.castable "java/lang/IllegalArgumentException" "java/lang/IndexOutOfBoundsException")) := by decide +kernel
theorem st_k1 : (flatC (Jvm.Cond.and given_1 narrow_1))[233]? = some (Cond.not (.castable "java/lang/IllegalStateException" "java/lang/IllegalArgumentException")) := by decide +kernel
theorem st_k2 : (flatC (Jvm.Cond.and given_1 narrow_1))[223]? = some (Cond.not (.castable "java/lang/IllegalStateException" "java/lang/IndexOutOfBoundsException")) := by decide +kernel
theorem st_k3 : (flatC (Jvm.Cond.and given_1 narrow_1))[235]? = some (Cond.not (.castable "java/lang/UnsupportedOperationException" "java/lang/IllegalArgumentException")) := by decide +kernel
theorem st_k4 : (flatC (Jvm.Cond.and given_1 narrow_1))[247]? = some (Cond.not (.castable "java/lang/UnsupportedOperationException" "java/lang/IllegalStateException")) := by decide +kernel
theorem st_k5 : (flatC (Jvm.Cond.and given_1 narrow_1))[224]? = some (Cond.not (.castable "java/lang/UnsupportedOperationException" "java/lang/IndexOutOfBoundsException")) := by decide +kernel
theorem st_k6 : (flatC (Jvm.Cond.and given_1 narrow_1))[236]? = some (Cond.not (.castable "java/util/NoSuchElementException" "java/lang/IllegalArgumentException")) := by decide +kernel
theorem st_k7 : (flatC (Jvm.Cond.and given_1 narrow_1))[248]? = some (Cond.not (.castable "java/util/NoSuchElementException" "java/lang/IllegalStateException")) := by decide +kernel
theorem st_k8 : (flatC (Jvm.Cond.and given_1 narrow_1))[225]? = some (Cond.not (.castable "java/util/NoSuchElementException" "java/lang/IndexOutOfBoundsException")) := by decide +kernel
theorem st_k9 : (flatC (Jvm.Cond.and given_1 narrow_1))[260]? = some (Cond.not (.castable "java/util/NoSuchElementException" "java/lang/UnsupportedOperationException")) := by decide +kernel
theorem st_N (hgv : (Jvm.Cond.and given_1 narrow_1).before args s = true) : NCE s := by
  unfold NCE NCL
  exact List.forall_mem_cons.mpr ⟨va_Nc.of (fl_at _ st_k0 hgv), List.forall_mem_cons.mpr ⟨va_Nc.of (fl_at _ st_k1 hgv), List.forall_mem_cons.mpr ⟨va_Nc.of (fl_at _ st_k2 hgv), List.forall_mem_cons.mpr ⟨va_Nc.of (fl_at _ st_k3 hgv), List.forall_mem_cons.mpr ⟨va_Nc.of (fl_at _ st_k4 hgv), List.forall_mem_cons.mpr ⟨va_Nc.of (fl_at _ st_k5 hgv), List.forall_mem_cons.mpr ⟨va_Nc.of (fl_at _ st_k6 hgv), List.forall_mem_cons.mpr ⟨va_Nc.of (fl_at _ st_k7 hgv), List.forall_mem_cons.mpr ⟨va_Nc.of (fl_at _ st_k8 hgv), List.forall_mem_cons.mpr ⟨va_Nc.of (fl_at _ st_k9 hgv), fun _ h => absurd h List.not_mem_nil⟩⟩⟩⟩⟩⟩⟩⟩⟩⟩
end START
