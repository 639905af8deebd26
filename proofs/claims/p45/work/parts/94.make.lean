/-! THE OBJECT OF THE START (printed by program) -/
theorem mk_k3 : (Cond.classLink RL 10 RX3) ∈ WW := WW_mem 51 (by decide +kernel) rfl
theorem mk_i3 : (Cond.instantiable RX3 11) ∈ WW := WW_mem 52 (by decide +kernel) rfl
theorem mk_n0 : (Cond.initialized RX3) ∈ WW := WW_mem 24 (by decide +kernel) rfl
theorem mk_m3 : (Cond.methodLink RL 158 yX3_init) ∈ WW := WW_mem 53 (by decide +kernel) rfl
theorem mk_n3 : (Cond.instanceMethod yX3_init) ∈ WW := WW_mem 54 (by decide +kernel) rfl
theorem mk_c3 : (Cond.code yX3_init cX3_init 1 none) ∈ WW := WW_mem 55 (by decide +kernel) rfl
theorem mk_ai : (Cond.arrayClass .int) ∈ WW := WW_mem 96 (by decide +kernel) rfl
theorem INV_start : INV 0 0 0 0 0 0 (fun _ => 0) (fun _ => 0) (fun _ => 0) (fun j => if j < 640 then ((-1) : Int32) else (fun _ => 0) j) (fun _ => 0) (fun _ => 0) (fun _ => 0) 0 0 (fun _ => 0) (fun _ => 0) (fun _ => 0) (fun j => if j < 640 then ((-1) : Int32) else (fun _ => 0) j) (fun _ => 0) (fun _ => 0) (fun _ => 0) 0 0 0 (fun _ => 0) 0 0 0 (fun _ => 0) (fun j => if j < 30 then ((-1) : Int32) else (fun _ => 0) j) (fun _ => 0) (fun _ => 0) (fun _ _ => 0) 0 (fun _ => 0) (fun _ => 0) (fun _ => 0) (fun _ => 0) (fun _ => 0) := by
  have h0 : (0 : Int32) = nI 0 := rfl
  have hm : ((-1) : Int32) = nI 0 - 1 := by decide +kernel
  have eu : ∀ b, usr 0 (fun _ => 0) (fun _ => 0) (fun _ => 0) b = 0 := fun b => by
    show cn (fun x => (0 : Nat) == b + 1) 640 + 0 = 0
    rw [cn_zero (fun i hi => by simp)]
  refine ⟨0, (fun _ => 0), 0, (fun _ => 0), (fun _ => 0), (fun _ => 0), (fun _ => 0), (fun _ => 0), (fun _ => 0), 0, (fun _ => 0), (fun _ => 0), (fun _ => 0), (fun _ => 0), 0, 0, (fun _ => 0), (fun _ => 0), (fun _ => 0), 0, 0, 0, h0, by omega, h0, h0, h0, by omega, fun o ho => absurd ho (Nat.not_lt_zero o), ?_, ?_, ?_, ?_, ?_, ?_, ?_, ?_⟩
  · exact ⟨by omega, h0, fun o ho => absurd ho (Nat.not_lt_zero o)⟩
  · exact ⟨by omega, by omega, h0, h0⟩
  · refine ⟨h0, rfl, ⟨by omega, fun s hs => absurd hs (Nat.not_lt_zero s)⟩, h0, by show (0 : Nat) ≤ 8; omega, fun s hs => absurd hs (Nat.not_lt_zero s), ?_, ?_, ?_, ?_, ?_, ?_, fun s hs => absurd hs (Nat.not_lt_zero s)⟩
    · intro s hs
      refine ⟨?_, Nat.zero_le _, ⟨fun h => absurd rfl h, fun h => absurd h.1 (Nat.not_lt_zero s)⟩⟩
      show (if s < 30 then ((-1) : Int32) else 0) = nI 0 - 1
      rw [if_pos hs]
      exact hm
    · exact fun r hr => ⟨rfl, Nat.le_refl 0⟩
    · exact fun s r hs hr => ⟨fun h => absurd (show (0 : Nat) = r + 1 from h) (by omega), fun h => absurd (show (0 : Nat) = s + 1 from h) (by omega)⟩
    · exact cn_zero (fun i hi => rfl)
    · intro b hb
      show sm (fun _ => 0) 8 = 0
      rfl
    · exact fun x hx => ⟨h0, Nat.zero_le _, fun _ => rfl⟩
  · exact ⟨by omega, h0, fun x hx => absurd hx (Nat.not_lt_zero x)⟩
  · refine ⟨by omega, h0, h0, fun i hi => absurd hi (Nat.not_lt_zero i), ?_, ?_, ?_, ?_, ?_, ?_, fun o ho => absurd ho (Nat.not_lt_zero o)⟩
    · intro x hx
      refine ⟨?_, Nat.zero_le _, fun h => absurd rfl h⟩
      show (if x < 640 then ((-1) : Int32) else 0) = nI 0 - 1
      rw [if_pos hx]
      exact hm
    · intro b hb
      rw [eu b]
      exact h0
    · exact fun b hb => ⟨0, by omega, h0⟩
    · exact fun o ho => ⟨h0, Nat.zero_le _⟩
    · exact Nat.zero_le _
    · exact fun i hi => ⟨h0, Nat.zero_le _⟩
  · exact fun i hi => absurd hi (Nat.not_lt_zero i)
  · exact fun q hq => absurd hq (Nat.not_lt_zero q)
  · exact SV_0
