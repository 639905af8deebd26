/-! HOW MANY BLOCKS COUNT FOR AN OWNER, IN THE REFERENCE -/
def PU (O B : Nat → Nat) (o b x : Nat) : Bool := B x == b + 1 && O (x / 16) == o
def isU (O B : Nat → Nat) (o b : Nat) : Bool := decide (fst (PU O B o b) 640 < 640)
theorem isU_iff (O B : Nat → Nat) (o b : Nat) : isU O B o b = true ↔ ∃ x, x < 640 ∧ B x = b + 1 ∧ O (x / 16) = o := by
  obtain ⟨g1, g2⟩ := fst_spec (PU O B o b) 640
  have hle := fst_le (PU O B o b) 640
  unfold isU
  rw [decide_eq_true_iff]
  constructor
  · intro h
    have h2 := g2 h
    unfold PU at h2
    rw [Bool.and_eq_true, beq_iff_eq, beq_iff_eq] at h2
    exact ⟨_, h, h2.1, h2.2⟩
  · intro ⟨x, h1, h2, h3⟩
    rcases Nat.lt_or_ge (fst (PU O B o b) 640) 640 with q | q
    · exact q
    · have h4 := g1 x (by omega)
      unfold PU at h4
      rw [h2, h3, beq_self_eq_true, beq_self_eq_true] at h4
      cases h4
theorem div16 {x : Nat} (h : x < 640) : nI x / 16 = nI (x / 16) := by
  have e : ∀ x : Fin 640, nI x.val / 16 = nI (x.val / 16) := by decide +kernel
  exact e ⟨x, h⟩
theorem M_isUsedBy_ok {o b : Nat} {O B : Nat → Nat} {mo mb : Nat → Int32} (ho : o < 4) (hb : b < 64) (h1 : ∀ x, x < 640 → mb x = nI (B x) ∧ B x ≤ 64) (h2 : ∀ x, x < 640 → B x ≠ 0 → mo (x / 16) = nI (O (x / 16)) ∧ O (x / 16) < 4) : f_M_isUsedBy (nI o) (nI b) mo mb = some (nI (if isU O B o b = true then 1 else 0)) := by
  unfold f_M_isUsedBy isU
  obtain ⟨g1, g2⟩ := fst_spec (PU O B o b) 640
  have hle := fst_le (PU O B o b) 640
  generalize fst (PU O B o b) 640 = k at g1 g2 hle ⊢
  have hL := loop_up (fun fu x => f_M_isUsedBy_L2 fu (nI o) (nI b) (nI x) mo mb) k (some (nI (if decide (k < 640) = true then 1 else 0))) (fun fu x hx => by
      obtain ⟨a1, a2⟩ := h1 x (by omega)
      have hp := g1 x hx
      show f_M_isUsedBy_L2 (fu + 1) _ _ _ _ _ = _
      rw [f_M_isUsedBy_L2]
      by_cases e : B x = b + 1
      · obtain ⟨a3, a4⟩ := h2 x (by omega) (by omega)
        have e2 : O (x / 16) ≠ o := by
          intro q
          unfold PU at hp
          rw [e, q, beq_self_eq_true, beq_self_eq_true] at hp
          cases hp
        have e5 := div16 (x := x) (by omega)
        have e5b : nI x / nI 16 = nI (x / 16) := e5
        simp (disch := omega) only [nI_ltI, nI_leI, nI_eq, nI_add, pk_mul, pk_sub, nI_clamp, l0, l1, l2, l3, l4, l5, l6, l8, l9, l10, l15, l16, l30, l39, l40, l58, l63, l64, l99, l100, l103, l104, l108, l112, l117, l119, l120, l512, l639, l640, l999, l9999, l19200, if_pos, if_neg, Option.bind_some, if_true, if_false,  a1, e, e5, e5b, a3, not_or]
      · simp (disch := omega) only [nI_ltI, nI_leI, nI_eq, nI_add, pk_mul, pk_sub, nI_clamp, l0, l1, l2, l3, l4, l5, l6, l8, l9, l10, l15, l16, l30, l39, l40, l58, l63, l64, l99, l100, l103, l104, l108, l112, l117, l119, l120, l512, l639, l640, l999, l9999, l19200, if_pos, if_neg, Option.bind_some, if_true, if_false,  a1, not_or]) (fun fu => by
      show f_M_isUsedBy_L2 (fu + 1) _ _ _ _ _ = _
      rw [f_M_isUsedBy_L2]
      by_cases hk : k < 640
      · obtain ⟨a1, a2⟩ := h1 k hk
        have hp := g2 hk
        unfold PU at hp
        rw [Bool.and_eq_true, beq_iff_eq, beq_iff_eq] at hp
        obtain ⟨a3, a4⟩ := h2 k hk (by omega)
        have e5 := div16 hk
        have e5b : nI k / nI 16 = nI (k / 16) := e5
        rw [if_pos (decide_eq_true hk)]
        simp (disch := omega) only [nI_ltI, nI_leI, nI_eq, nI_add, pk_mul, pk_sub, nI_clamp, l0, l1, l2, l3, l4, l5, l6, l8, l9, l10, l15, l16, l30, l39, l40, l58, l63, l64, l99, l100, l103, l104, l108, l112, l117, l119, l120, l512, l639, l640, l999, l9999, l19200, if_pos, if_neg, Option.bind_some, if_true, if_false,  a1, hp.1, hp.2, e5, e5b, a3, not_or]
      · have e6 : k = 640 := by omega
        subst e6
        simp (disch := omega) only [nI_ltI, nI_leI, nI_eq, nI_add, pk_mul, pk_sub, nI_clamp, l0, l1, l2, l3, l4, l5, l6, l8, l9, l10, l15, l16, l30, l39, l40, l58, l63, l64, l99, l100, l103, l104, l108, l112, l117, l119, l120, l512, l639, l640, l999, l9999, l19200, if_pos, if_neg, Option.bind_some, if_true, if_false,  show decide (640 < 640) = false from rfl, Bool.false_eq_true]) FU (FU_gt (by omega))
  exact hL
theorem M_countsFor_ok {o : Nat} {O B : Nat → Nat} {mo mb : Nat → Int32} (ho : o < 4) (h1 : ∀ x, x < 640 → mb x = nI (B x) ∧ B x ≤ 64) (h2 : ∀ x, x < 640 → B x ≠ 0 → mo (x / 16) = nI (O (x / 16)) ∧ O (x / 16) < 4) : f_M_countsFor (nI o) mo mb = some (nI (cn (fun b => isU O B o b) 64)) := by
  unfold f_M_countsFor
  have hL := loop_up (fun fu b => f_M_countsFor_L4 fu (nI o) (nI (cn (fun b => isU O B o b) b)) (nI b) mo mb) 64 (some (nI (cn (fun b => isU O B o b) 64))) (fun fu b hb => by
      have := cn_le (fun b => isU O B o b) b
      show f_M_countsFor_L4 (fu + 1) _ _ _ _ _ = _
      rw [f_M_countsFor_L4, cn_s, M_isUsedBy_ok ho hb h1 h2]
      by_cases e : isU O B o b = true
      · simp (disch := omega) only [nI_ltI, nI_leI, nI_eq, nI_add, pk_mul, pk_sub, nI_clamp, l0, l1, l2, l3, l4, l5, l6, l8, l9, l10, l15, l16, l30, l39, l40, l58, l63, l64, l99, l100, l103, l104, l108, l112, l117, l119, l120, l512, l639, l640, l999, l9999, l19200, if_pos, if_neg, Option.bind_some, if_true, if_false,  e]
      · simp (disch := omega) only [nI_ltI, nI_leI, nI_eq, nI_add, pk_mul, pk_sub, nI_clamp, l0, l1, l2, l3, l4, l5, l6, l8, l9, l10, l15, l16, l30, l39, l40, l58, l63, l64, l99, l100, l103, l104, l108, l112, l117, l119, l120, l512, l639, l640, l999, l9999, l19200, if_pos, if_neg, Option.bind_some, if_true, if_false,  e, Bool.false_eq_true, Nat.add_zero]) (fun fu => by
      show f_M_countsFor_L4 (fu + 1) _ _ _ _ _ = _
      rw [f_M_countsFor_L4]
      simp (disch := omega) only [nI_ltI, nI_leI, nI_eq, nI_add, pk_mul, pk_sub, nI_clamp, l0, l1, l2, l3, l4, l5, l6, l8, l9, l10, l15, l16, l30, l39, l40, l58, l63, l64, l99, l100, l103, l104, l108, l112, l117, l119, l120, l512, l639, l640, l999, l9999, l19200, if_pos, if_neg, Option.bind_some, if_true, if_false, ]) FU (FU_gt (by omega))
  have h3 : f_M_countsFor_L4 FU (nI o) 0 0 mo mb = some (nI (cn (fun b => isU O B o b) 64)) := hL
  rw [h3]
  rfl
