/-! HOW MANY BLOCKS COUNT FOR AN OWNER, IN THE REFERENCE -/
def PU (O B : Nat → Nat) (o b x : Nat) : Bool := B x == b + 1 && O (x / 16) == o
def isU (O B : Nat → Nat) (o b : Nat) : Bool := decide (fst (PU O B o b) 640 < 640)
theorem isU_iff (O B : Nat → Nat) (o b : Nat) : isU O B o b = true ↔ ∃ x, x < 640 ∧ B x = b + 1 ∧ O (x / 16) = o := by
  obtain ⟨g1, g2⟩ := fst_spec (PU O B o b) 640
  have hle := fst_le (PU O B o b) 640
  unfold isU
  rw [decide_eq_true_iff]
  constructor
  · intro h
    have h2 := g2 h
    unfold PU at h2
    rw [Bool.and_eq_true, beq_iff_eq, beq_iff_eq] at h2
    exact ⟨_, h, h2.1, h2.2⟩
  · intro ⟨x, h1, h2, h3⟩
    rcases Nat.lt_or_ge (fst (PU O B o b) 640) 640 with q | q
    · exact q
    · have h4 := g1 x (by omega)
      unfold PU at h4
      rw [h2, h3, beq_self_eq_true, beq_self_eq_true] at h4
      cases h4
theorem div16 {x : Nat} (h : x < 640) : nI x / 16 = nI (x / 16) := by
  have e : ∀ x : Fin 640, nI x.val / 16 = nI (x.val / 16) := by decide +kernel
  exact e ⟨x, h⟩
