/-! PURE: the leaves of the class's functions, over numbers in range -/
theorem n_pos {p : Int32} (h : p < 0) : p < nI 0 := h
/-- out of 0 .. n-1 -/
def Out (p : Int32) (n : Nat) : Prop := p < nI 0 ∨ (¬ p < nI 0 ∧ nI n ≤ p)
theorem out_or (p : Int32) {n : Nat} (hn : n < 2 ^ 31) : Out p n ∨ ∃ j : Nat, j < n ∧ p = nI j := by
  rcases i_cases p n hn with h | h | h
  · exact Or.inl (Or.inl h)
  · exact Or.inl (Or.inr h)
  · exact Or.inr h
theorem out_le {p : Int32} {n m : Nat} (hm : m ≤ n) (hn : n < 2 ^ 31) (h : Out p n) : Out p m := by
  rcases h with h | ⟨h1, h2⟩
  · exact Or.inl h
  · exact Or.inr ⟨h1, by
      have := nI_le (a := m) (b := n) hm hn
      exact Int32.le_trans this h2⟩
theorem S_hasFile_in {j f : Nat} (hj : j < f) (hf : f ≤ 40) : f_S_hasFile (nI j) (nI f) = some 1 := by
  unfold f_S_hasFile
  simp (disch := omega) only [nI_ltI, nI_leI, nI_eq, nI_add, pk_mul, pk_sub, nI_clamp, l0, l1, l2, l3, l4, l5, l6, l8, l9, l10, l15, l16, l30, l39, l40, l58, l63, l64, l99, l100, l103, l104, l108, l112, l117, l119, l120, l512, l639, l640, l999, l9999, l19200, if_pos, if_neg, Option.bind_some, if_true, if_false, ]
theorem S_hasFile_out {p : Int32} {f : Nat} (h : Out p f) : f_S_hasFile p (nI f) = some 0 := by
  unfold f_S_hasFile
  rcases h with h | ⟨h1, h2⟩
  · simp only [l0, h, if_true]
  · simp only [l0, h1, h2, if_true, if_false]
theorem C_isPlace_in {j : Nat} (hj : j < 16) : f_C_isPlace (nI j) = some 1 := by
  unfold f_C_isPlace
  simp (disch := omega) only [nI_ltI, nI_leI, nI_eq, nI_add, pk_mul, pk_sub, nI_clamp, l0, l1, l2, l3, l4, l5, l6, l8, l9, l10, l15, l16, l30, l39, l40, l58, l63, l64, l99, l100, l103, l104, l108, l112, l117, l119, l120, l512, l639, l640, l999, l9999, l19200, if_pos, if_neg, Option.bind_some, if_true, if_false, ]
theorem C_isPlace_out {p : Int32} (h : Out p 16) : f_C_isPlace p = some 0 := by
  unfold f_C_isPlace
  rcases h with h | ⟨h1, h2⟩
  · simp only [l0, h, if_true]
  · simp only [l0, l16, h1, h2, if_true, if_false]
theorem C_isBlock_in {j : Nat} (hj : j < 64) : f_C_isBlock (nI j) = some 1 := by
  unfold f_C_isBlock
  simp (disch := omega) only [nI_ltI, nI_leI, nI_eq, nI_add, pk_mul, pk_sub, nI_clamp, l0, l1, l2, l3, l4, l5, l6, l8, l9, l10, l15, l16, l30, l39, l40, l58, l63, l64, l99, l100, l103, l104, l108, l112, l117, l119, l120, l512, l639, l640, l999, l9999, l19200, if_pos, if_neg, Option.bind_some, if_true, if_false, ]
theorem C_isBlock_out {p : Int32} (h : Out p 64) : f_C_isBlock p = some 0 := by
  unfold f_C_isBlock
  rcases h with h | ⟨h1, h2⟩
  · simp only [l0, h, if_true]
  · simp only [l0, l64, h1, h2, if_true, if_false]
theorem P_isRow_in {j : Nat} (hj : j < 8) : f_P_isRow (nI j) = some 1 := by
  unfold f_P_isRow
  simp (disch := omega) only [nI_ltI, nI_leI, nI_eq, nI_add, pk_mul, pk_sub, nI_clamp, l0, l1, l2, l3, l4, l5, l6, l8, l9, l10, l15, l16, l30, l39, l40, l58, l63, l64, l99, l100, l103, l104, l108, l112, l117, l119, l120, l512, l639, l640, l999, l9999, l19200, if_pos, if_neg, Option.bind_some, if_true, if_false, ]
theorem P_isRow_out {p : Int32} (h : Out p 8) : f_P_isRow p = some 0 := by
  unfold f_P_isRow
  rcases h with h | ⟨h1, h2⟩
  · simp only [l0, h, if_true]
  · simp only [l0, l8, h1, h2, if_true, if_false]
theorem P_wasTaken_in {j t : Nat} (hj : j < t) (ht : t ≤ 30) : f_P_wasTaken (nI j) (nI t) = some 1 := by
  unfold f_P_wasTaken
  simp (disch := omega) only [nI_ltI, nI_leI, nI_eq, nI_add, pk_mul, pk_sub, nI_clamp, l0, l1, l2, l3, l4, l5, l6, l8, l9, l10, l15, l16, l30, l39, l40, l58, l63, l64, l99, l100, l103, l104, l108, l112, l117, l119, l120, l512, l639, l640, l999, l9999, l19200, if_pos, if_neg, Option.bind_some, if_true, if_false, ]
theorem P_wasTaken_out {p : Int32} {t : Nat} (h : Out p t) : f_P_wasTaken p (nI t) = some 0 := by
  unfold f_P_wasTaken
  rcases h with h | ⟨h1, h2⟩
  · simp only [l0, h, if_true]
  · simp only [l0, h1, h2, if_true, if_false]
theorem H_wasOpened_in {j t : Nat} (hj : j < t) (ht : t ≤ 30) : f_H_wasOpened (nI j) (nI t) = some 1 := by
  unfold f_H_wasOpened
  simp (disch := omega) only [nI_ltI, nI_leI, nI_eq, nI_add, pk_mul, pk_sub, nI_clamp, l0, l1, l2, l3, l4, l5, l6, l8, l9, l10, l15, l16, l30, l39, l40, l58, l63, l64, l99, l100, l103, l104, l108, l112, l117, l119, l120, l512, l639, l640, l999, l9999, l19200, if_pos, if_neg, Option.bind_some, if_true, if_false, ]
theorem H_wasOpened_out {p : Int32} {t : Nat} (h : Out p t) : f_H_wasOpened p (nI t) = some 0 := by
  unfold f_H_wasOpened
  rcases h with h | ⟨h1, h2⟩
  · simp only [l0, h, if_true]
  · simp only [l0, h1, h2, if_true, if_false]
theorem m1_out (n : Nat) : Out (-1) n := Or.inl (by decide)
theorem m1n_out {b n : Nat} (h : b = 0) : Out (nI b - 1) n := by subst h; exact Or.inl (by decide)
theorem one_ne : ¬ (nI 1 = nI 0) := by decide
theorem S_isAlive_in {j f a : Nat} {nA : Nat → Int32} (hj : j < f) (hf : f ≤ 40) (ha : nA j = nI a) (h1 : a ≤ 1) : f_S_isAlive (nI j) (nI f) nA = some (nI a) := by
  unfold f_S_isAlive
  rw [S_hasFile_in hj hf]
  rcases (show a = 0 ∨ a = 1 by omega) with e | e
  · subst e; simp (disch := omega) only [nI_ltI, nI_leI, nI_eq, nI_add, pk_mul, pk_sub, nI_clamp, l0, l1, l2, l3, l4, l5, l6, l8, l9, l10, l15, l16, l30, l39, l40, l58, l63, l64, l99, l100, l103, l104, l108, l112, l117, l119, l120, l512, l639, l640, l999, l9999, l19200, if_pos, if_neg, Option.bind_some, if_true, if_false,  ha]
  · subst e; simp (disch := omega) only [nI_ltI, nI_leI, nI_eq, nI_add, pk_mul, pk_sub, nI_clamp, l0, l1, l2, l3, l4, l5, l6, l8, l9, l10, l15, l16, l30, l39, l40, l58, l63, l64, l99, l100, l103, l104, l108, l112, l117, l119, l120, l512, l639, l640, l999, l9999, l19200, if_pos, if_neg, Option.bind_some, if_true, if_false,  ha]
theorem S_isAlive_out {p : Int32} {f : Nat} {nA : Nat → Int32} (h : Out p f) : f_S_isAlive p (nI f) nA = some 0 := by
  unfold f_S_isAlive
  rw [S_hasFile_out h]
  simp (disch := omega) only [nI_ltI, nI_leI, nI_eq, nI_add, pk_mul, pk_sub, nI_clamp, l0, l1, l2, l3, l4, l5, l6, l8, l9, l10, l15, l16, l30, l39, l40, l58, l63, l64, l99, l100, l103, l104, l108, l112, l117, l119, l120, l512, l639, l640, l999, l9999, l19200, if_pos, if_neg, Option.bind_some, if_true, if_false, ]
theorem S_ownerIn_in {j f : Nat} {nO : Nat → Int32} (hj : j < f) (hf : f ≤ 40) : f_S_ownerIn (nI j) (nI f) nO = some (nO j) := by
  unfold f_S_ownerIn
  rw [S_hasFile_in hj hf]
  simp (disch := omega) only [nI_ltI, nI_leI, nI_eq, nI_add, pk_mul, pk_sub, nI_clamp, l0, l1, l2, l3, l4, l5, l6, l8, l9, l10, l15, l16, l30, l39, l40, l58, l63, l64, l99, l100, l103, l104, l108, l112, l117, l119, l120, l512, l639, l640, l999, l9999, l19200, if_pos, if_neg, Option.bind_some, if_true, if_false, ]
theorem S_linkTotal_in {j f : Nat} {nL : Nat → Int32} (hj : j < f) (hf : f ≤ 40) : f_S_linkTotal (nI j) (nI f) nL = some (nL j) := by
  unfold f_S_linkTotal
  rw [S_hasFile_in hj hf]
  simp (disch := omega) only [nI_ltI, nI_leI, nI_eq, nI_add, pk_mul, pk_sub, nI_clamp, l0, l1, l2, l3, l4, l5, l6, l8, l9, l10, l15, l16, l30, l39, l40, l58, l63, l64, l99, l100, l103, l104, l108, l112, l117, l119, l120, l512, l639, l640, l999, l9999, l19200, if_pos, if_neg, Option.bind_some, if_true, if_false, ]
theorem S_setLinks_in {j f : Nat} {x : Int32} {nL : Nat → Int32} (hj : j < f) (hf : f ≤ 40) : f_S_setLinks (nI j) x (nI f) nL = some (upd nL j x) := by
  unfold f_S_setLinks
  rw [S_hasFile_in hj hf]
  simp (disch := omega) only [nI_ltI, nI_leI, nI_eq, nI_add, pk_mul, pk_sub, nI_clamp, l0, l1, l2, l3, l4, l5, l6, l8, l9, l10, l15, l16, l30, l39, l40, l58, l63, l64, l99, l100, l103, l104, l108, l112, l117, l119, l120, l512, l639, l640, l999, l9999, l19200, if_pos, if_neg, Option.bind_some, if_true, if_false, ]
theorem S_blockIn_in {j f p : Nat} {nC : Nat → Int32} (hj : j < f) (hf : f ≤ 40) (hp : p < 16) : f_S_blockIn (nI j) (nI p) (nI f) nC = some (nC (j * 16 + p)) := by
  unfold f_S_blockIn
  rw [S_hasFile_in hj hf, C_isPlace_in hp]
  simp (disch := omega) only [nI_ltI, nI_leI, nI_eq, nI_add, pk_mul, pk_sub, nI_clamp, l0, l1, l2, l3, l4, l5, l6, l8, l9, l10, l15, l16, l30, l39, l40, l58, l63, l64, l99, l100, l103, l104, l108, l112, l117, l119, l120, l512, l639, l640, l999, l9999, l19200, if_pos, if_neg, Option.bind_some, if_true, if_false, ]
/-- users of a block, one less, one more -/
def ru (x : Int32) (u : Nat → Int32) : Nat → Int32 := if x < nI 0 ∨ nI 64 ≤ x then u else upd u x.toNatClampNeg (u x.toNatClampNeg - 1)
def au (x : Int32) (u : Nat → Int32) : Nat → Int32 := if x < nI 0 ∨ nI 64 ≤ x then u else upd u x.toNatClampNeg (u x.toNatClampNeg + 1)
theorem ru_in {b : Nat} {u : Nat → Int32} (h : b < 64) : ru (nI b) u = upd u b (u b - 1) := by
  unfold ru
  simp (disch := omega) only [nI_ltI, nI_leI, nI_eq, nI_add, pk_mul, pk_sub, nI_clamp, l0, l1, l2, l3, l4, l5, l6, l8, l9, l10, l15, l16, l30, l39, l40, l58, l63, l64, l99, l100, l103, l104, l108, l112, l117, l119, l120, l512, l639, l640, l999, l9999, l19200, if_pos, if_neg, Option.bind_some, if_true, if_false, ]
theorem au_in {b : Nat} {u : Nat → Int32} (h : b < 64) : au (nI b) u = upd u b (u b + 1) := by
  unfold au
  simp (disch := omega) only [nI_ltI, nI_leI, nI_eq, nI_add, pk_mul, pk_sub, nI_clamp, l0, l1, l2, l3, l4, l5, l6, l8, l9, l10, l15, l16, l30, l39, l40, l58, l63, l64, l99, l100, l103, l104, l108, l112, l117, l119, l120, l512, l639, l640, l999, l9999, l19200, if_pos, if_neg, Option.bind_some, if_true, if_false, ]
theorem ru_out {x : Int32} {u : Nat → Int32} (h : Out x 64) : ru x u = u := by
  unfold ru
  rcases h with h | ⟨-, h⟩
  · exact if_pos (Or.inl h)
  · exact if_pos (Or.inr h)
theorem au_out {x : Int32} {u : Nat → Int32} (h : Out x 64) : au x u = u := by
  unfold au
  rcases h with h | ⟨-, h⟩
  · exact if_pos (Or.inl h)
  · exact if_pos (Or.inr h)
theorem S_removeUser_ok (x : Int32) (u : Nat → Int32) : f_S_removeUser x u = some (ru x u) := by
  unfold f_S_removeUser
  rcases out_or x (n := 64) (by omega) with h | ⟨j, hj, rfl⟩
  · rw [C_isBlock_out h, ru_out h]; simp (disch := omega) only [nI_ltI, nI_leI, nI_eq, nI_add, pk_mul, pk_sub, nI_clamp, l0, l1, l2, l3, l4, l5, l6, l8, l9, l10, l15, l16, l30, l39, l40, l58, l63, l64, l99, l100, l103, l104, l108, l112, l117, l119, l120, l512, l639, l640, l999, l9999, l19200, if_pos, if_neg, Option.bind_some, if_true, if_false, ]
  · rw [C_isBlock_in hj, ru_in hj]; simp (disch := omega) only [nI_ltI, nI_leI, nI_eq, nI_add, pk_mul, pk_sub, nI_clamp, l0, l1, l2, l3, l4, l5, l6, l8, l9, l10, l15, l16, l30, l39, l40, l58, l63, l64, l99, l100, l103, l104, l108, l112, l117, l119, l120, l512, l639, l640, l999, l9999, l19200, if_pos, if_neg, Option.bind_some, if_true, if_false, ]
theorem S_addUser_ok (x : Int32) (u : Nat → Int32) : f_S_addUser x u = some (au x u) := by
  unfold f_S_addUser
  rcases out_or x (n := 64) (by omega) with h | ⟨j, hj, rfl⟩
  · rw [C_isBlock_out h, au_out h]; simp (disch := omega) only [nI_ltI, nI_leI, nI_eq, nI_add, pk_mul, pk_sub, nI_clamp, l0, l1, l2, l3, l4, l5, l6, l8, l9, l10, l15, l16, l30, l39, l40, l58, l63, l64, l99, l100, l103, l104, l108, l112, l117, l119, l120, l512, l639, l640, l999, l9999, l19200, if_pos, if_neg, Option.bind_some, if_true, if_false, ]
  · rw [C_isBlock_in hj, au_in hj]; simp (disch := omega) only [nI_ltI, nI_leI, nI_eq, nI_add, pk_mul, pk_sub, nI_clamp, l0, l1, l2, l3, l4, l5, l6, l8, l9, l10, l15, l16, l30, l39, l40, l58, l63, l64, l99, l100, l103, l104, l108, l112, l117, l119, l120, l512, l639, l640, l999, l9999, l19200, if_pos, if_neg, Option.bind_some, if_true, if_false, ]
theorem C_countUser_ok (x : Int32) (u : Nat → Int32) : f_C_countUser x u = some (au x u) := by
  unfold f_C_countUser
  rcases out_or x (n := 64) (by omega) with h | ⟨j, hj, rfl⟩
  · rw [C_isBlock_out h, au_out h]; simp (disch := omega) only [nI_ltI, nI_leI, nI_eq, nI_add, pk_mul, pk_sub, nI_clamp, l0, l1, l2, l3, l4, l5, l6, l8, l9, l10, l15, l16, l30, l39, l40, l58, l63, l64, l99, l100, l103, l104, l108, l112, l117, l119, l120, l512, l639, l640, l999, l9999, l19200, if_pos, if_neg, Option.bind_some, if_true, if_false, ]
  · rw [C_isBlock_in hj, au_in hj]; simp (disch := omega) only [nI_ltI, nI_leI, nI_eq, nI_add, pk_mul, pk_sub, nI_clamp, l0, l1, l2, l3, l4, l5, l6, l8, l9, l10, l15, l16, l30, l39, l40, l58, l63, l64, l99, l100, l103, l104, l108, l112, l117, l119, l120, l512, l639, l640, l999, l9999, l19200, if_pos, if_neg, Option.bind_some, if_true, if_false, ]
theorem S_userTotal_in {b : Nat} {u : Nat → Int32} (h : b < 64) : f_S_userTotal (nI b) u = some (u b) := by
  unfold f_S_userTotal
  rw [C_isBlock_in h]
  simp (disch := omega) only [nI_ltI, nI_leI, nI_eq, nI_add, pk_mul, pk_sub, nI_clamp, l0, l1, l2, l3, l4, l5, l6, l8, l9, l10, l15, l16, l30, l39, l40, l58, l63, l64, l99, l100, l103, l104, l108, l112, l117, l119, l120, l512, l639, l640, l999, l9999, l19200, if_pos, if_neg, Option.bind_some, if_true, if_false, ]
theorem S_userTotal_out {x : Int32} {u : Nat → Int32} (h : Out x 64) : f_S_userTotal x u = some 0 := by
  unfold f_S_userTotal
  rw [C_isBlock_out h]
  simp (disch := omega) only [nI_ltI, nI_leI, nI_eq, nI_add, pk_mul, pk_sub, nI_clamp, l0, l1, l2, l3, l4, l5, l6, l8, l9, l10, l15, l16, l30, l39, l40, l58, l63, l64, l99, l100, l103, l104, l108, l112, l117, l119, l120, l512, l639, l640, l999, l9999, l19200, if_pos, if_neg, Option.bind_some, if_true, if_false, ]
theorem S_valueIn_in {b : Nat} {u : Nat → Int32} (h : b < 64) : f_S_valueIn (nI b) u = some (u b) := by
  unfold f_S_valueIn
  rw [C_isBlock_in h]
  simp (disch := omega) only [nI_ltI, nI_leI, nI_eq, nI_add, pk_mul, pk_sub, nI_clamp, l0, l1, l2, l3, l4, l5, l6, l8, l9, l10, l15, l16, l30, l39, l40, l58, l63, l64, l99, l100, l103, l104, l108, l112, l117, l119, l120, l512, l639, l640, l999, l9999, l19200, if_pos, if_neg, Option.bind_some, if_true, if_false, ]
theorem S_setValue_in {b : Nat} {x : Int32} {u : Nat → Int32} (h : b < 64) : f_S_setValue (nI b) x u = some (upd u b x) := by
  unfold f_S_setValue
  rw [C_isBlock_in h]
  simp (disch := omega) only [nI_ltI, nI_leI, nI_eq, nI_add, pk_mul, pk_sub, nI_clamp, l0, l1, l2, l3, l4, l5, l6, l8, l9, l10, l15, l16, l30, l39, l40, l58, l63, l64, l99, l100, l103, l104, l108, l112, l117, l119, l120, l512, l639, l640, l999, l9999, l19200, if_pos, if_neg, Option.bind_some, if_true, if_false, ]
theorem S_setBlock_in {j f p : Nat} {x : Int32} {nC nU : Nat → Int32} (hj : j < f) (hf : f ≤ 40) (hp : p < 16) : f_S_setBlock (nI j) (nI p) x (nI f) nC nU = some (upd nC (j * 16 + p) x, au x (ru (nC (j * 16 + p)) nU)) := by
  unfold f_S_setBlock
  rw [S_hasFile_in hj hf, C_isPlace_in hp]
  simp (disch := omega) only [nI_ltI, nI_leI, nI_eq, nI_add, pk_mul, pk_sub, nI_clamp, l0, l1, l2, l3, l4, l5, l6, l8, l9, l10, l15, l16, l30, l39, l40, l58, l63, l64, l99, l100, l103, l104, l108, l112, l117, l119, l120, l512, l639, l640, l999, l9999, l19200, if_pos, if_neg, Option.bind_some, if_true, if_false,  S_removeUser_ok, S_addUser_ok]
theorem S_freeTotal_ok {nU : Nat → Int32} {U : Nat → Nat} (hU : ∀ b, b < 64 → nU b = nI (U b) ∧ U b < 2 ^ 31) : f_S_freeTotal nU = some (nI (cn (fun b => U b == 0) 64)) := by
  unfold f_S_freeTotal
  have h := loop_up (fun fu i => f_S_freeTotal_L4 fu (nI (cn (fun b => U b == 0) i)) (nI i) nU) 64 (some (nI (cn (fun b => U b == 0) 64))) (fun fu i hi => by
      have := cn_le (fun b => U b == 0) i
      obtain ⟨h1, h2⟩ := hU i hi
      show f_S_freeTotal_L4 (fu + 1) _ _ _ = _
      rw [f_S_freeTotal_L4, cn_s]
      by_cases e : U i = 0
      · have e2 : (U i == 0) = true := by simp [e]
        simp (disch := omega) only [nI_ltI, nI_leI, nI_eq, nI_add, pk_mul, pk_sub, nI_clamp, l0, l1, l2, l3, l4, l5, l6, l8, l9, l10, l15, l16, l30, l39, l40, l58, l63, l64, l99, l100, l103, l104, l108, l112, l117, l119, l120, l512, l639, l640, l999, l9999, l19200, if_pos, if_neg, Option.bind_some, if_true, if_false,  h1, e, e2, beq_self_eq_true]
      · have e2 : (U i == 0) = false := by simp [e]
        simp (disch := omega) only [nI_ltI, nI_leI, nI_eq, nI_add, pk_mul, pk_sub, nI_clamp, l0, l1, l2, l3, l4, l5, l6, l8, l9, l10, l15, l16, l30, l39, l40, l58, l63, l64, l99, l100, l103, l104, l108, l112, l117, l119, l120, l512, l639, l640, l999, l9999, l19200, if_pos, if_neg, Option.bind_some, if_true, if_false,  h1, e2, Bool.false_eq_true, Nat.add_zero]) (fun fu => by
      have := cn_le (fun b => U b == 0) 64
      show f_S_freeTotal_L4 (fu + 1) _ _ _ = _
      rw [f_S_freeTotal_L4]
      simp (disch := omega) only [nI_ltI, nI_leI, nI_eq, nI_add, pk_mul, pk_sub, nI_clamp, l0, l1, l2, l3, l4, l5, l6, l8, l9, l10, l15, l16, l30, l39, l40, l58, l63, l64, l99, l100, l103, l104, l108, l112, l117, l119, l120, l512, l639, l640, l999, l9999, l19200, if_pos, if_neg, Option.bind_some, if_true, if_false, ]) FU (FU_gt (by omega))
  have h2 : f_S_freeTotal_L4 FU 0 0 nU = some (nI (cn (fun b => U b == 0) 64)) := h
  rw [h2]
  rfl
theorem S_promisedFor_in {o : Nat} {nP : Nat → Int32} (h : o < 4) : f_S_promisedFor (nI o) nP = some (nP o) := by
  unfold f_S_promisedFor
  simp (disch := omega) only [nI_ltI, nI_leI, nI_eq, nI_add, pk_mul, pk_sub, nI_clamp, l0, l1, l2, l3, l4, l5, l6, l8, l9, l10, l15, l16, l30, l39, l40, l58, l63, l64, l99, l100, l103, l104, l108, l112, l117, l119, l120, l512, l639, l640, l999, l9999, l19200, if_pos, if_neg, Option.bind_some, if_true, if_false, ]
theorem S_setPromised_in {o : Nat} {x : Int32} {nP : Nat → Int32} (h : o < 4) : f_S_setPromised (nI o) x nP = some (upd nP o x) := by
  unfold f_S_setPromised
  simp (disch := omega) only [nI_ltI, nI_leI, nI_eq, nI_add, pk_mul, pk_sub, nI_clamp, l0, l1, l2, l3, l4, l5, l6, l8, l9, l10, l15, l16, l30, l39, l40, l58, l63, l64, l99, l100, l103, l104, l108, l112, l117, l119, l120, l512, l639, l640, l999, l9999, l19200, if_pos, if_neg, Option.bind_some, if_true, if_false, ]
theorem S_promisedInAll_ok {nP : Nat → Int32} {P : Nat → Nat} (hP : ∀ o, o < 4 → nP o = nI (P o) ∧ P o ≤ 64) : f_S_promisedInAll nP = some (nI (sm P 4)) := by
  unfold f_S_promisedInAll
  have h := loop_up (fun fu i => f_S_promisedInAll_L4 fu (nI (sm P i)) (nI i) nP) 4 (some (nI (sm P 4))) (fun fu i hi => by
      obtain ⟨h1, h2⟩ := hP i hi
      show f_S_promisedInAll_L4 (fu + 1) _ _ _ = _
      rw [f_S_promisedInAll_L4, sm_s]
      simp (disch := omega) only [nI_ltI, nI_leI, nI_eq, nI_add, pk_mul, pk_sub, nI_clamp, l0, l1, l2, l3, l4, l5, l6, l8, l9, l10, l15, l16, l30, l39, l40, l58, l63, l64, l99, l100, l103, l104, l108, l112, l117, l119, l120, l512, l639, l640, l999, l9999, l19200, if_pos, if_neg, Option.bind_some, if_true, if_false,  h1]) (fun fu => by
      show f_S_promisedInAll_L4 (fu + 1) _ _ _ = _
      rw [f_S_promisedInAll_L4]
      simp (disch := omega) only [nI_ltI, nI_leI, nI_eq, nI_add, pk_mul, pk_sub, nI_clamp, l0, l1, l2, l3, l4, l5, l6, l8, l9, l10, l15, l16, l30, l39, l40, l58, l63, l64, l99, l100, l103, l104, l108, l112, l117, l119, l120, l512, l639, l640, l999, l9999, l19200, if_pos, if_neg, Option.bind_some, if_true, if_false, ]) FU (FU_gt (by omega))
  have h2 : f_S_promisedInAll_L4 FU 0 0 nP = some (nI (sm P 4)) := h
  rw [h2]
  rfl
/-- takeBlock: the first free block -/
theorem S_takeBlock_ok {o q : Nat} {nU nP : Nat → Int32} {U : Nat → Nat} (hU : ∀ b, b < 64 → nU b = nI (U b) ∧ U b < 2 ^ 31) (ho : o < 4) (hq : nP o = nI q) (hq2 : q ≤ 64) (hk : fst (fun b => U b == 0) 64 < 64) :
    f_S_takeBlock (nI o) nU nP = some (nI (fst (fun b => U b == 0) 64), upd nP o (nI (q - 1))) := by
  unfold f_S_takeBlock
  obtain ⟨g1, g2⟩ := fst_spec (fun b => U b == 0) 64
  generalize fst (fun b => U b == 0) 64 = k at g1 g2 hk ⊢
  have h := loop_up (fun fu i => f_S_takeBlock_L2 fu (nI o) (nI i) nU nP) k (some (nI k, upd nP o (nI (q - 1)))) (fun fu i hi => by
      obtain ⟨h1, h2⟩ := hU i (by omega)
      have e := g1 i hi
      have e3 : U i ≠ 0 := by simpa using e
      show f_S_takeBlock_L2 (fu + 1) _ _ _ _ = _
      rw [f_S_takeBlock_L2]
      simp (disch := omega) only [nI_ltI, nI_leI, nI_eq, nI_add, pk_mul, pk_sub, nI_clamp, l0, l1, l2, l3, l4, l5, l6, l8, l9, l10, l15, l16, l30, l39, l40, l58, l63, l64, l99, l100, l103, l104, l108, l112, l117, l119, l120, l512, l639, l640, l999, l9999, l19200, if_pos, if_neg, Option.bind_some, if_true, if_false,  h1]) (fun fu => by
      obtain ⟨h1, h2⟩ := hU k hk
      have e := g2 hk
      have e3 : U k = 0 := by simpa using e
      show f_S_takeBlock_L2 (fu + 1) _ _ _ _ = _
      rw [f_S_takeBlock_L2]
      rw [S_promisedFor_in ho]
      rcases q with _ | q
      · simp (disch := omega) only [nI_ltI, nI_leI, nI_eq, nI_add, pk_mul, pk_sub, nI_clamp, l0, l1, l2, l3, l4, l5, l6, l8, l9, l10, l15, l16, l30, l39, l40, l58, l63, l64, l99, l100, l103, l104, l108, l112, l117, l119, l120, l512, l639, l640, l999, l9999, l19200, if_pos, if_neg, Option.bind_some, if_true, if_false,  h1, e3, hq, show ¬ (nI 0 < nI 0 - nI 1) by decide, S_setPromised_in ho]
      · simp (disch := omega) only [nI_ltI, nI_leI, nI_eq, nI_add, pk_mul, pk_sub, nI_clamp, l0, l1, l2, l3, l4, l5, l6, l8, l9, l10, l15, l16, l30, l39, l40, l58, l63, l64, l99, l100, l103, l104, l108, l112, l117, l119, l120, l512, l639, l640, l999, l9999, l19200, if_pos, if_neg, Option.bind_some, if_true, if_false,  h1, e3, hq, Nat.add_sub_cancel]
        by_cases e4 : 0 < q
        · simp (disch := omega) only [nI_ltI, nI_leI, nI_eq, nI_add, pk_mul, pk_sub, nI_clamp, l0, l1, l2, l3, l4, l5, l6, l8, l9, l10, l15, l16, l30, l39, l40, l58, l63, l64, l99, l100, l103, l104, l108, l112, l117, l119, l120, l512, l639, l640, l999, l9999, l19200, if_pos, if_neg, Option.bind_some, if_true, if_false,  S_setPromised_in ho]
        · have e5 : q = 0 := by omega
          subst e5
          simp (disch := omega) only [nI_ltI, nI_leI, nI_eq, nI_add, pk_mul, pk_sub, nI_clamp, l0, l1, l2, l3, l4, l5, l6, l8, l9, l10, l15, l16, l30, l39, l40, l58, l63, l64, l99, l100, l103, l104, l108, l112, l117, l119, l120, l512, l639, l640, l999, l9999, l19200, if_pos, if_neg, Option.bind_some, if_true, if_false,  S_setPromised_in ho]) FU (FU_gt (by omega))
  exact h
