/-! CASES 40 AND 41: the line -/
section LINES
variable {f n sZ : Nat} {T jB sB : Nat → Int32} {jN p1 : Int32} {jZ : Nat} {oL : Nat → Int64}
theorem c40w (hf : f ≤ 40) (h : Out p1 f) : f_case40 p1 (nI f) oL (nI f) = some (oL, 1) := by
  unfold f_case40 f_L_writeFile f_C_writeFile f_M_writeFile f_M_thrown f_M_fails
  rw [C_requireFile_out h, M_isFile_out hf h]
  rfl
theorem c40o (i L : Nat) (blk : Nat → Nat) (oL : Nat → Int64) : f_case40o i L blk oL = some () := by
  unfold f_case40o f_M_thrown
  rw [out_same, cmp_same]
  rfl
theorem chr_ok {c : Nat} (h : c < 128) : ((((nI c) &&& 255)).toUInt32 % 65536).toInt32 = nI c := by
  have e : ∀ c : Fin 128, ((((nI c.val) &&& 255)).toUInt32 % 65536).toInt32 = nI c.val := by decide +kernel
  exact e ⟨c, h⟩
theorem C_lineAt_out (h : Out p1 n) : f_C_lineAt p1 (nI n) jZ jB = some (.error 3) := by
  unfold f_C_lineAt f_B_J4_length_8abf5 f_B_J5_length_8abf5
  rcases h with h | ⟨h1, h2⟩
  · exact if_pos h
  · have e0 : ¬ p1 < (0 : Int32) := h1
    rw [if_neg e0, Option.bind_some, Option.bind_some, if_neg (fun q => absurd (Int32.lt_iff_toInt_lt.mp q) (Int.not_lt.mpr (Int32.le_iff_toInt_le.mp h2)))]
theorem chk_ok {i m : Nat} (h : i < m) (hm : m < 2 ^ 31) : f_B_J0_checkIndex_df160 (nI i) (nI m) = some () := by
  unfold f_B_J0_checkIndex_df160 f_B_J3_checkIndex_8e157
  have e0 : ¬ nI i < (0 : Int32) := nI_pos (by omega)
  rw [if_neg e0, if_pos ((nI_ltI (by omega) (by omega)).mpr h)]
  rfl
theorem C_lineAt_in {i c : Nat} (hi : i < n) (hnz : n ≤ jZ) (hz : jZ ≤ 300) (hB : jB i = nI c) (hc : c < 128) : f_C_lineAt (nI i) (nI n) jZ jB = some (.ok (nI c)) := by
  unfold f_C_lineAt f_B_J4_length_8abf5 f_B_J5_length_8abf5 f_B_J4_charAt_5068e f_B_J5_charAt_5068e
  have e0 : ¬ nI i < (0 : Int32) := nI_pos (by omega)
  have e1 : ¬ nI jZ < nI n := fun q => absurd ((nI_ltI (by omega) (by omega)).mp q) (by omega)
  rw [if_neg e0, Option.bind_some, Option.bind_some, if_pos ((nI_ltI (by omega) (by omega)).mpr hi), if_neg e1, chk_ok hi (by omega), Option.bind_some, if_neg (in_lim (by omega) (by omega)), nI_clamp (by omega), hB, chr_ok hc, vcn (by omega), if_pos rfl, Option.bind_some, vcn (by omega), if_pos rfl, Option.bind_some, vcn (by omega), if_pos rfl]
theorem B_in_out (hn : n < 2 ^ 30) (h : Out p1 n) : f_B_X4_in p1 0 (nI n - 1) = some 0 := M_in_out (k := n) hn h
theorem B_in_in {i : Nat} (hn : n < 2 ^ 30) (h : i < n) : f_B_X4_in (nI i) 0 (nI n - 1) = some 1 := M_in_in (k := n) hn h
theorem B_len (n : Nat) : f_B_J0_length_8abf5 n = some (nI n) := by
  unfold f_B_J0_length_8abf5 f_B_J0_coder_7d493
  rw [Option.bind_some]
  have e : ∀ x : Int32, x >>> ((0 : Int32) &&& 31) = x := by
    intro x
    have e1 : ((0 : Int32) &&& 31) = 0 := by decide
    rw [e1]
    simp
  rw [e]
theorem B_lineAt_out (hn : n ≤ 128) (h : Out p1 n) : f_B_X4_lineAt p1 n sB = some (0, 1) := by
  unfold f_B_X4_lineAt
  rw [B_len, Option.bind_some, B_in_out (by omega) h]
  rfl
theorem B_lineAt_in {i c : Nat} (hn : n ≤ 128) (hi : i < n) (hB : sB i = nI c) (hc : c < 128) : f_B_X4_lineAt (nI i) n sB = some (nI c, 0) := by
  unfold f_B_X4_lineAt f_B_J0_charAt_5068e f_B_J0_isLatin1_aae02 f_B_J1_charAt_3b067
  have e1 : ¬ ((1 : Int32) = 0) := by decide
  rw [B_len, Option.bind_some, B_in_in (by omega) hi, Option.bind_some, if_neg e1, Option.bind_some, if_neg e1, chk_ok hi (by omega), Option.bind_some, if_neg (in_lim (by omega) (by omega)), nI_clamp (by omega), hB, chr_ok hc, vcn (by omega), if_pos rfl, Option.bind_some, vcn (by omega), if_pos rfl, Option.bind_some, vcn (by omega), if_pos rfl]
theorem c41s (hL : LINE n T jN jZ jB) (hs : Same n T sB) : ∃ oL' mc, f_case41s p1 jN jZ jB oL n sB = some (oL', mc) := by
  obtain ⟨h1, rfl, h3, h4, h5, h6, h7⟩ := hL
  unfold f_case41s f_L_lineAt f_M_thrown
  rcases out_or p1 (n := n) (by omega) with ho | ⟨i, hi, rfl⟩
  · rw [C_lineAt_out ho, B_lineAt_out h1 ho]
    exact ⟨_, _, rfl⟩
  · obtain ⟨c, hc, hT⟩ := h7 i hi
    rw [C_lineAt_in hi h6 h5 ((h3 i hi).trans hT) hc, B_lineAt_in h1 hi ((hs i hi).trans hT) hc]
    simp only [Option.bind_some, out_same, cmp_same, if_true]
    exact ⟨_, _, rfl⟩
theorem c41c (hL : LINE 0 T jN jZ jB) : ∃ oL' mc, f_case41c p1 jN jZ jB oL = some (oL', mc) := by
  obtain ⟨h1, rfl, h3, h4, h5, h6, h7⟩ := hL
  unfold f_case41c f_L_lineAt f_M_thrown
  rcases out_or p1 (n := 0) (by omega) with ho | ⟨i, hi, rfl⟩
  · rw [C_lineAt_out ho]
    exact ⟨_, _, rfl⟩
  · omega
/-- the letters of the text -/
def LET (s : LT) : Prop := ∀ i, i < s.2 → ∃ c : Nat, c < 128 ∧ s.1 i = nI c
theorem LET_ap {c : Nat} {s : LT} (hc : c < 128) (h : LET s) : LET (ap c s) := fun i hi => by
  show ∃ d : Nat, d < 128 ∧ upd s.1 s.2 (nI c) i = nI d
  by_cases e : i = s.2
  · rw [e, upd_at]
    exact ⟨c, hc, rfl⟩
  · have hi : i < s.2 + 1 := hi
    rw [upd_ne e]
    exact h i (by omega)
theorem LET_apI {v : Nat} {s : LT} (hv : v < 100) (h : LET s) : LET (apI v s) := fun i hi => by
  have hi : i < s.2 + dgs v := hi
  show ∃ d : Nat, d < 128 ∧ appI s.2 v s.1 i = nI d
  unfold dgs at hi
  unfold appI
  by_cases hv1 : v < 10
  · rw [if_pos hv1] at hi ⊢
    by_cases e : i = s.2
    · rw [e, upd_at]
      exact ⟨48 + v, by omega, rfl⟩
    · rw [upd_ne e]
      exact h i (by omega)
  · rw [if_neg hv1] at hi ⊢
    by_cases e : i = s.2
    · rw [e, upd_at]
      exact ⟨48 + v / 10, by omega, rfl⟩
    · rw [upd_ne e]
      by_cases e2 : i = s.2 + 1
      · rw [e2, upd_at]
        exact ⟨48 + v % 10, by omega, rfl⟩
      · rw [upd_ne e2]
        exact h i (by omega)
theorem LET_rowT {i L : Nat} {blk : Nat → Nat} (hi : i < 100) (hL : L < 100) (p : Nat) (hp : p ≤ 16) (hb : ∀ k, k < 16 → blk k ≤ 64) : LET (rowT i L blk p) := by
  induction p with
  | zero => exact LET_apI hL (LET_ap (by omega) (LET_apI hi (fun i hi => absurd hi (Nat.not_lt_zero i))))
  | succ p ih =>
    have ih := ih (by omega)
    have hbp := hb p (by omega)
    show LET (rowS p (blk p) (rowT i L blk p))
    unfold rowS
    split
    · exact ih
    · exact LET_apI (by omega) (LET_ap (by omega) (LET_apI (by omega) (LET_ap (by omega) ih)))
end LINES
