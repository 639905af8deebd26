/-! CASES THAT READ -/
theorem ne_m1 {i : Nat} (h : i < 2 ^ 31) : ¬ nI i = -1 := fun q => by
  have q2 := congrArg Int32.toInt q
  rw [nI_toInt h] at q2
  have q3 : (-1 : Int32).toInt = -1 := rfl
  omega
/-- CASE 12: usedBy -/
theorem c12 {k t f e : Nat} {K S O L A B P : Nat → Nat} {p1 cO mown nF nE mfiles mentr : Int32} {nO nL nA nC nV nU nP mprom mlinks mblocks mvals mowner : Nat → Int32} {oL : Nat → Int64} (hk : k ≤ 4) (g1 : cO = nI k) (g2 : mown = nI k) (hC : CORE k t K S O f L A B P e nF nO nL nA nC nV nU nP nE mprom mfiles mlinks mblocks mvals mentr) (hM : ∀ i, i < f → mowner i = nI (O i)) : ∃ oL' mc, f_case12 p1 nF nO nC cO oL mown mowner mblocks = some (oL', mc) := by
  subst g1
  subst g2
  obtain ⟨hf, rfl, -, -, -, hFi, hB, -⟩ := hC
  unfold f_case12 f_L_usedBy f_C_usedBy f_M_usedBy f_M_thrown f_M_fails
  rcases out_or p1 (n := k) (by omega) with h | ⟨o, ho, rfl⟩
  · rw [C_requireOwner_out hk h, M_isOwner_out hk h]
    exact ⟨_, _, rfl⟩
  · rw [C_requireOwner_in hk ho, M_isOwner_in hk ho]
    have b1 : f_S_blocksOfOwner (nI o) (-1) (nI f) nO nC = some (mkO O B o 99 f) := S_blocksOfOwner_ok (by omega) hf (fun i hi => ⟨fun q => absurd q (ne_m1 (by omega)), fun q => by omega⟩) (fun i hi => ⟨(hFi i hi).1, by have := (hFi i hi).2.1; omega⟩) (fun x hx => ⟨(hB x hx).1, (hB x hx).2.2.1⟩)
    have b2 := counts_eq (o := o) (O := O) (B := B) hf (fun x hx => (hB x hx).2.2.1) (fun x hx h => ((hB x hx).2.2.2 h).1)
    have b3 : f_M_countsFor (nI o) mowner mblocks = some (nI (cn (fun b => isU O B o b) 64)) := M_countsFor_ok (by omega) (fun x hx => ⟨(hB x hx).2.1, (hB x hx).2.2.1⟩) (fun x hx h => by
      have h4 := ((hB x hx).2.2.2 h).1
      exact ⟨hM _ h4, by have := (hFi _ h4).2.1; omega⟩)
    have e1 : ¬ ((1 : Int32) = 0) := by decide
    simp only [Option.bind_some, b1, b2, b3, e1, if_false, if_true, out_same, cmp_same]
    exact ⟨_, _, rfl⟩
/-- CASE 2: fileCount -/
theorem c2 {nF mfiles : Int32} {f : Nat} (h1 : nF = nI f) (h2 : mfiles = nI f) : ∃ mc, f_case2 nF mfiles = some mc := by
  subst h1
  subst h2
  unfold f_case2 f_C_fileCount f_S_fileTotal f_M_fileCount
  simp only [Option.bind_some, if_true]
  exact ⟨_, rfl⟩
/-- CASE 35: journalSize -/
theorem c35 {nE mentr : Int32} {e : Nat} (h1 : nE = nI e) (h2 : mentr = nI e) : ∃ mc, f_case35 nE mentr = some mc := by
  subst h1
  subst h2
  unfold f_case35 f_C_journalSize f_S_entryTotal f_M_journalSize
  simp only [Option.bind_some, if_true]
  exact ⟨_, rfl⟩
/-- CASE 13: free -/
theorem c13 {t : Nat} {B K S : Nat → Nat} {nU mblocks mkept mshot : Nat → Int32} (hB : ∀ x, x < 640 → mblocks x = nI (B x) ∧ B x ≤ 64) (hS : SnM t K S mkept mshot) (hU : ∀ b, b < 64 → nU b = nI (usr t B K S b)) : ∃ mc, f_case13 nU mblocks (nI t) mkept mshot = some mc := by
  unfold f_case13 f_C_free f_M_free
  rw [S_freeTotal_ok (U := usr t B K S) (fun b hb => ⟨hU b hb, by have := usr_le hS.1 B K S b; omega⟩), M_freeNow_ok hB hS]
  simp only [Option.bind_some, if_true]
  exact ⟨_, rfl⟩
/-- CASE 14: usersOf -/
theorem c14 {t : Nat} {B K S : Nat → Nat} {p1 : Int32} {nU mblocks mkept mshot : Nat → Int32} {oL : Nat → Int64} (hB : ∀ x, x < 640 → mblocks x = nI (B x) ∧ B x ≤ 64) (hS : SnM t K S mkept mshot) (hU : ∀ b, b < 64 → nU b = nI (usr t B K S b)) : ∃ oL' mc, f_case14 p1 nU oL mblocks (nI t) mkept mshot = some (oL', mc) := by
  unfold f_case14 f_L_usersOf f_C_usersOf f_C_requireBlock f_M_usersOf f_M_thrown f_M_fails
  have e1 : ¬ ((1 : Int32) = 0) := by decide
  rcases out_or p1 (n := 64) (by omega) with h | ⟨b, hb, rfl⟩
  · have w : f_M_in p1 0 63 = some 0 := M_in_out (k := 64) (by omega) h
    rw [C_isBlock_out h, w]
    exact ⟨_, _, rfl⟩
  · have w : f_M_in (nI b) 0 63 = some 1 := M_in_in (k := 64) (by omega) hb
    rw [C_isBlock_in hb, w]
    have u := M_users_ok hb hB hS
    simp only [Option.bind_some, S_userTotal_in hb, hU b hb, show f_M_users (nI b) mblocks (nI t) mkept mshot = some (nI (usr t B K S b)) from u, e1, if_false, if_true, out_same, cmp_same]
    exact ⟨_, _, rfl⟩
