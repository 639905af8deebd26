/-! CASE 7: write -/
section CASE7
variable {j k t f e h i x q : Nat} {K S O L A B P Qo hd : Nat → Nat} {cO mown nF nE mfiles mentr p1 p2 p3 : Int32} {nO nL nA nC nV nU nP mprom mlinks mblocks mvals mowner cK mkinds mkept mshot cQ mquot : Nat → Int32} {oL : Nat → Int64}
theorem noB {b : Nat} (h : cntB B b = 0) : ∀ y, y < 640 → B y ≠ b + 1 := fun y hy z => by
  have h2 := cn_at (p := fun y => B y == b + 1) hy (by rw [z]; exact beq_self_eq_true _)
  unfold cntB at h
  omega
/-- the blocks that count for an owner when a place gets a new one -/
theorem cnt_new {o b0 : Nat} (hf : f ≤ 40) (hi : i < f) (hx : x < 16) (hO : O i = o) (hB : ∀ y, y < 640 → B y ≠ 0 → y / 16 < f) (hb0 : b0 < 64) (hfree : cntB B b0 = 0) : cn (fun b => isU O (un B (i * 16 + x) (b0 + 1)) o b) 64 = cn (fun b => inO O B o i b f || inF B i x b 16) 64 + 1 := by
  have hn := noB hfree
  have h := cn_upd (p := fun b => inO O B o i b f || inF B i x b 16) (q := fun b => isU O (un B (i * 16 + x) (b0 + 1)) o b) (n := 64) (k := b0) hb0 (fun b hb hne => by
    rw [Bool.eq_iff_iff, Bool.or_eq_true, inO_iff, inF_iff, isU_iff]
    constructor
    · rintro (⟨i', h1, h2, h3, x', h4, h5⟩ | ⟨x', h1, h2, h3⟩)
      · exact ⟨i' * 16 + x', by omega, by rw [un_ne (by omega)]; exact h5, by rw [show (i' * 16 + x') / 16 = i' by omega]; exact h3⟩
      · exact ⟨i * 16 + x', by omega, by rw [un_ne (by omega)]; exact h3, by rw [show (i * 16 + x') / 16 = i by omega]; exact hO⟩
    · rintro ⟨y, h1, h2, h3⟩
      by_cases e1 : y = i * 16 + x
      · rw [e1, un_at] at h2
        omega
      · rw [un_ne e1] at h2
        have h4 := hB y h1 (by omega)
        by_cases e2 : y / 16 = i
        · right
          exact ⟨y % 16, by omega, by omega, by rw [show i * 16 + y % 16 = y by omega]; exact h2⟩
        · left
          exact ⟨y / 16, h4, e2, h3, y % 16, by omega, by rw [show y / 16 * 16 + y % 16 = y by omega]; exact h2⟩)
  have e1 : ¬ (inO O B o i b0 f || inF B i x b0 16) = true := by
    rw [Bool.or_eq_true, inO_iff, inF_iff]
    rintro (⟨i', h1, h2, h3, x', h4, h5⟩ | ⟨x', h1, h2, h3⟩)
    · exact hn _ (by omega) h5
    · exact hn _ (by omega) h3
  have e2 : isU O (un B (i * 16 + x) (b0 + 1)) o b0 = true := by
    rw [isU_iff]
    exact ⟨i * 16 + x, by omega, un_at, by rw [show (i * 16 + x) / 16 = i by omega]; exact hO⟩
  rw [if_neg e1, if_pos e2] at h
  omega
/-- the lowest free block -/
def lowF (t : Nat) (B K S : Nat → Nat) : Nat := fst (fun b => usr t B K S b == 0) 64
theorem lowF_lt (h : 0 < frN t B K S) : lowF t B K S < 64 ∧ usr t B K S (lowF t B K S) = 0 := by
  obtain ⟨b, h1, h2⟩ := cn_pos h
  obtain ⟨g1, g2⟩ := fst_spec (fun b => usr t B K S b == 0) 64
  have hlt : fst (fun b => usr t B K S b == 0) 64 < 64 := by
    rcases Nat.lt_or_ge (fst (fun b => usr t B K S b == 0) 64) 64 with z | z
    · exact z
    · have := g1 b (by omega)
      rw [this] at h2
      cases h2
  exact ⟨hlt, by have := g2 hlt; exact beq_iff_eq.mp this⟩
theorem upd_back {m : Nat → Int32} {y : Nat} {v : Int32} : upd (upd m y v) y (m y) = m := by
  funext z
  by_cases e : z = y
  · rw [e, upd_at]
  · rw [upd_ne e, upd_ne e]
/-- in the class, where a new block is wanted -/
theorem C_write_new (hf : f ≤ 40) (hi : i < f) (hx : x < 16) (hq : q ≤ 999) (he : e ≤ 511) (ht : t ≤ 30) (hk : k ≤ 4) (hL : nL i = nI (L i)) (hL0 : L i ≠ 0) (hL9 : L i ≤ 9) (hB : ∀ y, y < 640 → nC y = nI (B y) - 1 ∧ B y ≤ 64 ∧ (B y ≠ 0 → y / 16 < f)) (hU : US t B K S nU) (hO : ∀ i, i < f → nO i = nI (O i) ∧ O i < k) (hP : ∀ o, o < 4 → nP o = nI (P o) ∧ P o ≤ 64) (hPs : sm P 4 ≤ 64) (hQ : cQ (O i) = nI (Qo (O i))) (hQ64 : Qo (O i) ≤ 64) (hn : B (i * 16 + x) = 0 ∨ usr t B K S (B (i * 16 + x) - 1) ≠ 1) :
    (sm P 4 < frN t B K S + P (O i) ∧ cn (fun b => isU O (un B (i * 16 + x) (lowF t B K S + 1)) (O i) b) 64 ≤ Qo (O i) →
      ∃ nU', f_C_write (nI i) (nI x) (nI q) (nI f) nO nL nC nV nU nP (nI e) cK (nI k) cQ = some (.ok (nI (lowF t B K S)), upd nC (i * 16 + x) (nI (lowF t B K S + 1) - 1), upd nV (lowF t B K S) (nI q), nU', upd nP (O i) (nI (P (O i) - 1)), nI (e + 1), upd cK e (nI 119)) ∧ BL (un B (i * 16 + x) (lowF t B K S + 1)) (upd nC (i * 16 + x) (nI (lowF t B K S + 1) - 1)) ∧ US t (un B (i * 16 + x) (lowF t B K S + 1)) K S nU') ∧
    (¬ (sm P 4 < frN t B K S + P (O i) ∧ cn (fun b => isU O (un B (i * 16 + x) (lowF t B K S + 1)) (O i) b) 64 ≤ Qo (O i)) →
      f_C_write (nI i) (nI x) (nI q) (nI f) nO nL nC nV nU nP (nI e) cK (nI k) cQ = some (.error 4, nC, nV, nU, nP, nI e, cK)) := by
  have w0 : f_C_requireWithin (nI q) 0 999 = some (.ok ()) := C_within_in (a := 0) (b := 999) (by omega) hq (by omega)
  obtain ⟨o1, o2⟩ := hO i hi
  obtain ⟨p1, p2⟩ := hP (O i) (by omega)
  obtain ⟨b1, b2, b3⟩ := hB (i * 16 + x) (by omega)
  have e1 : ¬ ((1 : Int32) = 0) := by decide
  have hut : ∃ u, f_S_userTotal (nI (B (i * 16 + x)) - 1) nU = some u ∧ ¬ u = 1 := by
    by_cases z : B (i * 16 + x) = 0
    · exact ⟨0, S_userTotal_out (m1n_out z), by decide⟩
    · have us := usr_le ht B K S (B (i * 16 + x) - 1)
      refine ⟨_, by rw [show nI (B (i * 16 + x)) - 1 = nI (B (i * 16 + x) - 1) from pk_sub (a := B (i * 16 + x)) (b := 1) (by omega), S_userTotal_in (by omega)], ?_⟩
      rw [hU _ (by omega)]
      intro z2
      exact absurd ((nI_eq (b := 1) (by omega) (by omega)).mp z2) (by omega)
  obtain ⟨u, hu1, hu2⟩ := hut
  have m1 : f_S_blocksOfOwner (nI (O i)) (nI i) (nI f) nO nC = some (mkO O B (O i) i f) := S_blocksOfOwner_ok (by omega) hf (fun y hy => nI_eq (by omega) (by omega)) (fun y hy => ⟨(hO y hy).1, by have := (hO y hy).2; omega⟩) (fun y hy => ⟨(hB y hy).1, (hB y hy).2.1⟩)
  have m2 : f_S_blocksInFile (nI i) (nI x) (nI f) nC = some (mkF B i x 16) := S_blocksInFile_ok hi hf (fun y hy => nI_eq (by omega) (by omega)) (fun y hy => ⟨(hB y hy).1, (hB y hy).2.1⟩)
  have m3 := Mk_count (Mk_or (mkO_Mk (O := O) (B := B) (o := O i) (ex := i) f hf (fun y hy => (hB y hy).2.1)) (mkF_Mk (B := B) (i := i) (ex := x) 16 (fun y hy => (hB _ (by omega)).2.1)))
  have m4 : f_C_quotaOf (nI (O i)) (nI k) cQ = some (nI (Qo (O i))) := by
    unfold f_C_quotaOf
    have a1 : ¬ nI (O i) < (0 : Int32) := nI_pos (by omega)
    have a2 : ¬ nI k ≤ nI (O i) := fun z => absurd ((nI_leI (by omega) (by omega)).mp z) (by omega)
    rw [if_neg a1, if_neg a2, if_neg (in_lim (by omega) (by omega)), nI_clamp (by omega), hQ]
  have hfr := frN_le t B K S
  have hc64 := cn_le (fun b => inO O B (O i) i b f || inF B i x b 16) 64
  have cmp1 : ((0 : Int32) < nI (frN t B K S) - nI (sm P 4) + nI (P (O i))) ↔ sm P 4 < frN t B K S + P (O i) := by
    have z : (nI (frN t B K S) - nI (sm P 4) + nI (P (O i)) : Int32).toInt = (frN t B K S : Int) - sm P 4 + P (O i) := by
      by_cases y : sm P 4 ≤ frN t B K S + P (O i)
      · rw [show nI (frN t B K S) - nI (sm P 4) + nI (P (O i)) = nI (frN t B K S + P (O i) - sm P 4) by
          rw [← pk_sub y, ← nI_add, Int32.sub_eq_add_neg, Int32.sub_eq_add_neg, Int32.add_assoc, Int32.add_assoc, Int32.add_comm (-_) _], nI_toInt (by omega)]
        omega
      · rw [Int32.toInt_add, pk_sub_toInt (by omega) (by omega), nI_toInt (by omega)]
        rw [Int.bmod_eq_of_le (by omega) (by omega)]
    rw [Int32.lt_iff_toInt_lt, z]
    have q2 : (0 : Int32).toInt = 0 := rfl
    omega
  have rb : f_C_requireBlockFor (nI (O i)) (nI i) (nI x) (nI f) nO nC nU nP (nI k) cQ = some (if cn (fun b => inO O B (O i) i b f || inF B i x b 16) 64 + 1 ≤ Qo (O i) then (if sm P 4 < frN t B K S + P (O i) then .ok () else .error 4) else .error 4) := by
    unfold f_C_requireBlockFor
    rw [m1, Option.bind_some, m2, Option.bind_some, m3, Option.bind_some, m4, Option.bind_some, C_freeN ht hU, Option.bind_some, S_promisedInAll_ok hP, Option.bind_some, S_promisedFor_in (by omega), Option.bind_some, p1, nI_1]
    simp only [cmp1, nI_leI (show cn (fun b => inO O B (O i) i b f || inF B i x b 16) 64 + 1 < 2 ^ 31 by omega) (show Qo (O i) < 2 ^ 31 by omega)]
    by_cases z1 : cn (fun b => inO O B (O i) i b f || inF B i x b 16) 64 + 1 ≤ Qo (O i)
    · rw [if_pos z1, if_pos z1]
      by_cases z2 : sm P 4 < frN t B K S + P (O i)
      · rw [if_pos z2, if_pos z2]
      · rw [if_neg z2, if_neg z2]
    · rw [if_neg z1, if_neg z1]
  have hPo : P (O i) ≤ sm P 4 := by
    have z := sm4_un (P := P) (o := O i) (q := 0) (by omega)
    omega
  have w2 : f_C_note 119 (nI e) cK = some (nI (e + 1), upd cK e (nI 119)) := C_note_ok (c := 119) (by omega) (by omega)
  unfold f_C_write
  rw [C_requireFile_in hf hi, C_requirePlace_in hx, w0, C_requireLinks_ok hf hi hL hL9, if_neg hL0, S_blockIn_in hi hf hx, b1, S_ownerIn_in hi hf, o1]
  simp only [Option.bind_some, hu1, hu2, if_false, rb]
  by_cases c : sm P 4 < frN t B K S + P (O i)
  · obtain ⟨l1, l2⟩ := lowF_lt (t := t) (B := B) (K := K) (S := S) (by omega)
    have hcn := cnt_new (O := O) (B := B) (o := O i) hf hi hx rfl (fun y hy => (hB y hy).2.2) l1 (by unfold usr at l2; omega)
    rw [hcn]
    by_cases d : cn (fun b => inO O B (O i) i b f || inF B i x b 16) 64 + 1 ≤ Qo (O i)
    · refine ⟨fun _ => ?_, fun z => absurd ⟨c, d⟩ z⟩
      have tb : f_S_takeBlock (nI (O i)) nU nP = some (nI (lowF t B K S), upd nP (O i) (nI (P (O i) - 1))) := S_takeBlock_ok (U := usr t B K S) (fun b hb => ⟨hU b hb, by have := usr_le ht B K S b; omega⟩) (by omega) p1 p2 l1
      obtain ⟨u', g1, g2, g3⟩ := setB (q := x) (v := lowF t B K S + 1) (B := B) (K := K) (S := S) (t := t) (nU := nU) hi hf hx (fun y hy => ⟨(hB y hy).1, (hB y hy).2.1⟩) hU (by omega)
      have g1 : f_S_setBlock (nI i) (nI x) (nI (lowF t B K S)) (nI f) nC nU = some (upd nC (i * 16 + x) (nI (lowF t B K S + 1) - 1), u') := by rw [nI_pred] at g1 ⊢; exact g1
      refine ⟨u', ?_, g2, g3⟩
      rw [if_pos d, if_pos c]
      simp only [tb, g1, S_setValue_in l1, w2, Option.bind_some]
    · refine ⟨fun z => absurd z.2 d, fun _ => ?_⟩
      rw [if_neg d]
  · refine ⟨fun z => absurd z.1 c, fun _ => ?_⟩
    rw [if_neg c]
    by_cases d : cn (fun b => inO O B (O i) i b f || inF B i x b 16) 64 + 1 ≤ Qo (O i)
    · rw [if_pos d]
    · rw [if_neg d]
theorem usr_pos {b y : Nat} (hy : y < 640) (h : B y = b + 1) : 0 < usr t B K S b := by
  have h2 := cn_at (p := fun y => B y == b + 1) hy (by rw [h]; exact beq_self_eq_true _)
  unfold usr cntB
  omega
end CASE7
