/-! CASE 7: write -/
section CASE7
variable {j k t f e h i x q : Nat} {K S O L A B P Qo hd : Nat → Nat} {cO mown nF nE mfiles mentr p1 p2 p3 : Int32} {nO nL nA nC nV nU nP mprom mlinks mblocks mvals mowner cK mkinds mkept mshot cQ mquot : Nat → Int32} {oL : Nat → Int64}
theorem noB {b : Nat} (h : cntB B b = 0) : ∀ y, y < 640 → B y ≠ b + 1 := fun y hy z => by
  have h2 := cn_at (p := fun y => B y == b + 1) hy (by rw [z]; exact beq_self_eq_true _)
  unfold cntB at h
  omega
/-- the blocks that count for an owner when a place gets a new one -/
theorem cnt_new {o b0 : Nat} (hf : f ≤ 40) (hi : i < f) (hx : x < 16) (hO : O i = o) (hB : ∀ y, y < 640 → B y ≠ 0 → y / 16 < f) (hb0 : b0 < 64) (hfree : cntB B b0 = 0) : cn (fun b => isU O (un B (i * 16 + x) (b0 + 1)) o b) 64 = cn (fun b => inO O B o i b f || inF B i x b 16) 64 + 1 := by
  have hn := noB hfree
  have h := cn_upd (p := fun b => inO O B o i b f || inF B i x b 16) (q := fun b => isU O (un B (i * 16 + x) (b0 + 1)) o b) (n := 64) (k := b0) hb0 (fun b hb hne => by
    rw [Bool.eq_iff_iff, Bool.or_eq_true, inO_iff, inF_iff, isU_iff]
    constructor
    · rintro (⟨i', h1, h2, h3, x', h4, h5⟩ | ⟨x', h1, h2, h3⟩)
      · exact ⟨i' * 16 + x', by omega, by rw [un_ne (by omega)]; exact h5, by rw [show (i' * 16 + x') / 16 = i' by omega]; exact h3⟩
      · exact ⟨i * 16 + x', by omega, by rw [un_ne (by omega)]; exact h3, by rw [show (i * 16 + x') / 16 = i by omega]; exact hO⟩
    · rintro ⟨y, h1, h2, h3⟩
      by_cases e1 : y = i * 16 + x
      · rw [e1, un_at] at h2
        omega
      · rw [un_ne e1] at h2
        have h4 := hB y h1 (by omega)
        by_cases e2 : y / 16 = i
        · right
          exact ⟨y % 16, by omega, by omega, by rw [show i * 16 + y % 16 = y by omega]; exact h2⟩
        · left
          exact ⟨y / 16, h4, e2, h3, y % 16, by omega, by rw [show y / 16 * 16 + y % 16 = y by omega]; exact h2⟩)
  have e1 : ¬ (inO O B o i b0 f || inF B i x b0 16) = true := by
    rw [Bool.or_eq_true, inO_iff, inF_iff]
    rintro (⟨i', h1, h2, h3, x', h4, h5⟩ | ⟨x', h1, h2, h3⟩)
    · exact hn _ (by omega) h5
    · exact hn _ (by omega) h3
  have e2 : isU O (un B (i * 16 + x) (b0 + 1)) o b0 = true := by
    rw [isU_iff]
    exact ⟨i * 16 + x, by omega, un_at, by rw [show (i * 16 + x) / 16 = i by omega]; exact hO⟩
  rw [if_neg e1, if_pos e2] at h
  omega
/-- the lowest free block -/
def lowF (t : Nat) (B K S : Nat → Nat) : Nat := fst (fun b => usr t B K S b == 0) 64
theorem lowF_lt (h : 0 < frN t B K S) : lowF t B K S < 64 ∧ usr t B K S (lowF t B K S) = 0 := by
  obtain ⟨b, h1, h2⟩ := cn_pos h
  obtain ⟨g1, g2⟩ := fst_spec (fun b => usr t B K S b == 0) 64
  have hlt : fst (fun b => usr t B K S b == 0) 64 < 64 := by
    rcases Nat.lt_or_ge (fst (fun b => usr t B K S b == 0) 64) 64 with z | z
    · exact z
    · have := g1 b (by omega)
      rw [this] at h2
      cases h2
  exact ⟨hlt, by have := g2 hlt; exact beq_iff_eq.mp this⟩
theorem upd_back {m : Nat → Int32} {y : Nat} {v : Int32} : upd (upd m y v) y (m y) = m := by
  funext z
  by_cases e : z = y
  · rw [e, upd_at]
  · rw [upd_ne e, upd_ne e]
/-- in the reference, where a new block is wanted -/
theorem M_write_new (hf : f ≤ 40) (hi : i < f) (hx : x < 16) (hq : q ≤ 999) (he : e ≤ 511) (hS : SnM t K S mkept mshot) (hL : mlinks i = nI (L i)) (hL0 : L i ≠ 0) (hL9 : L i ≤ 9) (hB : ∀ y, y < 640 → mblocks y = nI (B y) ∧ B y ≤ 64 ∧ (B y ≠ 0 → y / 16 < f)) (hO : ∀ i, i < f → mowner i = nI (O i) ∧ O i < 4) (hP : ∀ o, o < 4 → mprom o = nI (P o) ∧ P o ≤ 64) (hPs : sm P 4 ≤ 64) (hQ : mquot (O i) = nI (Qo (O i))) (hQ64 : Qo (O i) ≤ 64) (hn : B (i * 16 + x) = 0 ∨ 1 < usr t B K S (B (i * 16 + x) - 1)) :
    f_M_write (nI i) (nI x) (nI q) mquot mprom (nI f) mowner mlinks mblocks mvals (nI t) mkept mshot (nI e) mkinds =
      if sm P 4 < frN t B K S + P (O i) then
        (if cn (fun b => isU O (un B (i * 16 + x) (lowF t B K S + 1)) (O i) b) 64 ≤ Qo (O i) then some (nI (lowF t B K S), 0, upd mprom (O i) (nI (P (O i) - 1)), upd mblocks (i * 16 + x) (nI (lowF t B K S + 1)), upd mvals (lowF t B K S) (nI q), nI (e + 1), upd mkinds e (nI 119))
         else some (0, 4, mprom, mblocks, mvals, nI e, mkinds))
      else some (0, 4, mprom, mblocks, mvals, nI e, mkinds) := by
  have ht := hS.1
  have w0 : f_M_in (nI q) 0 999 = some 1 := M_within_in (a := 0) (b := 999) (by omega) hq (by omega)
  obtain ⟨o1, o2⟩ := hO i hi
  obtain ⟨p1, p2⟩ := hP (O i) o2
  obtain ⟨b1, b2, b3⟩ := hB (i * 16 + x) (by omega)
  have mm : (16 : Int32) * nI i + nI x = nI (i * 16 + x) := by rw [mul16, Nat.mul_comm]
  have e1 : ¬ ((1 : Int32) = 0) := by decide
  have e2 := in_lim (j := i) (n := 40) (by omega) (by omega)
  have e2_ := in_l2 (j := i) (n := 40) (by omega) (by omega)
  have e3 := in_lim (j := i * 16 + x) (n := 640) (by omega) (by omega)
  have e3_ := in_l2 (j := i * 16 + x) (n := 640) (by omega) (by omega)
  have e4 := in_lim (j := O i) (n := 4) (by omega) (by omega)
  have e4_ := in_l2 (j := O i) (n := 4) (by omega) (by omega)
  have eL : ¬ nI (L i) = (0 : Int32) := nI_ne0 (by omega) (by omega)
  have fr := M_freeN (t := t) (B := B) (K := K) (S := S) (mblocks := mblocks) (mkept := mkept) (mshot := mshot) (fun y hy => ⟨(hB y hy).1, (hB y hy).2.1⟩) hS
  have pr := M_promisedNow_ok hP
  have lf : f_M_lowestFree mblocks (nI t) mkept mshot = some (nI (lowF t B K S)) := M_lowestFree_ok (fun y hy => ⟨(hB y hy).1, (hB y hy).2.1⟩) hS
  have hfr := frN_le t B K S
  have w2 : f_M_enters 119 (nI e) mkinds = some (nI (e + 1), upd mkinds e (nI 119)) := M_enters_ok (c := 119) (by omega) (by omega)
  have cmp1 : ((1 : Int32) ≤ nI (frN t B K S) - nI (sm P 4) + nI (P (O i))) ↔ sm P 4 < frN t B K S + P (O i) := by
    have z : (nI (frN t B K S) - nI (sm P 4) + nI (P (O i)) : Int32).toInt = (frN t B K S : Int) - sm P 4 + P (O i) := by
      by_cases y : sm P 4 ≤ frN t B K S + P (O i)
      · rw [show nI (frN t B K S) - nI (sm P 4) + nI (P (O i)) = nI (frN t B K S + P (O i) - sm P 4) by
          rw [← pk_sub y, ← nI_add, Int32.sub_eq_add_neg, Int32.sub_eq_add_neg, Int32.add_assoc, Int32.add_assoc, Int32.add_comm (-_) _], nI_toInt (by omega)]
        omega
      · rw [Int32.toInt_add, pk_sub_toInt (by omega) (by omega), nI_toInt (by omega)]
        rw [Int.bmod_eq_of_le (by omega) (by omega)]
    rw [Int32.le_iff_toInt_le, z]
    have q2 : (1 : Int32).toInt = 1 := rfl
    omega
  unfold f_M_write
  rw [M_isFile_in hi hf, M_isPlace_in hx, w0]
  simp only [Option.bind_some, e1, e2_, e3_, if_false, nI_clamp (show i < 2 ^ 31 by omega), hL, eL, mm, nI_clamp (show i * 16 + x < 2 ^ 31 by omega), b1, o1, e4_, nI_clamp (show O i < 2 ^ 31 by omega), fr, pr, p1, cmp1, lf, nI_1, hQ]
  have X : (if sm P 4 < frN t B K S + P (O i) then
      (f_M_countsFor (nI (O i)) mowner (upd mblocks (i * 16 + x) (nI (lowF t B K S + 1)))).bind fun r27 =>
        if r27 ≤ nI (Qo (O i)) then
          (if nI (P (O i)) ≤ 0 then
            (if (upd mblocks (i * 16 + x) (nI (lowF t B K S + 1)) (i * 16 + x) - 1) < 0 ∨ 64 ≤ (upd mblocks (i * 16 + x) (nI (lowF t B K S + 1)) (i * 16 + x) - 1).toNatClampNeg then none else
              (f_M_enters 119 (nI e) mkinds).bind fun (a, b) => some (upd mblocks (i * 16 + x) (nI (lowF t B K S + 1)) (i * 16 + x) - 1, (0 : Int32), upd mprom (O i) (nI (P (O i)) - 0), upd mblocks (i * 16 + x) (nI (lowF t B K S + 1)), upd mvals (upd mblocks (i * 16 + x) (nI (lowF t B K S + 1)) (i * 16 + x) - 1).toNatClampNeg (nI q), a, b))
          else
            (if (upd mblocks (i * 16 + x) (nI (lowF t B K S + 1)) (i * 16 + x) - 1) < 0 ∨ 64 ≤ (upd mblocks (i * 16 + x) (nI (lowF t B K S + 1)) (i * 16 + x) - 1).toNatClampNeg then none else
              (f_M_enters 119 (nI e) mkinds).bind fun (a, b) => some (upd mblocks (i * 16 + x) (nI (lowF t B K S + 1)) (i * 16 + x) - 1, (0 : Int32), upd mprom (O i) (nI (P (O i)) - 1), upd mblocks (i * 16 + x) (nI (lowF t B K S + 1)), upd mvals (upd mblocks (i * 16 + x) (nI (lowF t B K S + 1)) (i * 16 + x) - 1).toNatClampNeg (nI q), a, b)))
        else (f_M_fails 4).bind fun (a, b) => some (a, b, mprom, upd (upd mblocks (i * 16 + x) (nI (lowF t B K S + 1))) (i * 16 + x) (nI (B (i * 16 + x))), mvals, nI e, mkinds)
      else (f_M_fails 4).bind fun (a, b) => some (a, b, mprom, mblocks, mvals, nI e, mkinds)) =
      if sm P 4 < frN t B K S + P (O i) then
        (if cn (fun b => isU O (un B (i * 16 + x) (lowF t B K S + 1)) (O i) b) 64 ≤ Qo (O i) then some (nI (lowF t B K S), 0, upd mprom (O i) (nI (P (O i) - 1)), upd mblocks (i * 16 + x) (nI (lowF t B K S + 1)), upd mvals (lowF t B K S) (nI q), nI (e + 1), upd mkinds e (nI 119))
         else some (0, 4, mprom, mblocks, mvals, nI e, mkinds))
      else some (0, 4, mprom, mblocks, mvals, nI e, mkinds) := by
    by_cases c : sm P 4 < frN t B K S + P (O i)
    · have hPo : P (O i) ≤ sm P 4 := by
        have z := sm4_un (P := P) (o := O i) (q := 0) (by omega)
        omega
      obtain ⟨l1, l2⟩ := lowF_lt (t := t) (B := B) (K := K) (S := S) (by omega)
      have ct : f_M_countsFor (nI (O i)) mowner (upd mblocks (i * 16 + x) (nI (lowF t B K S + 1))) = some (nI (cn (fun b => isU O (un B (i * 16 + x) (lowF t B K S + 1)) (O i) b) 64)) := M_countsFor_ok o2 (fun y hy => ⟨upd_un (fun _ => (hB y hy).1), by
        by_cases z : y = i * 16 + x
        · rw [z, un_at]; omega
        · rw [un_ne z]; exact (hB y hy).2.1⟩) (fun y hy hne => by
        by_cases z : y = i * 16 + x
        · rw [z, show (i * 16 + x) / 16 = i by omega]
          exact ⟨o1, o2⟩
        · rw [un_ne z] at hne
          exact hO _ ((hB y hy).2.2 hne))
      have c64 := cn_le (fun b => isU O (un B (i * 16 + x) (lowF t B K S + 1)) (O i) b) 64
      rw [if_pos c, if_pos c, ct, Option.bind_some]
      by_cases d : cn (fun b => isU O (un B (i * 16 + x) (lowF t B K S + 1)) (O i) b) 64 ≤ Qo (O i)
      · rw [if_pos d, if_pos ((nI_leI (by omega) (by omega)).mpr d)]
        simp only [upd_at, nI_pred, w2, Option.bind_some, in_l2 (show lowF t B K S < 64 by omega) (by omega), if_false, nI_clamp (show lowF t B K S < 2 ^ 31 by omega)]
        by_cases z : P (O i) = 0
        · rw [z]
          rfl
        · rw [if_neg (nI_nle (by omega) (by omega)), show nI (P (O i)) - 1 = nI (P (O i) - 1) from pk_sub (a := P (O i)) (b := 1) (by omega)]
      · rw [if_neg d, if_neg (fun z => d ((nI_leI (by omega) (by omega)).mp z)), ← b1, upd_back]
        rfl
    · rw [if_neg c, if_neg c]
      rfl
  rcases hn with hn | hn
  · rw [if_pos (show nI (B (i * 16 + x)) = 0 by rw [hn]; rfl)]
    exact X
  · by_cases z : B (i * 16 + x) = 0
    · rw [if_pos (show nI (B (i * 16 + x)) = 0 by rw [z]; rfl)]
      exact X
    · have us := usr_le ht B K S (B (i * 16 + x) - 1)
      have ub : f_M_users (nI (B (i * 16 + x)) - 1) mblocks (nI t) mkept mshot = some (nI (usr t B K S (B (i * 16 + x) - 1))) := by
        rw [show nI (B (i * 16 + x)) - 1 = nI (B (i * 16 + x) - 1) from pk_sub (a := B (i * 16 + x)) (b := 1) (by omega)]
        exact M_users_ok (by omega) (fun y hy => ⟨(hB y hy).1, (hB y hy).2.1⟩) hS
      rw [if_neg (nI_ne0 (by omega) (by omega)), ub, Option.bind_some, if_neg (show ¬ nI (usr t B K S (B (i * 16 + x) - 1)) ≤ 1 from fun z => absurd ((nI_leI (b := 1) (by omega) (by omega)).mp z) (by omega))]
      exact X
/-- in the class, where a new block is wanted -/
theorem C_write_new (hf : f ≤ 40) (hi : i < f) (hx : x < 16) (hq : q ≤ 999) (he : e ≤ 511) (ht : t ≤ 30) (hk : k ≤ 4) (hL : nL i = nI (L i)) (hL0 : L i ≠ 0) (hL9 : L i ≤ 9) (hB : ∀ y, y < 640 → nC y = nI (B y) - 1 ∧ B y ≤ 64 ∧ (B y ≠ 0 → y / 16 < f)) (hU : US t B K S nU) (hO : ∀ i, i < f → nO i = nI (O i) ∧ O i < k) (hP : ∀ o, o < 4 → nP o = nI (P o) ∧ P o ≤ 64) (hPs : sm P 4 ≤ 64) (hQ : cQ (O i) = nI (Qo (O i))) (hQ64 : Qo (O i) ≤ 64) (hn : B (i * 16 + x) = 0 ∨ usr t B K S (B (i * 16 + x) - 1) ≠ 1) :
    (sm P 4 < frN t B K S + P (O i) ∧ cn (fun b => isU O (un B (i * 16 + x) (lowF t B K S + 1)) (O i) b) 64 ≤ Qo (O i) →
      ∃ nU', f_C_write (nI i) (nI x) (nI q) (nI f) nO nL nC nV nU nP (nI e) cK (nI k) cQ = some (.ok (nI (lowF t B K S)), upd nC (i * 16 + x) (nI (lowF t B K S + 1) - 1), upd nV (lowF t B K S) (nI q), nU', upd nP (O i) (nI (P (O i) - 1)), nI (e + 1), upd cK e (nI 119)) ∧ BL (un B (i * 16 + x) (lowF t B K S + 1)) (upd nC (i * 16 + x) (nI (lowF t B K S + 1) - 1)) ∧ US t (un B (i * 16 + x) (lowF t B K S + 1)) K S nU') ∧
    (¬ (sm P 4 < frN t B K S + P (O i) ∧ cn (fun b => isU O (un B (i * 16 + x) (lowF t B K S + 1)) (O i) b) 64 ≤ Qo (O i)) →
      f_C_write (nI i) (nI x) (nI q) (nI f) nO nL nC nV nU nP (nI e) cK (nI k) cQ = some (.error 4, nC, nV, nU, nP, nI e, cK)) := by
  have w0 : f_C_requireWithin (nI q) 0 999 = some (.ok ()) := C_within_in (a := 0) (b := 999) (by omega) hq (by omega)
  obtain ⟨o1, o2⟩ := hO i hi
  obtain ⟨p1, p2⟩ := hP (O i) (by omega)
  obtain ⟨b1, b2, b3⟩ := hB (i * 16 + x) (by omega)
  have e1 : ¬ ((1 : Int32) = 0) := by decide
  have hut : ∃ u, f_S_userTotal (nI (B (i * 16 + x)) - 1) nU = some u ∧ ¬ u = 1 := by
    by_cases z : B (i * 16 + x) = 0
    · exact ⟨0, S_userTotal_out (m1n_out z), by decide⟩
    · have us := usr_le ht B K S (B (i * 16 + x) - 1)
      refine ⟨_, by rw [show nI (B (i * 16 + x)) - 1 = nI (B (i * 16 + x) - 1) from pk_sub (a := B (i * 16 + x)) (b := 1) (by omega), S_userTotal_in (by omega)], ?_⟩
      rw [hU _ (by omega)]
      intro z2
      exact absurd ((nI_eq (b := 1) (by omega) (by omega)).mp z2) (by omega)
  obtain ⟨u, hu1, hu2⟩ := hut
  have m1 : f_S_blocksOfOwner (nI (O i)) (nI i) (nI f) nO nC = some (mkO O B (O i) i f) := S_blocksOfOwner_ok (by omega) hf (fun y hy => nI_eq (by omega) (by omega)) (fun y hy => ⟨(hO y hy).1, by have := (hO y hy).2; omega⟩) (fun y hy => ⟨(hB y hy).1, (hB y hy).2.1⟩)
  have m2 : f_S_blocksInFile (nI i) (nI x) (nI f) nC = some (mkF B i x 16) := S_blocksInFile_ok hi hf (fun y hy => nI_eq (by omega) (by omega)) (fun y hy => ⟨(hB y hy).1, (hB y hy).2.1⟩)
  have m3 := Mk_count (Mk_or (mkO_Mk (O := O) (B := B) (o := O i) (ex := i) f hf (fun y hy => (hB y hy).2.1)) (mkF_Mk (B := B) (i := i) (ex := x) 16 (fun y hy => (hB _ (by omega)).2.1)))
  have m4 : f_C_quotaOf (nI (O i)) (nI k) cQ = some (nI (Qo (O i))) := by
    unfold f_C_quotaOf
    have a1 : ¬ nI (O i) < (0 : Int32) := nI_pos (by omega)
    have a2 : ¬ nI k ≤ nI (O i) := fun z => absurd ((nI_leI (by omega) (by omega)).mp z) (by omega)
    rw [if_neg a1, if_neg a2, if_neg (in_lim (by omega) (by omega)), nI_clamp (by omega), hQ]
  have hfr := frN_le t B K S
  have hc64 := cn_le (fun b => inO O B (O i) i b f || inF B i x b 16) 64
  have cmp1 : ((0 : Int32) < nI (frN t B K S) - nI (sm P 4) + nI (P (O i))) ↔ sm P 4 < frN t B K S + P (O i) := by
    have z : (nI (frN t B K S) - nI (sm P 4) + nI (P (O i)) : Int32).toInt = (frN t B K S : Int) - sm P 4 + P (O i) := by
      by_cases y : sm P 4 ≤ frN t B K S + P (O i)
      · rw [show nI (frN t B K S) - nI (sm P 4) + nI (P (O i)) = nI (frN t B K S + P (O i) - sm P 4) by
          rw [← pk_sub y, ← nI_add, Int32.sub_eq_add_neg, Int32.sub_eq_add_neg, Int32.add_assoc, Int32.add_assoc, Int32.add_comm (-_) _], nI_toInt (by omega)]
        omega
      · rw [Int32.toInt_add, pk_sub_toInt (by omega) (by omega), nI_toInt (by omega)]
        rw [Int.bmod_eq_of_le (by omega) (by omega)]
    rw [Int32.lt_iff_toInt_lt, z]
    have q2 : (0 : Int32).toInt = 0 := rfl
    omega
  have rb : f_C_requireBlockFor (nI (O i)) (nI i) (nI x) (nI f) nO nC nU nP (nI k) cQ = some (if cn (fun b => inO O B (O i) i b f || inF B i x b 16) 64 + 1 ≤ Qo (O i) then (if sm P 4 < frN t B K S + P (O i) then .ok () else .error 4) else .error 4) := by
    unfold f_C_requireBlockFor
    rw [m1, Option.bind_some, m2, Option.bind_some, m3, Option.bind_some, m4, Option.bind_some, C_freeN ht hU, Option.bind_some, S_promisedInAll_ok hP, Option.bind_some, S_promisedFor_in (by omega), Option.bind_some, p1, nI_1]
    simp only [cmp1, nI_leI (show cn (fun b => inO O B (O i) i b f || inF B i x b 16) 64 + 1 < 2 ^ 31 by omega) (show Qo (O i) < 2 ^ 31 by omega)]
    by_cases z1 : cn (fun b => inO O B (O i) i b f || inF B i x b 16) 64 + 1 ≤ Qo (O i)
    · rw [if_pos z1, if_pos z1]
      by_cases z2 : sm P 4 < frN t B K S + P (O i)
      · rw [if_pos z2, if_pos z2]
      · rw [if_neg z2, if_neg z2]
    · rw [if_neg z1, if_neg z1]
  have hPo : P (O i) ≤ sm P 4 := by
    have z := sm4_un (P := P) (o := O i) (q := 0) (by omega)
    omega
  have w2 : f_C_note 119 (nI e) cK = some (nI (e + 1), upd cK e (nI 119)) := C_note_ok (c := 119) (by omega) (by omega)
  unfold f_C_write
  rw [C_requireFile_in hf hi, C_requirePlace_in hx, w0, C_requireLinks_ok hf hi hL hL9, if_neg hL0, S_blockIn_in hi hf hx, b1, S_ownerIn_in hi hf, o1]
  simp only [Option.bind_some, hu1, hu2, if_false, rb]
  by_cases c : sm P 4 < frN t B K S + P (O i)
  · obtain ⟨l1, l2⟩ := lowF_lt (t := t) (B := B) (K := K) (S := S) (by omega)
    have hcn := cnt_new (O := O) (B := B) (o := O i) hf hi hx rfl (fun y hy => (hB y hy).2.2) l1 (by unfold usr at l2; omega)
    rw [hcn]
    by_cases d : cn (fun b => inO O B (O i) i b f || inF B i x b 16) 64 + 1 ≤ Qo (O i)
    · refine ⟨fun _ => ?_, fun z => absurd ⟨c, d⟩ z⟩
      have tb : f_S_takeBlock (nI (O i)) nU nP = some (nI (lowF t B K S), upd nP (O i) (nI (P (O i) - 1))) := S_takeBlock_ok (U := usr t B K S) (fun b hb => ⟨hU b hb, by have := usr_le ht B K S b; omega⟩) (by omega) p1 p2 l1
      obtain ⟨u', g1, g2, g3⟩ := setB (q := x) (v := lowF t B K S + 1) (B := B) (K := K) (S := S) (t := t) (nU := nU) hi hf hx (fun y hy => ⟨(hB y hy).1, (hB y hy).2.1⟩) hU (by omega)
      have g1 : f_S_setBlock (nI i) (nI x) (nI (lowF t B K S)) (nI f) nC nU = some (upd nC (i * 16 + x) (nI (lowF t B K S + 1) - 1), u') := by rw [nI_pred] at g1 ⊢; exact g1
      refine ⟨u', ?_, g2, g3⟩
      rw [if_pos d, if_pos c]
      simp only [tb, g1, S_setValue_in l1, w2, Option.bind_some]
    · refine ⟨fun z => absurd z.2 d, fun _ => ?_⟩
      rw [if_neg d]
  · refine ⟨fun z => absurd z.1 c, fun _ => ?_⟩
    rw [if_neg c]
    by_cases d : cn (fun b => inO O B (O i) i b f || inF B i x b 16) 64 + 1 ≤ Qo (O i)
    · rw [if_pos d]
    · rw [if_neg d]
theorem usr_pos {b y : Nat} (hy : y < 640) (h : B y = b + 1) : 0 < usr t B K S b := by
  have h2 := cn_at (p := fun y => B y == b + 1) hy (by rw [h]; exact beq_self_eq_true _)
  unfold usr cntB
  omega
theorem c7 (hj : j ≤ 511) (hW : OWN k Qo cO cQ mown mquot) (hC : CORE k t K S O f L A B P e nF nO nL nA nC nV nU nP nE mprom mfiles mlinks mblocks mvals mentr) (hV : ALV f L hd A) (hM : ∀ i, i < f → mowner i = nI (O i)) (hS : SnM t K S mkept mshot) (hE : ENT j e cK mkinds) :
    ∃ nC' nV' nU' nP' nE' cK' oL' mc mp' mb' mv' me' mk', f_case7 p1 p2 p3 nF nO nL nC nV nU nP nE cK cO cQ oL mquot mprom mfiles mowner mlinks mblocks mvals (nI t) mkept mshot mentr mkinds = some (nC', nV', nU', nP', nE', cK', oL', mc, mp', mb', mv', me', mk') ∧ ∃ B' P' e', e ≤ e' ∧ CORE k t K S O f L A B' P' e' nF nO nL nA nC' nV' nU' nP' nE' mp' mfiles mlinks mb' mv' me' ∧ ENT (j + 1) e' cK' mk' := by
  have hC0 := hC
  obtain ⟨hk, rfl, rfl, hQ⟩ := hW
  obtain ⟨hf, rfl, rfl, rfl, rfl, hF, hB, hU, hP, hPs, hA⟩ := hC
  have he := hE.1
  have e1 : ¬ ((1 : Int32) = 0) := by decide
  unfold f_case7 f_L_write f_M_thrown
  rcases out_or p1 (n := f) (by omega) with ho | ⟨i, hi, rfl⟩
  · unfold f_C_write f_M_write
    rw [C_requireFile_out ho, M_isFile_out hf ho]
    exact ⟨_, _, _, _, _, _, _, _, _, _, _, _, _, rfl, B, P, e, Nat.le_refl _, hC0, ENT_next hE⟩
  · rcases out_or p2 (n := 16) (by omega) with ho | ⟨x, hx, rfl⟩
    · unfold f_C_write f_M_write
      rw [C_requireFile_in hf hi, M_isFile_in hi hf, C_requirePlace_out ho, M_isPlace_out ho]
      exact ⟨_, _, _, _, _, _, _, _, _, _, _, _, _, rfl, B, P, e, Nat.le_refl _, hC0, ENT_next hE⟩
    · rcases wthn p3 (a := 0) (b := 999) (by omega) (by omega) with ⟨q, -, hq, rfl⟩ | ⟨w1, w2⟩
      · have w1 : f_C_requireWithin (nI q) 0 999 = some (.ok ()) := C_within_in (a := 0) (b := 999) (by omega) hq (by omega)
        have w2 : f_M_in (nI q) 0 999 = some 1 := M_within_in (a := 0) (b := 999) (by omega) hq (by omega)
        obtain ⟨a1, a2, a3, a4, a5⟩ := hF i hi
        obtain ⟨q1, q2, q3⟩ := hQ (O i) a2
        by_cases q0 : L i = 0
        · unfold f_C_write f_M_write
          rw [C_requireFile_in hf hi, M_isFile_in hi hf, C_requirePlace_in hx, M_isPlace_in hx, w1, w2, C_requireLinks_ok hf hi a3 a5, q0]
          simp only [Option.bind_some, e1, if_false, in_l2 (show i < 40 by omega) (by omega), nI_clamp (show i < 2 ^ 31 by omega), a4, q0]
          exact ⟨_, _, _, _, _, _, _, _, _, _, _, _, _, rfl, B, P, e, Nat.le_refl _, hC0, ENT_next hE⟩
        · obtain ⟨b1, b2, b3, b4⟩ := hB (i * 16 + x) (by omega)
          by_cases hn : B (i * 16 + x) = 0 ∨ 1 < usr t B K S (B (i * 16 + x) - 1)
          · have hMw := M_write_new (L := L) (Qo := Qo) (O := O) (B := B) (P := P) (K := K) (S := S) (mquot := mquot) (mprom := mprom) (mowner := mowner) (mlinks := mlinks) (mblocks := mblocks) (mvals := mvals) (mkept := mkept) (mshot := mshot) (mkinds := mkinds) hf hi hx hq (show e ≤ 511 by omega) hS a4 q0 a5 (fun y hy => ⟨(hB y hy).2.1, (hB y hy).2.2.1, fun hne => ((hB y hy).2.2.2 hne).1⟩) (fun y hy => ⟨hM y hy, by have := (hF y hy).2.1; omega⟩) (fun o ho => (hP o ho).2) hPs q2 q3 hn
            obtain ⟨hCw1, hCw2⟩ := C_write_new (t := t) (L := L) (Qo := Qo) (O := O) (B := B) (P := P) (K := K) (S := S) (cQ := cQ) (nP := nP) (nO := nO) (nL := nL) (nC := nC) (nV := nV) (nU := nU) (cK := cK) hf hi hx hq (show e ≤ 511 by omega) hS.1 hk a3 q0 a5 (fun y hy => ⟨(hB y hy).1, (hB y hy).2.2.1, fun hne => ((hB y hy).2.2.2 hne).1⟩) (fun b hb => (hU b hb).2) (fun y hy => ⟨(hF y hy).1, (hF y hy).2.1⟩) (fun o ho => ⟨(hP o ho).1, (hP o ho).2.2⟩) hPs q1 q3 (by
              rcases hn with hn | hn
              · exact Or.inl hn
              · exact Or.inr (by omega))
            by_cases c : sm P 4 < frN t B K S + P (O i) ∧ cn (fun b => isU O (un B (i * 16 + x) (lowF t B K S + 1)) (O i) b) 64 ≤ Qo (O i)
            · obtain ⟨u', g1, g2, g3⟩ := hCw1 c
              rw [g1, hMw, if_pos c.1, if_pos c.2]
              have hPo : P (O i) ≤ sm P 4 := by
                have z := sm4_un (P := P) (o := O i) (q := 0) (by omega)
                omega
              have hfr := frN_le t B K S
              obtain ⟨l1, l2⟩ := lowF_lt (t := t) (B := B) (K := K) (S := S) (by omega)
              have hs := sm4_un (P := P) (o := O i) (q := P (O i) - 1) (by omega)
              simp only [Option.bind_some, out_same, cmp_same, if_true]
              have hC2 := CORE_e (CORE_prom (o := O i) (q := P (O i) - 1) hC0 (by omega) (by omega)) (e + 1)
              obtain ⟨z1, z2, z3, z4, z5, z6, z7, z8, z9⟩ := hC2
              refine ⟨_, _, _, _, _, _, _, _, _, _, _, _, _, rfl, un B (i * 16 + x) (lowF t B K S + 1), un P (O i) (P (O i) - 1), e + 1, by omega, ⟨z1, z2, z3, z4, z5, z6, fun y hy => ⟨(g2 y hy).1, upd_un (fun _ => (hB y hy).2.1), (g2 y hy).2, fun hne => ?_⟩, fun b hb => ⟨?_, g3 b hb⟩, z9⟩, ENT_note hE (by omega)⟩
              · by_cases z : y = i * 16 + x
                · rw [z, show (i * 16 + x) / 16 = i by omega]
                  exact ⟨hi, by rw [hV i hi, if_neg (fun w => q0 w.1)]⟩
                · rw [un_ne z] at hne
                  exact (hB y hy).2.2.2 hne
              · by_cases z : b = lowF t B K S
                · rw [z, upd_at, upd_at]
                · rw [upd_ne z, upd_ne z]
                  exact (hU b hb).1
            · have g1 := hCw2 c
              have g2 : f_M_write (nI i) (nI x) (nI q) mquot mprom (nI f) mowner mlinks mblocks mvals (nI t) mkept mshot (nI e) mkinds = some (0, 4, mprom, mblocks, mvals, nI e, mkinds) := by
                rw [hMw]
                by_cases c1 : sm P 4 < frN t B K S + P (O i)
                · rw [if_pos c1, if_neg (fun z => c ⟨c1, z⟩)]
                · rw [if_neg c1]
              rw [g1, g2]
              exact ⟨_, _, _, _, _, _, _, _, _, _, _, _, _, rfl, B, P, e, Nat.le_refl _, hC0, ENT_next hE⟩
          · have hb0 : B (i * 16 + x) ≠ 0 := fun z => hn (Or.inl z)
            have hb1 : usr t B K S (B (i * 16 + x) - 1) ≤ 1 := by
              rcases Nat.lt_or_ge 1 (usr t B K S (B (i * 16 + x) - 1)) with z | z
              · exact absurd (Or.inr z) hn
              · exact z
            have hb2 := usr_pos (t := t) (K := K) (S := S) (B := B) (b := B (i * 16 + x) - 1) (y := i * 16 + x) (by omega) (by omega)
            have ep : nI (B (i * 16 + x)) - 1 = nI (B (i * 16 + x) - 1) := pk_sub (a := B (i * 16 + x)) (b := 1) (by omega)
            have mm : (16 : Int32) * nI i + nI x = nI (i * 16 + x) := by rw [mul16, Nat.mul_comm]
            have ub : f_M_users (nI (B (i * 16 + x) - 1)) mblocks (nI t) mkept mshot = some (nI (usr t B K S (B (i * 16 + x) - 1))) := M_users_ok (by omega) (fun y hy => ⟨(hB y hy).2.1, (hB y hy).2.2.1⟩) hS
            have w3 : f_C_note 119 (nI e) cK = some (nI (e + 1), upd cK e (nI 119)) := C_note_ok (c := 119) (by omega) (by omega)
            have w4 : f_M_enters 119 (nI e) mkinds = some (nI (e + 1), upd mkinds e (nI 119)) := M_enters_ok (c := 119) (by omega) (by omega)
            have one : usr t B K S (B (i * 16 + x) - 1) = 1 := by omega
            have e5 : ¬ nI (B (i * 16 + x)) = (0 : Int32) := nI_ne0 (by omega) (by omega)
            have e6 : ¬ nI (L i) = (0 : Int32) := nI_ne0 (by omega) (by omega)
            have e7 : (nI 1 : Int32) ≤ 1 := by decide
            have e8 : (nI 1 : Int32) = 1 := rfl
            unfold f_C_write f_M_write
            rw [C_requireFile_in hf hi, M_isFile_in hi hf, C_requirePlace_in hx, M_isPlace_in hx, w1, w2, C_requireLinks_ok hf hi a3 a5, if_neg q0, S_blockIn_in hi hf hx, b1, ep]
            simp only [Option.bind_some, S_userTotal_in (show B (i * 16 + x) - 1 < 64 by omega), (hU (B (i * 16 + x) - 1) (by omega)).2, one, e1, e8, if_true, if_false, in_l2 (show i < 40 by omega) (by omega), nI_clamp (show i < 2 ^ 31 by omega), a4, e6, mm, in_l2 (show i * 16 + x < 640 by omega) (by omega), nI_clamp (show i * 16 + x < 2 ^ 31 by omega), b2, e5, ep, ub, e7, Int32.le_refl, in_l2 (show B (i * 16 + x) - 1 < 64 by omega) (by omega), nI_clamp (show B (i * 16 + x) - 1 < 2 ^ 31 by omega), w3, w4, S_setValue_in (show B (i * 16 + x) - 1 < 64 by omega), out_same, cmp_same]
            obtain ⟨z1, z2, z3, z4, z5, z6, z7, z8, z9⟩ := CORE_e hC0 (e + 1)
            refine ⟨_, _, _, _, _, _, _, _, _, _, _, _, _, rfl, B, P, e + 1, by omega, ⟨z1, z2, z3, z4, z5, z6, z7, fun b hb => ⟨?_, (hU b hb).2⟩, z9⟩, ENT_note hE (by omega)⟩
            by_cases z : b = B (i * 16 + x) - 1
            · rw [z, upd_at, upd_at]
            · rw [upd_ne z, upd_ne z]
              exact (hU b hb).1
      · have w1 : f_C_requireWithin p3 0 999 = some (.error 1) := w1
        have w2 : f_M_in p3 0 999 = some 0 := w2
        unfold f_C_write f_M_write
        rw [C_requireFile_in hf hi, M_isFile_in hi hf, C_requirePlace_in hx, M_isPlace_in hx, w1, w2]
        exact ⟨_, _, _, _, _, _, _, _, _, _, _, _, _, rfl, B, P, e, Nat.le_refl _, hC0, ENT_next hE⟩
end CASE7
