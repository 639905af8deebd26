/-! WHAT THE CLASS AND THE REFERENCE HAVE IN COMMON, behind j calls -/
def OWN (k : Nat) (Qo : Nat → Nat) (cO : Int32) (cQ : Nat → Int32) (mown : Int32) (mquot : Nat → Int32) : Prop :=
  k ≤ 4 ∧ cO = nI k ∧ mown = nI k ∧ ∀ o, o < k → cQ o = nI (Qo o) ∧ mquot o = nI (Qo o) ∧ Qo o ≤ 64
/-- files, blocks, promises and the journal's length: as they are, or as they were when a transaction began; A: which files exist -/
def CORE (k t : Nat) (K S O : Nat → Nat) (f : Nat) (L A B P : Nat → Nat) (e : Nat) (nF : Int32) (nO nL nA nC nV nU nP : Nat → Int32) (nE : Int32) (mprom : Nat → Int32) (mfiles : Int32) (mlinks mblocks mvals : Nat → Int32) (mentr : Int32) : Prop :=
  f ≤ 40 ∧ nF = nI f ∧ mfiles = nI f ∧ nE = nI e ∧ mentr = nI e ∧
  (∀ i, i < f → nO i = nI (O i) ∧ O i < k ∧ nL i = nI (L i) ∧ mlinks i = nI (L i) ∧ L i ≤ 9) ∧
  (∀ x, x < 640 → nC x = nI (B x) - 1 ∧ mblocks x = nI (B x) ∧ B x ≤ 64 ∧ (B x ≠ 0 → x / 16 < f ∧ A (x / 16) = 1)) ∧
  (∀ b, b < 64 → nV b = mvals b ∧ nU b = nI (usr t B K S b)) ∧
  (∀ o, o < 4 → nP o = nI (P o) ∧ mprom o = nI (P o) ∧ P o ≤ 64) ∧ sm P 4 ≤ 64 ∧
  (∀ i, i < 40 → nA i = nI (A i) ∧ A i ≤ 1)
/-- a file exists as long as it has links or open holds -/
def ALV (f : Nat) (L hd A : Nat → Nat) : Prop := ∀ i, i < f → A i = if L i = 0 ∧ hd i = 0 then 0 else 1
def ENT (j e : Nat) (cK mkinds : Nat → Int32) : Prop := e ≤ j ∧ ∀ i, i < e → ∃ c : Nat, c < 128 ∧ cK i = nI c ∧ mkinds i = nI c
/-- the snapshots: K says which are kept, W in which row (0: in none), V which one a row has (0: none), WI which files are in them -/
def SNAP (t : Nat) (K S W V WI : Nat → Nat) (pT pK : Int32) (pR pW pU pI : Nat → Int32) (pC : Nat → Nat → Int32) (msnaps : Int32) (mranks mkept mshot mwas : Nat → Int32) : Prop :=
  pT = nI t ∧ msnaps = nI t ∧ SnM t K S mkept mshot ∧ pK = nI (cn (fun s => K s == 1) t) ∧ cn (fun s => K s == 1) t ≤ 8 ∧
  (∀ s, s < t → pR s = mranks s) ∧
  (∀ s, s < 30 → pW s = nI (W s) - 1 ∧ W s ≤ 8 ∧ (W s ≠ 0 ↔ s < t ∧ K s = 1)) ∧
  (∀ r, r < 8 → pU r = nI (if V r = 0 then 0 else 1) ∧ V r ≤ t) ∧
  (∀ s r, s < 30 → r < 8 → (W s = r + 1 ↔ V r = s + 1)) ∧
  cn (fun r => V r != 0) 8 = cn (fun s => K s == 1) t ∧
  (∀ b, b < 64 → sm (fun r => if V r = 0 then 0 else snB S (V r - 1) b) 8 = snU t K S b) ∧
  (∀ x, x < 1200 → mwas x = nI (WI x) ∧ WI x ≤ 1 ∧ (40 * t ≤ x → WI x = 0)) ∧
  (∀ s, s < t → K s = 1 → ∀ i, i < 40 → pI ((W s - 1) * 40 + i) = nI (WI (40 * s + i)) ∧
    (WI (40 * s + i) = 1 → ∀ p, p < 16 → pC (W s - 1) (i * 16 + p) = nI (S (640 * s + (i * 16 + p))) - 1) ∧
    (WI (40 * s + i) = 0 → ∀ p, p < 16 → S (640 * s + (i * 16 + p)) = 0))
def HOLD (h f : Nat) (HF HE HO : Nat → Nat) (uO : Int32) (uF uE uN : Nat → Int32) (mholds : Int32) (mheld mends mopen : Nat → Int32) : Prop :=
  h ≤ 30 ∧ uO = nI h ∧ mholds = nI h ∧ ∀ x, x < h → uF x = nI (HF x) ∧ mheld x = nI (HF x) ∧ uE x = nI (HE x) ∧ mends x = nI (HE x) ∧ uN x = nI (HO x) ∧ mopen x = nI (HO x) ∧ HO x ≤ 1 ∧ HF x < f ∧ HE x ≤ 20000
def TRD (tr d : Nat) (cT cD misop mday : Int32) : Prop := tr ≤ 1 ∧ d ≤ 9999 ∧ cT = nI tr ∧ misop = nI tr ∧ cD = nI d ∧ mday = nI d
/-- the text of the line, in the class -/
def LINE (n : Nat) (T : Nat → Int32) (jN : Int32) (jZ : Nat) (jB : Nat → Int32) : Prop := n ≤ 128 ∧ jN = nI n ∧ Same n T jB ∧ sb_Fit jB ∧ jZ ≤ 300 ∧ n ≤ jZ ∧ ∀ i, i < n → ∃ c : Nat, c < 128 ∧ T i = nI c
/-- a case that answers alike: the law goes on -/
theorem cmp_same (x : Int64) : lg_cmp x x = 0 := by
  unfold lg_cmp
  simp
theorem out_same (oL : Nat → Int64) (x : Int64) : vp_updL oL (0 : Int32).toNatClampNeg x (0 : Int32).toNatClampNeg = x := if_pos rfl
/-- CASE 31: the day -/
theorem c31 {tr d : Nat} {cT cD misop mday : Int32} (h : TRD tr d cT cD misop mday) : ∃ o, f_case31 cD mday = some o := by
  obtain ⟨-, h1, -, -, rfl, rfl⟩ := h
  unfold f_case31 f_C_day f_M_day
  simp only [Option.bind_some, if_true]
  exact ⟨_, rfl⟩
theorem M_in_out {p : Int32} {k : Nat} (hk : k < 2 ^ 30) (h : Out p k) : f_M_in p 0 (nI k - 1) = some 0 := by
  unfold f_M_in
  rcases h with h | ⟨h1, h2⟩
  · exact if_pos h
  · have e0 : ¬ p < (0 : Int32) := h1
    have e1 : nI k - 1 < p := by
      have q1 := pk_sub_toInt (a := k) (b := 1) hk (by omega)
      have q2 := Int32.le_iff_toInt_le.mp h2
      rw [nI_toInt (by omega)] at q2
      refine Int32.lt_iff_toInt_lt.mpr ?_
      have q3 : (nI k - 1 : Int32).toInt = (k : Int) - 1 := q1
      omega
    rw [if_neg e0, if_pos e1]
theorem M_in_in {j k : Nat} (hk : k < 2 ^ 30) (h : j < k) : f_M_in (nI j) 0 (nI k - 1) = some 1 := by
  unfold f_M_in
  have e0 : ¬ nI j < (0 : Int32) := nI_pos (by omega)
  have e1 : nI k - 1 = nI (k - 1) := pk_sub (a := k) (b := 1) (by omega)
  have e2 : ¬ nI (k - 1) < nI j := fun q => absurd ((nI_ltI (by omega) (by omega)).mp q) (by omega)
  rw [if_neg e0, e1, if_neg e2]
theorem M_isOwner_out {p : Int32} {k : Nat} (hk : k ≤ 4) (h : Out p k) : f_M_isOwner p (nI k) = some 0 := by
  unfold f_M_isOwner
  rw [M_in_out (by omega) h]
  rfl
theorem M_isOwner_in {j k : Nat} (hk : k ≤ 4) (h : j < k) : f_M_isOwner (nI j) (nI k) = some 1 := by
  unfold f_M_isOwner
  rw [M_in_in (by omega) h]
  rfl
theorem C_requireOwner_out {p : Int32} {k : Nat} (hk : k ≤ 4) (h : Out p k) : f_C_requireOwner p (nI k) = some (.error 3) := by
  unfold f_C_requireOwner
  rcases h with h | ⟨h1, h2⟩
  · exact if_pos h
  · have e0 : ¬ p < (0 : Int32) := h1
    rw [if_neg e0, if_neg (fun q => absurd (Int32.lt_iff_toInt_lt.mp q) (Int.not_lt.mpr (Int32.le_iff_toInt_le.mp h2)))]
theorem C_requireOwner_in {j k : Nat} (hk : k ≤ 4) (h : j < k) : f_C_requireOwner (nI j) (nI k) = some (.ok ()) := by
  unfold f_C_requireOwner
  have e0 : ¬ nI j < (0 : Int32) := nI_pos (by omega)
  rw [if_neg e0, if_pos ((nI_ltI (by omega) (by omega)).mpr h)]
/-- CASE 17: promisedTo -/
theorem c17 {k : Nat} {P : Nat → Nat} {p1 cO mown : Int32} {nP mprom : Nat → Int32} {oL : Nat → Int64} (hk : k ≤ 4) (h1 : cO = nI k) (h2 : mown = nI k) (hP : ∀ o, o < 4 → nP o = nI (P o) ∧ mprom o = nI (P o)) : ∃ oL' mc, f_case17 p1 nP cO oL mown mprom = some (oL', mc) := by
  subst h1
  subst h2
  unfold f_case17 f_L_promisedTo f_C_promisedTo f_M_promisedTo f_M_thrown f_M_fails
  rcases out_or p1 (n := k) (by omega) with h | ⟨o, ho, rfl⟩
  · rw [C_requireOwner_out hk h, M_isOwner_out hk h]
    exact ⟨_, _, rfl⟩
  · obtain ⟨a1, a2⟩ := hP o (by omega)
    rw [C_requireOwner_in hk ho, M_isOwner_in hk ho]
    have e1 : ¬ ((1 : Int32) = 0) := by decide
    have e2 : ¬ (nI o < 0 ∨ 4 ≤ o) := by
      intro q
      rcases q with q | q
      · exact nI_pos (by omega) q
      · omega
    simp only [Option.bind_some, S_promisedFor_in (show o < 4 by omega), e1, e2, if_false, if_true, out_same, nI_clamp (show o < 2 ^ 31 by omega), a1, a2, cmp_same]
    exact ⟨_, _, rfl⟩
