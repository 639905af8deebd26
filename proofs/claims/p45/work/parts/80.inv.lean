/-! WHAT HOLDS BETWEEN TWO CALLS -/
def OW (k : Nat) (Qo : Nat → Nat) (cO : Int32) (cQ : Nat → Int32) : Prop := k ≤ 4 ∧ cO = nI k ∧ ∀ o, o < k → cQ o = nI (Qo o) ∧ Qo o ≤ 64
def TR (tr d : Nat) (cT cD : Int32) : Prop := tr ≤ 1 ∧ d ≤ 9999 ∧ cT = nI tr ∧ cD = nI d
def HD (h f : Nat) (HF HE HO : Nat → Nat) (uO : Int32) (uF uE uN : Nat → Int32) : Prop := h ≤ 30 ∧ uO = nI h ∧ ∀ x, x < h → uF x = nI (HF x) ∧ uE x = nI (HE x) ∧ uN x = nI (HO x) ∧ HO x ≤ 1 ∧ HF x < f ∧ HE x ≤ 20000
/-- the snapshots, by numbers alone -/
abbrev SN (t : Nat) (K S W V WI : Nat → Nat) (pT pK : Int32) (pR pW pU pI : Nat → Int32) (pC : Nat → Nat → Int32) : Prop :=
  SNAP t K S W V WI pT pK pR pW pU pI pC (nI t) pR (fun s => nI (K s)) (fun x => nI (S x)) (fun x => nI (WI x))
theorem SN_of {t : Nat} {K S W V WI : Nat → Nat} {pT pK : Int32} {pR pW pU pI : Nat → Int32} {pC : Nat → Nat → Int32} {msnaps : Int32} {mranks mkept mshot mwas : Nat → Int32} (h : SNAP t K S W V WI pT pK pR pW pU pI pC msnaps mranks mkept mshot mwas) : SN t K S W V WI pT pK pR pW pU pI pC := by
  obtain ⟨h1, h2, ⟨h3, h3'⟩, h4, h5, h6, h7, h8, h9, h10, h11, h12, h13⟩ := h
  refine ⟨h1, rfl, ⟨h3, fun s hs => ⟨rfl, (h3' s hs).2.1, fun hk x hx => ⟨rfl, ((h3' s hs).2.2 hk x hx).2⟩⟩⟩, h4, h5, fun _ _ => rfl, h7, h8, h9, h10, h11, fun x hx => ⟨rfl, (h12 x hx).2⟩, h13⟩
/-- files, blocks, promises and the journal's length: as they are, or as they were when a transaction began -/
def CO (k t : Nat) (K S O : Nat → Nat) (f : Nat) (L A B P : Nat → Nat) (e : Nat) (Qo : Nat → Nat) (nF : Int32) (nO nL nA nC nV nU nP : Nat → Int32) (nE : Int32) : Prop :=
  f ≤ 40 ∧ nF = nI f ∧ nE = nI e ∧
  (∀ i, i < f → nO i = nI (O i) ∧ O i < k ∧ nL i = nI (L i) ∧ L i ≤ 9) ∧
  (∀ x, x < 640 → nC x = nI (B x) - 1 ∧ B x ≤ 64 ∧ (B x ≠ 0 → x / 16 < f ∧ A (x / 16) = 1)) ∧
  (∀ b, b < 64 → nU b = nI (usr t B K S b)) ∧
  (∀ b, b < 64 → ∃ v, v ≤ 999 ∧ nV b = nI v) ∧
  (∀ o, o < 4 → nP o = nI (P o) ∧ P o ≤ 64) ∧ sm P 4 ≤ frN t B K S ∧
  (∀ i, i < 40 → nA i = nI (A i) ∧ A i ≤ 1) ∧
  (∀ o, o < k → cn (fun b => isU O B o b) 64 ≤ Qo o)
/-- what a snapshot's place tells -/
def rdN (S WI : Nat → Nat) (nV : Nat → Int32) (s i x : Nat) : Int32 :=
  if WI (40 * s + i) = 1 then (if S (640 * s + (i * 16 + x)) = 0 then -1005 else nV (S (640 * s + (i * 16 + x)) - 1)) else -1005
/-- what the law has noted of snapshots -/
def SE (mn t : Nat) (K S WI : Nat → Nat) (nV oS : Nat → Int32) : Prop :=
  ∀ q, q < mn → ∃ s i x, oS (4 * q) = nI s ∧ oS (4 * q + 1) = nI i ∧ oS (4 * q + 2) = nI x ∧ s < t ∧ i < 40 ∧ x < 16 ∧ (K s = 1 → oS (4 * q + 3) = rdN S WI nV s i x)
/-- what a transaction has kept of its beginning -/
def SV (tr k t : Nat) (K S : Nat → Nat) (f e h : Nat) (HF HO Qo : Nat → Nat) (mn : Nat) (WI : Nat → Nat) (oS : Nat → Int32) (bF : Int32) (bO bL bA bC bV bU bP : Nat → Int32) (bE : Int32) : Prop :=
  tr = 1 → ∃ (O L A B P : Nat → Nat) (f' e' : Nat), f' ≤ f ∧ e' ≤ e ∧ CO k t K S O f' L A B P e' Qo bF bO bL bA bC bV bU bP bE ∧ ALV f' L (hdN h HF HO) A ∧ (∀ x, x < h → HF x < f') ∧ SE mn t K S WI bV oS
def INV (j : Nat) (x4 x5 x6 x7 : Int32) (nF : Int32) (nO nL nA nC nV nU nP : Nat → Int32) (nE bF : Int32) (bO bL bA bC bV bU bP : Nat → Int32) (bE cT cO : Int32) (cQ : Nat → Int32) (cD pT pK : Int32) (pR pW pU pI : Nat → Int32) (pC : Nat → Nat → Int32) (uO : Int32) (uF uE uN oQ oS : Nat → Int32) : Prop :=
  ∃ (k : Nat) (Qo : Nat → Nat) (t : Nat) (K S W V WI O : Nat → Nat) (f : Nat) (L A B P : Nat → Nat) (e h : Nat) (HF HE HO : Nat → Nat) (tr d mn : Nat),
    x4 = nI mn ∧ mn ≤ 4 * t ∧ x5 = nI k ∧ x6 = nI t ∧ x7 = nI h ∧ e ≤ j ∧ (∀ o, o < k → oQ o = nI (Qo o)) ∧ OW k Qo cO cQ ∧ TR tr d cT cD ∧ SN t K S W V WI pT pK pR pW pU pI pC ∧ HD h f HF HE HO uO uF uE uN ∧
    CO k t K S O f L A B P e Qo nF nO nL nA nC nV nU nP nE ∧ ALV f L (hdN h HF HO) A ∧ SE mn t K S WI nV oS ∧ SV tr k t K S f e h HF HO Qo mn WI oS bF bO bL bA bC bV bU bP bE
