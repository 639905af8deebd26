/-! WHAT THE CALLS THAT CHANGE SHARE -/
theorem cn_imp {p q : Nat → Bool} {n : Nat} (h : ∀ i, i < n → p i = true → q i = true) : cn p n ≤ cn q n := by
  induction n with
  | zero => exact Nat.le_refl _
  | succ n ih =>
    rw [cn_s, cn_s]
    have h1 := ih (fun i hi => h i (by omega))
    by_cases z : p n = true
    · rw [if_pos z, if_pos (h n (by omega) z)]
      omega
    · rw [if_neg z]
      omega
theorem ng1 : (-1001 : Int32) < 0 := by decide
theorem ng2 : (-1002 : Int32) < 0 := by decide
theorem ng3 : (-1003 : Int32) < 0 := by decide
theorem ng4 : (-1004 : Int32) < 0 := by decide
theorem ng5 : (-1005 : Int32) < 0 := by decide
section TOOLS
variable {j k t t' f g e e' h mn : Nat} {K K' S S' O L A B B' P Qo HF HO hd WI : Nat → Nat} {nF nE bF bE : Int32} {nO nL nA nC nV nU nP bO bL bA bC bV bU bP oS : Nat → Int32}
theorem frN_mono (h : ∀ b, b < 64 → usr t' B' K' S' b ≤ usr t B K S b) : frN t B K S ≤ frN t' B' K' S' := cn_imp (fun b hb hp => by
  have h1 := h b hb
  have h2 : usr t B K S b = 0 := beq_iff_eq.mp hp
  exact beq_iff_eq.mpr (by omega))
theorem frN_same (h : ∀ b, b < 64 → (usr t' B' K' S' b = 0 ↔ usr t B K S b = 0)) : frN t' B' K' S' = frN t B K S := cn_cong (fun b hb => by
  show (usr t' B' K' S' b == 0) = (usr t B K S b == 0)
  rw [Bool.eq_iff_iff, beq_iff_eq, beq_iff_eq]
  exact h b hb)
theorem own_mono {o : Nat} {O' : Nat → Nat} (h : ∀ x b, x < 640 → B' x = b + 1 → O' (x / 16) = o → ∃ y, y < 640 ∧ B y = b + 1 ∧ O (y / 16) = o) : cn (fun b => isU O' B' o b) 64 ≤ cn (fun b => isU O B o b) 64 := cn_imp (fun b _ hp => by
  obtain ⟨x, h1, h2, h3⟩ := (isU_iff O' B' o b).mp hp
  exact (isU_iff O B o b).mpr (h x b h1 h2 h3))
/-- some places are emptied, files go -/
theorem CO_sub {A' : Nat → Nat} {nA' nC' nU' : Nat → Int32} (hC : CO k t K S O f L A B P e Qo nF nO nL nA nC nV nU nP nE) (h : ∀ x, x < 640 → B' x = B x ∨ B' x = 0) (hBL : BL B' nC') (hU : US t B' K S nU') (hE : ∀ x, x < 640 → B' x ≠ 0 → x / 16 < f ∧ A' (x / 16) = 1) (hA : ∀ i, i < 40 → nA' i = nI (A' i) ∧ A' i ≤ 1) (hm : ∀ b, b < 64 → usr t B' K S b ≤ usr t B K S b) : CO k t K S O f L A' B' P e Qo nF nO nL nA' nC' nV nU' nP nE := by
  obtain ⟨c1, c2, c3, c4, c5, c6, c7, c8, c9, c10, c11⟩ := hC
  refine ⟨c1, c2, c3, c4, fun x hx => ⟨(hBL x hx).1, (hBL x hx).2, hE x hx⟩, hU, c7, c8, Nat.le_trans c9 (frN_mono hm), hA, fun o ho => Nat.le_trans (own_mono fun x b hx hb ho => ?_) (c11 o ho)⟩
  rcases h x hx with z | z
  · exact ⟨x, hx, by rw [← z]; exact hb, ho⟩
  · omega
theorem usr_sub (h : ∀ x, x < 640 → B' x = B x ∨ B' x = 0) (b : Nat) : usr t B' K S b ≤ usr t B K S b := by
  have z : cntB B' b ≤ cntB B b := cn_imp (fun x hx hp => by
    have hp : (B' x == b + 1) = true := hp
    show (B x == b + 1) = true
    rw [beq_iff_eq] at hp ⊢
    rcases h x hx with q | q
    · omega
    · omega)
  unfold usr
  omega
theorem CO_e (hC : CO k t K S O f L A B P e Qo nF nO nL nA nC nV nU nP nE) (e' : Nat) : CO k t K S O f L A B P e' Qo nF nO nL nA nC nV nU nP (nI e') := by
  obtain ⟨c1, c2, c3, hR⟩ := hC
  exact ⟨c1, c2, rfl, hR⟩
theorem CO_links {l i : Nat} (hC : CO k t K S O f L A B P e Qo nF nO nL nA nC nV nU nP nE) (h9 : l ≤ 9) : CO k t K S O f (un L i l) A B P e Qo nF nO (upd nL i (nI l)) nA nC nV nU nP nE := by
  obtain ⟨hf, g1, g2, hF, hR⟩ := hC
  refine ⟨hf, g1, g2, fun x hx => ?_, hR⟩
  obtain ⟨a1, a2, a3, a4⟩ := hF x hx
  by_cases q : x = i
  · subst q
    simp only [upd_at, un_at]
    exact ⟨a1, a2, (by first | exact trivial | exact rfl), h9⟩
  · simp only [upd_ne q, un_ne q]
    exact ⟨a1, a2, a3, a4⟩
/-- a promise changes -/
theorem CO_prom {o q : Nat} (hC : CO k t K S O f L A B P e Qo nF nO nL nA nC nV nU nP nE) (h1 : q ≤ 64) (h2 : sm (un P o q) 4 ≤ frN t B K S) : CO k t K S O f L A B (un P o q) e Qo nF nO nL nA nC nV nU (upd nP o (nI q)) nE := by
  obtain ⟨c1, c2, c3, c4, c5, c6, c7, c8, c9, c10, c11⟩ := hC
  refine ⟨c1, c2, c3, c4, c5, c6, c7, fun x hx => ⟨upd_un (fun _ => (c8 x hx).1), ?_⟩, h2, c10, c11⟩
  by_cases z : x = o
  · rw [z, un_at]
    exact h1
  · rw [un_ne z]
    exact (c8 x hx).2
theorem SV_weak {tr : Nat} (hs : SV tr k t K S f e h HF HO Qo mn WI oS bF bO bL bA bC bV bU bP bE) (h1 : f ≤ g) (h2 : e ≤ e') : SV tr k t K S g e' h HF HO Qo mn WI oS bF bO bL bA bC bV bU bP bE := fun w => by
  obtain ⟨O, L, A, B, P, f1, e1, s1, s2, s3⟩ := hs w
  exact ⟨O, L, A, B, P, f1, e1, by omega, by omega, s3⟩
theorem SV_0 : SV 0 k t K S f e h HF HO Qo mn WI oS bF bO bL bA bC bV bU bP bE := fun w => absurd w (by omega)
theorem CO_e1 (hC : CO k t K S O f L A B P e Qo nF nO nL nA nC nV nU nP nE) : nE = nI e := hC.2.2.1
/-- a removed file -/
theorem goneN_sub (i : Nat) (B : Nat → Nat) : ∀ x, x < 640 → goneN i B 16 x = B x ∨ goneN i B 16 x = 0 := fun x _ => by
  unfold goneN
  by_cases z : 16 * i ≤ x ∧ x < 16 * i + 16
  · rw [if_pos z]
    exact Or.inr rfl
  · rw [if_neg z]
    exact Or.inl rfl
end TOOLS
section SHARED
variable {j k t f e h : Nat} {K S O L A B P Qo HF HE HO : Nat → Nat} {nF nE uO : Int32} {nO nL nA nC nV nU nP uF uE uN cK : Nat → Int32}
/-- a file without links and holds goes -/
theorem ABAND {i l : Nat} (hi : i < f) (hC : CO k t K S O f L A B P e Qo (nI f) nO nL nA nC nV nU nP nE) (hh : h ≤ 30) (hl : nL i = nI l) (h9 : l ≤ 9) (hH : ∀ x, x < h → uF x = nI (HF x) ∧ uN x = nI (HO x) ∧ HF x < 40 ∧ HO x ≤ 1) :
    ∃ r nA' nC' nU' A' B', r ≤ 1 ∧ f_C_removeIfAbandoned (nI i) (nI f) nL nA nC nU (nI h) uF uN = some (nI r, nA', nC', nU') ∧ CO k t K S O f L A' B' P e Qo (nI f) nO nL nA' nC' nV nU' nP nE ∧ (∀ y, y ≠ i → A' y = A y) ∧ A' i = (if l = 0 ∧ hdN h HF HO i = 0 then 0 else A i) := by
  have hBL := CO_BL hC
  have hU := CO_U hC
  have hf := hC.1
  have hhd := hdN_le h HF HO i
  unfold f_C_removeIfAbandoned
  rw [S_linkTotal_in hi hf, hl]
  simp only [Option.bind_some]
  by_cases z : l = 0
  · subst z
    have e0 : ¬ (0 : Int32) < nI 0 := by decide
    rw [if_neg e0, H_openTotal_ok hh (by omega) hH]
    simp only [Option.bind_some]
    by_cases y : hdN h HF HO i = 0
    · obtain ⟨nC', nU', r1, r2, r3⟩ := S_removeFile_ok (t := t) (B := B) (K := K) (S := S) (nA := nA) (nC := nC) (nU := nU) hi hf hBL hU
      have y0 : nI (hdN h HF HO i) ≤ 0 := by rw [y]; decide
      rw [if_pos y0, r1]
      refine ⟨1, upd nA i 0, nC', nU', un A i 0, goneN i B 16, by omega, rfl, CO_sub hC (goneN_sub i B) r2 r3 (fun x hx hne => ?_) (fun y hy => ?_) (fun b _ => usr_sub (goneN_sub i B) b), fun y hy => un_ne hy, ?_⟩
      · unfold goneN at hne
        by_cases w : 16 * i ≤ x ∧ x < 16 * i + 16
        · rw [if_pos w] at hne
          exact absurd rfl hne
        · rw [if_neg w] at hne
          obtain ⟨w1, w2⟩ := (hC.2.2.2.2.1 x hx).2.2 hne
          exact ⟨w1, by rw [un_ne (by omega)]; exact w2⟩
      · by_cases w : y = i
        · rw [w, upd_at, un_at]
          exact ⟨rfl, by omega⟩
        · rw [upd_ne w, un_ne w]
          exact hC.2.2.2.2.2.2.2.2.2.1 y hy
      · rw [un_at, if_pos ⟨trivial, y⟩]
    · rw [if_neg (nI_nle (by omega) (by omega))]
      exact ⟨0, _, _, _, A, B, by omega, rfl, hC, fun _ _ => rfl, by rw [if_neg (fun q => y q.2)]⟩
  · have e0 : (0 : Int32) < nI l := (nI_ltI (a := 0) (b := l) (by omega) (by omega)).mpr (by omega)
    rw [if_pos e0]
    exact ⟨0, _, _, _, A, B, by omega, rfl, hC, fun _ _ => rfl, by rw [if_neg (fun q => z q.1)]⟩
end SHARED
