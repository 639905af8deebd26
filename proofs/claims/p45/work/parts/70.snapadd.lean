/-! CASE 19: takeSnapshot -/
section SNAPADD
variable {j k t f e h tr d r : Nat} {K S O L A B P W V WI HF HE HO hd : Nat → Nat} {cT cD misop mday pT pK msnaps nF mfiles nE mentr p1 p2 : Int32} {nO nL nA nC nV nU nP mprom mlinks mblocks mvals uF uE uN mheld mends mopen pR pW pU pI mranks mkept mshot mwas : Nat → Int32} {pC : Nat → Nat → Int32} {oL : Nat → Int64}
/-- whether a file exists, for all places of the rows -/
def alN (f : Nat) (A : Nat → Nat) (i : Nat) : Nat := if i < f then A i else 0
theorem S_isAlive_any {i : Nat} (hf : f ≤ 40) (hi : i < 40) (hA : ∀ i, i < 40 → nA i = nI (A i) ∧ A i ≤ 1) : f_S_isAlive (nI i) (nI f) nA = some (nI (alN f A i)) ∧ alN f A i ≤ 1 := by
  unfold alN
  obtain ⟨a1, a2⟩ := hA i hi
  by_cases z : i < f
  · rw [if_pos z]
    exact ⟨S_isAlive_in z hf a1 a2, a2⟩
  · rw [if_neg z]
    exact ⟨S_isAlive_out (Or.inr ⟨nI_pos (by omega), nI_le (by omega) (by omega)⟩), by omega⟩
theorem P_unusedRow_ok (hV : ∀ r, r < 8 → pU r = nI (if V r = 0 then 0 else 1)) (hk : fst (fun r => V r == 0) 8 < 8) : f_P_unusedRow pU = some (nI (fst (fun r => V r == 0) 8)) := by
  unfold f_P_unusedRow
  obtain ⟨g1, g2⟩ := fst_spec (fun r => V r == 0) 8
  generalize fst (fun r => V r == 0) 8 = k at g1 g2 hk ⊢
  have h := loop_up (fun fu i => f_P_unusedRow_L2 fu (nI i) pU) k (some (nI k)) (fun fu i hi => by
      have h1 := hV i (by omega)
      have e3 : V i ≠ 0 := by simpa using g1 i hi
      have h8 : ¬ (8 : Int32) ≤ nI i := fun q => absurd ((nI_leI (a := 8) (b := i) (by omega) (by omega)).mp q) (by omega)
      show f_P_unusedRow_L2 (fu + 1) _ _ = _
      rw [f_P_unusedRow_L2, if_neg h8, if_neg (in_lim (by omega) (by omega)), nI_clamp (by omega), h1, if_neg e3, if_neg (by decide), nI_1]) (fun fu => by
      have h1 := hV k hk
      have e3 : V k = 0 := by simpa using g2 hk
      have h8 : ¬ (8 : Int32) ≤ nI k := fun q => absurd ((nI_leI (a := 8) (b := k) (by omega) (by omega)).mp q) (by omega)
      show f_P_unusedRow_L2 (fu + 1) _ _ = _
      rw [f_P_unusedRow_L2, if_neg h8, if_neg (in_lim (by omega) (by omega)), nI_clamp (by omega), h1, if_pos e3, if_pos (show nI 0 = 0 from rfl)]) FU (FU_gt (by omega))
  exact h
theorem updG_at {g : Nat → Nat → Int32} {k i : Nat} {x : Int32} : updG g k i x k = upd (g k) i x := if_pos rfl
theorem updG_ne {g : Nat → Nat → Int32} {k i q : Nat} {x : Int32} (h : q ≠ k) : updG g k i x q = g q := if_neg h
/-- the places of one file into a row -/
theorem P_fill1 {i : Nat} {U : Nat → Nat} (hf : f ≤ 40) (hi : i < 40) (hr : r < 8) (hA : ∀ i, i < 40 → nA i = nI (A i) ∧ A i ≤ 1) (hB : ∀ x, x < 640 → nC x = nI (B x) - 1 ∧ B x ≤ 64 ∧ (B x ≠ 0 → x / 16 < f ∧ A (x / 16) = 1)) (hU : ∀ b, b < 64 → nU b = nI (U b + cn (fun x => B x == b + 1) (i * 16))) :
    ∃ nU' pC', f_P_fillRow_L35 FU (nI r) (nI i) 0 (nI f) nA nC nU pC = some (nU', pC') ∧ (∀ b, b < 64 → nU' b = nI (U b + cn (fun x => B x == b + 1) ((i + 1) * 16))) ∧ (∀ q, q ≠ r → pC' q = pC q) ∧ (∀ y, y < i * 16 → pC' r y = pC r y) ∧ (alN f A i = 1 → ∀ x, x < 16 → pC' r (i * 16 + x) = nC (i * 16 + x)) := by
  obtain ⟨a1, a2⟩ := S_isAlive_any (nA := nA) (A := A) hf hi hA
  rcases (show alN f A i = 0 ∨ alN f A i = 1 by omega) with z | z
  · refine ⟨nU, pC, ?_, fun b hb => ?_, fun q _ => rfl, fun y _ => rfl, fun w => absurd w (by omega)⟩
    · have h16 : ¬ (16 : Int32) ≤ 0 := by decide
      rw [show FU = 99999 + 1 from rfl, f_P_fillRow_L35, if_neg h16, a1, z]
      rfl
    · rw [hU b hb, cn_ext (n := i * 16) (m := (i + 1) * 16) (by omega) (fun x h1 h2 => by
        rw [beq_eq_false_iff_ne]
        intro w
        obtain ⟨w1, w2⟩ := (hB x (by omega)).2.2 (by omega)
        rw [show x / 16 = i by omega] at w1 w2
        unfold alN at z
        rw [if_pos w1] at z
        omega)]
  · have hif : i < f := by
      unfold alN at z
      rcases Nat.lt_or_ge i f with w | w
      · exact w
      · rw [if_neg (by omega)] at z
        omega
    obtain ⟨⟨u, c⟩, ⟨g1, g2, g3, g4⟩, g5⟩ := loop_rel (fun fu x (s : (Nat → Int32) × (Nat → Nat → Int32)) => f_P_fillRow_L35 fu (nI r) (nI i) (nI x) (nI f) nA nC s.1 s.2) (fun x s => (∀ b, b < 64 → s.1 b = nI (U b + cn (fun x => B x == b + 1) (i * 16 + x))) ∧ (∀ q, q ≠ r → s.2 q = pC q) ∧ (∀ y, y < i * 16 → s.2 r y = pC r y) ∧ (∀ y, y < x → s.2 r (i * 16 + y) = nC (i * 16 + y))) 16 (fun s => s) (fun fu x s hx ⟨b1, b2, b3, b4⟩ => by
        obtain ⟨c1, c2, -⟩ := hB (i * 16 + x) (by omega)
        refine ⟨(au (nC (i * 16 + x)) s.1, updG s.2 r (i * 16 + x) (nC (i * 16 + x))), ⟨fun b hb => ?_, fun q hq => ?_, fun y hy => ?_, fun y hy => ?_⟩, ?_⟩
        · show au (nC (i * 16 + x)) s.1 b = _
          rw [c1, au_val c2 hb, b1 b hb, ← Nat.add_assoc, cn_s]
          by_cases w : B (i * 16 + x) = b + 1
          · rw [if_pos w, if_pos (beq_iff_eq.mpr w), nI_1, Nat.add_assoc]
          · rw [if_neg w, if_neg (fun v => w (beq_iff_eq.mp v)), Int32.add_zero] <;> rfl
        · show updG s.2 r (i * 16 + x) (nC (i * 16 + x)) q = _
          rw [updG_ne hq]
          exact b2 q hq
        · show updG s.2 r (i * 16 + x) (nC (i * 16 + x)) r y = _
          rw [updG_at, upd_ne (by omega)]
          exact b3 y hy
        · show updG s.2 r (i * 16 + x) (nC (i * 16 + x)) r (i * 16 + y) = _
          rw [updG_at]
          by_cases w : y = x
          · rw [w, upd_at]
          · rw [upd_ne (by omega)]
            exact b4 y (by omega)
        · show f_P_fillRow_L35 (fu + 1) _ _ _ _ _ _ _ _ = _
          have h16 : ¬ (16 : Int32) ≤ nI x := fun q => absurd ((nI_leI (a := 16) (b := x) (by omega) (by omega)).mp q) (by omega)
          have mm : nI i * 16 + nI x = nI (i * 16 + x) := by rw [show (16 : Int32) = nI 16 from rfl, pk_mul, nI_add]
          have e1 : ¬ ((nI 1 : Int32) = 0) := by decide
          rw [f_P_fillRow_L35, if_neg h16, a1, z, Option.bind_some, if_neg e1, S_blockIn_in hif hf hx, Option.bind_some, if_neg (in_lim (by omega) (by omega)), mm, if_neg (in_lim (by omega) (by omega)), S_addUser_ok, Option.bind_some, nI_clamp (by omega), nI_clamp (by omega), nI_1]) (fun fu s _ => by
        show f_P_fillRow_L35 (fu + 1) _ _ _ _ _ _ _ _ = _
        rw [f_P_fillRow_L35]
        simp (disch := omega) only [nI_ltI, nI_leI, nI_eq, nI_add, pk_mul, pk_sub, nI_clamp, l0, l1, l2, l3, l4, l5, l6, l8, l9, l10, l15, l16, l30, l39, l40, l58, l63, l64, l99, l100, l103, l104, l108, l112, l117, l119, l120, l512, l639, l640, l999, l9999, l19200, if_pos, if_neg, Option.bind_some, if_true, if_false]) FU (FU_gt (by omega)) (nU, pC) ⟨hU, fun q _ => rfl, fun y _ => rfl, fun y hy => absurd hy (Nat.not_lt_zero y)⟩
    exact ⟨u, c, g5, fun b hb => by rw [show (i + 1) * 16 = i * 16 + 16 by omega]; exact g1 b hb, g2, g3, fun _ => g4⟩
/-- a row's marks: which files are in it -/
def mrkN (r f : Nat) (A : Nat → Nat) (pI : Nat → Int32) (n : Nat) : Nat → Int32 := fun y => if r * 40 ≤ y ∧ y < r * 40 + n then nI (alN f A (y - r * 40)) else pI y
theorem mrkN_0 (r f : Nat) (A : Nat → Nat) (pI : Nat → Int32) : mrkN r f A pI 0 = pI := by
  funext y
  exact if_neg (by omega)
theorem mrkN_s (r f : Nat) (A : Nat → Nat) (pI : Nat → Int32) (n : Nat) : upd (mrkN r f A pI n) (r * 40 + n) (nI (alN f A n)) = mrkN r f A pI (n + 1) := by
  funext y
  unfold upd mrkN
  by_cases e : y = r * 40 + n
  · rw [if_pos e, if_pos (by omega), show y - r * 40 = n by omega]
  · rw [if_neg e]
    by_cases e2 : r * 40 ≤ y ∧ y < r * 40 + n
    · rw [if_pos e2, if_pos (by omega)]
    · rw [if_neg e2, if_neg (by omega)]
theorem P_fillRow_ok {U : Nat → Nat} (hf : f ≤ 40) (hr : r < 8) (hA : ∀ i, i < 40 → nA i = nI (A i) ∧ A i ≤ 1) (hB : ∀ x, x < 640 → nC x = nI (B x) - 1 ∧ B x ≤ 64 ∧ (B x ≠ 0 → x / 16 < f ∧ A (x / 16) = 1)) (hU : ∀ b, b < 64 → nU b = nI (U b)) :
    ∃ nU' pC', f_P_fillRow (nI r) (nI f) nA nC nU pI pC = some (nU', mrkN r f A pI 40, pC') ∧ (∀ b, b < 64 → nU' b = nI (U b + cntB B b)) ∧ (∀ q, q ≠ r → pC' q = pC q) ∧ (∀ i, i < 40 → alN f A i = 1 → ∀ x, x < 16 → pC' r (i * 16 + x) = nC (i * 16 + x)) := by
  obtain ⟨⟨u, c⟩, ⟨g1, g2, g3⟩, g5⟩ := loop_rel (fun fu i (s : (Nat → Int32) × (Nat → Nat → Int32)) => f_P_fillRow_L10 fu (nI r) (nI i) (nI f) nA nC s.1 (mrkN r f A pI i) s.2) (fun i s => (∀ b, b < 64 → s.1 b = nI (U b + cn (fun x => B x == b + 1) (i * 16))) ∧ (∀ q, q ≠ r → s.2 q = pC q) ∧ (∀ y, y < i → alN f A y = 1 → ∀ x, x < 16 → s.2 r (y * 16 + x) = nC (y * 16 + x))) 40 (fun s => (s.1, mrkN r f A pI 40, s.2)) (fun fu i s hi ⟨b1, b2, b3⟩ => by
      obtain ⟨u', c', d1, d2, d3, d4, d5⟩ := P_fill1 (i := i) (pC := s.2) (U := U) (nC := nC) hf hi hr hA hB b1
      obtain ⟨a1, a2⟩ := S_isAlive_any (nA := nA) (A := A) hf hi hA
      refine ⟨(u', c'), ⟨d2, fun q hq => (d3 q hq).trans (b2 q hq), fun y hy hy1 x hx => ?_⟩, ?_⟩
      · by_cases w : y = i
        · subst w
          exact d5 hy1 x hx
        · exact (d4 _ (by omega)).trans (b3 y (by omega) hy1 x hx)
      · show f_P_fillRow_L10 (fu + 1) _ _ _ _ _ _ _ _ = _
        have h16 : ¬ (40 : Int32) ≤ nI i := fun q => absurd ((nI_leI (a := 40) (b := i) (by omega) (by omega)).mp q) (by omega)
        have mm : nI r * 40 + nI i = nI (r * 40 + i) := by rw [show (40 : Int32) = nI 40 from rfl, pk_mul, nI_add]
        rw [f_P_fillRow_L10, if_neg h16, a1, Option.bind_some, mm, if_neg (in_lim (by omega) (by omega)), d1, Option.bind_some, nI_clamp (by omega), vzn a2, nI_1, mrkN_s]) (fun fu s _ => by
      show f_P_fillRow_L10 (fu + 1) _ _ _ _ _ _ _ _ = _
      rw [f_P_fillRow_L10]
      simp (disch := omega) only [nI_ltI, nI_leI, nI_eq, nI_add, pk_mul, pk_sub, nI_clamp, l0, l1, l2, l3, l4, l5, l6, l8, l9, l10, l15, l16, l30, l39, l40, l58, l63, l64, l99, l100, l103, l104, l108, l112, l117, l119, l120, l512, l639, l640, l999, l9999, l19200, if_pos, if_neg, Option.bind_some, if_true, if_false]) FU (FU_gt (by omega)) (nU, pC) ⟨fun b hb => by rw [Nat.zero_mul]; exact hU b hb, fun q _ => rfl, fun y hy => absurd hy (Nat.not_lt_zero y)⟩
  rw [mrkN_0] at g5
  refine ⟨u, c, ?_, g1, g2, g3⟩
  unfold f_P_fillRow
  have e1 : ¬ ((1 : Int32) = 0) := by decide
  have g5 : f_P_fillRow_L10 FU (nI r) 0 (nI f) nA nC nU pI pC = some (u, mrkN r f A pI 40, c) := g5
  rw [P_isRow_in hr, Option.bind_some, if_neg e1, g5]
  rfl
/-- a stretch of a row comes from another row -/
def putM (a : Nat) (m m' : Nat → Int32) (n : Nat) : Nat → Int32 := fun y => if a ≤ y ∧ y < a + n then m (y - a) else m' y
theorem putM_0 (a : Nat) (m m' : Nat → Int32) : putM a m m' 0 = m' := by
  funext y
  exact if_neg (by omega)
theorem putM_s (a : Nat) (m m' : Nat → Int32) (n : Nat) : upd (putM a m m' n) (a + n) (m n) = putM a m m' (n + 1) := by
  funext y
  unfold upd putM
  by_cases e : y = a + n
  · rw [if_pos e, if_pos (by omega), show y - a = n by omega]
  · rw [if_neg e]
    by_cases e2 : a ≤ y ∧ y < a + n
    · rw [if_pos e2, if_pos (by omega)]
    · rw [if_neg e2, if_neg (by omega)]
/-- a snapshot's places: those of the files as they are -/
def shN (t : Nat) (B S : Nat → Nat) : Nat → Nat := fun y => if 640 * t ≤ y then B (y - 640 * t) else S y
def waN (t f : Nat) (A WI : Nat → Nat) : Nat → Nat := fun y => if 40 * t ≤ y ∧ y < 40 * t + f then A (y - 40 * t) else WI y
theorem snB_sh_lt {s b : Nat} (hs : s < t) : snB (shN t B S) s b = snB S s b := cn_cong (fun x hx => by
  show (shN t B S (640 * s + x) == b + 1) = _
  unfold shN
  rw [if_neg (by omega)])
theorem snB_sh_t {b : Nat} : snB (shN t B S) t b = cntB B b := cn_cong (fun x hx => by
  show (shN t B S (640 * t + x) == b + 1) = _
  unfold shN
  rw [if_pos (by omega), show 640 * t + x - 640 * t = x by omega])
theorem snU_sh {b : Nat} : snU (t + 1) (un K t 1) (shN t B S) b = snU t K S b + cntB B b := by
  unfold snU
  rw [sm_s, un_at, if_pos rfl, snB_sh_t, sm_cong (fun s hs => by rw [un_ne (by omega), snB_sh_lt hs])]
/-- a new snapshot in row r -/
theorem SNAP_add {r : Nat} {p : Int32} {pC' : Nat → Nat → Int32} (hS : SNAP t K S W V WI pT pK pR pW pU pI pC msnaps mranks mkept mshot mwas) (ht : t < 30) (hc : cn (fun s => K s == 1) t < 8) (hf : f ≤ 40) (hr : r < 8) (hV0 : V r = 0) (hA : ∀ i, i < 40 → A i ≤ 1) (hB : ∀ x, x < 640 → nC x = nI (B x) - 1 ∧ mblocks x = nI (B x) ∧ B x ≤ 64 ∧ (B x ≠ 0 → x / 16 < f ∧ A (x / 16) = 1)) (c1 : ∀ q, q ≠ r → pC' q = pC q) (c2 : ∀ i, i < 40 → alN f A i = 1 → ∀ x, x < 16 → pC' r (i * 16 + x) = nC (i * 16 + x)) :
    SNAP (t + 1) (un K t 1) (shN t B S) (un W t (r + 1)) (un V r (t + 1)) (waN t f A WI) (nI (t + 1)) (nI (cn (fun s => K s == 1) t + 1)) (upd pR t p) (upd pW t (nI r)) (upd pU r 1) (mrkN r f A pI 40) pC' (nI (t + 1)) (upd mranks t p) (upd mkept t 1) (putM (640 * t) mblocks mshot 640) (putM (40 * t) (fun i => nI (A i)) mwas f) := by
  obtain ⟨-, -, ⟨-, hk⟩, -, -, hR, hW, hV, hWV, hVc, hsum, hwi, hrow⟩ := hS
  have hcK : cn (fun s => un K t 1 s == 1) (t + 1) = cn (fun s => K s == 1) t + 1 := by
    rw [cn_s, un_at, if_pos (beq_self_eq_true 1), cn_cong (q := fun s => K s == 1) (fun s hs => by rw [un_ne (by omega)])]
  have hal : ∀ i, i < 40 → waN t f A WI (40 * t + i) = alN f A i := by
    intro i hi
    unfold waN alN
    by_cases z : i < f
    · rw [if_pos (by omega), if_pos z, show 40 * t + i - 40 * t = i by omega]
    · rw [if_neg (by omega), if_neg z]
      exact (hwi _ (by omega)).2.2 (by omega)
  refine ⟨rfl, rfl, ⟨by omega, fun s hs => ?_⟩, by rw [hcK], by rw [hcK]; omega, fun s hs => ?_, fun s hs => ?_, fun q hq => ?_, fun s q hs hq => ?_, ?_, fun b hb => ?_, fun x hx => ?_, fun s hs hks i hi => ?_⟩
  · by_cases z : s = t
    · subst z
      rw [upd_at, un_at]
      refine ⟨rfl, by omega, fun _ x hx => ?_⟩
      unfold putM shN
      rw [if_pos (by omega), if_pos (by omega), show 640 * s + x - 640 * s = x by omega]
      exact ⟨(hB x hx).2.1, (hB x hx).2.2.1⟩
    · rw [upd_ne z, un_ne z]
      obtain ⟨k1, k2, k3⟩ := hk s (by omega)
      refine ⟨k1, k2, fun y x hx => ?_⟩
      unfold putM shN
      rw [if_neg (by omega), if_neg (by omega)]
      exact k3 y x hx
  · by_cases z : s = t
    · rw [z, upd_at, upd_at]
    · rw [upd_ne z, upd_ne z]
      exact hR s (by omega)
  · by_cases z : s = t
    · subst z
      rw [upd_at, un_at, un_at, nI_pred]
      exact ⟨rfl, by omega, ⟨fun _ => ⟨by omega, rfl⟩, fun _ => by omega⟩⟩
    · rw [upd_ne z, un_ne z, un_ne z]
      obtain ⟨w1, w2, w3⟩ := hW s hs
      exact ⟨w1, w2, w3.trans ⟨fun ⟨y1, y2⟩ => ⟨by omega, y2⟩, fun ⟨y1, y2⟩ => ⟨by omega, y2⟩⟩⟩
  · by_cases z : q = r
    · subst z
      rw [upd_at, un_at, if_neg (by omega)]
      exact ⟨rfl, Nat.le_refl _⟩
    · rw [upd_ne z, un_ne z]
      exact ⟨(hV q hq).1, by have := (hV q hq).2; omega⟩
  · have hw := hWV s q hs hq
    by_cases z : s = t
    · subst z
      rw [un_at]
      by_cases y : q = r
      · subst y
        rw [un_at]
        exact ⟨fun _ => rfl, fun _ => rfl⟩
      · rw [un_ne y]
        have := (hV q hq).2
        exact ⟨fun w => absurd w (by omega), fun w => absurd w (by omega)⟩
    · rw [un_ne z]
      by_cases y : q = r
      · subst y
        rw [un_at, hw, hV0]
        exact ⟨fun w => absurd w (by omega), fun w => absurd w (by omega)⟩
      · rw [un_ne y]
        exact hw
  · have h := cn_upd (p := fun q => V q != 0) (q := fun q => un V r (t + 1) q != 0) (n := 8) (k := r) hr (fun i _ hne => by rw [un_ne hne])
    rw [un_at, hV0, hVc] at h
    rw [hcK]
    simpa using h
  · have h := sm_upd (f := fun q => if V q = 0 then 0 else snB S (V q - 1) b) (g := fun q => if un V r (t + 1) q = 0 then 0 else snB (shN t B S) (un V r (t + 1) q - 1) b) (n := 8) (k := r) hr (fun i hi hne => by
      rw [un_ne hne]
      by_cases y : V i = 0
      · rw [if_pos y, if_pos y]
      · rw [if_neg y, if_neg y, snB_sh_lt (by have := (hV i hi).2; omega)])
    rw [un_at, hV0, if_pos rfl, if_neg (by omega), show t + 1 - 1 = t by omega, snB_sh_t, hsum b hb, Nat.add_zero] at h
    rw [h, snU_sh]
  · obtain ⟨x1, x2, x3⟩ := hwi x hx
    unfold putM waN
    by_cases z : 40 * t ≤ x ∧ x < 40 * t + f
    · rw [if_pos z, if_pos z]
      exact ⟨rfl, hA _ (by omega), fun y => absurd y (by omega)⟩
    · rw [if_neg z, if_neg z]
      exact ⟨x1, x2, fun y => x3 (by omega)⟩
  · by_cases z : s = t
    · subst z
      rw [un_at, Nat.add_sub_cancel, hal i hi]
      refine ⟨?_, fun y x hx => ?_, fun y x hx => ?_⟩
      · unfold mrkN
        rw [if_pos (by omega), show r * 40 + i - r * 40 = i by omega]
      · rw [c2 i hi y x hx, (hB _ (by omega)).1]
        unfold shN
        rw [if_pos (by omega), show 640 * s + (i * 16 + x) - 640 * s = i * 16 + x by omega]
      · unfold shN
        rw [if_pos (by omega), show 640 * s + (i * 16 + x) - 640 * s = i * 16 + x by omega]
        rcases Nat.eq_zero_or_pos (B (i * 16 + x)) with w | w
        · exact w
        · obtain ⟨v1, v2⟩ := (hB (i * 16 + x) (by omega)).2.2.2 (by omega)
          rw [show (i * 16 + x) / 16 = i by omega] at v1 v2
          unfold alN at y
          rw [if_pos v1] at y
          omega
    · rw [un_ne z] at hks ⊢
      have hst : s < t := by omega
      obtain ⟨w1, w2, w3⟩ := hW s (by omega)
      have hw0 : W s ≠ 0 := w3.mpr ⟨hst, hks⟩
      have hne : W s - 1 ≠ r := by
        intro y
        have := (hWV s r (by omega) hr).mp (by omega)
        omega
      obtain ⟨d1, d2, d3⟩ := hrow s hst hks i hi
      have e1 : waN t f A WI (40 * s + i) = WI (40 * s + i) := by
        unfold waN
        rw [if_neg (by omega)]
      have e2 : ∀ x, x < 16 → shN t B S (640 * s + (i * 16 + x)) = S (640 * s + (i * 16 + x)) := by
        intro x hx
        unfold shN
        rw [if_neg (by omega)]
      rw [e1, c1 _ hne]
      refine ⟨?_, fun y x hx => ?_, fun y x hx => ?_⟩
      · unfold mrkN
        rw [if_neg (by omega)]
        exact d1
      · rw [e2 x hx]
        exact d2 y x hx
      · rw [e2 x hx]
        exact d3 y x hx
end SNAPADD
