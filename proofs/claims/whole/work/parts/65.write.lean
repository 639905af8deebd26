/-! CASES THAT WRITE, II: files, links, places, promises -/
section WRITE
variable {j k t f e h tr : Nat} {K S O L A B P HF HE HO hd : Nat → Nat} {cO mown nF nE mfiles mentr uO mholds p1 p2 p3 : Int32} {nO nL nA nC nV nU nP mprom mlinks mblocks mvals mowner uF uE uN mheld mends mopen cK mkinds mkept mshot cQ mquot : Nat → Int32} {oL : Nat → Int64}
/-- CASE 1: createFile -/
theorem c1 (hk : k ≤ 4) (hj : j ≤ 511) (g1 : cO = nI k) (g2 : mown = nI k) (hC : CORE k t K S O f L A B P e nF nO nL nA nC nV nU nP nE mprom mfiles mlinks mblocks mvals mentr) (hV : ALV f L hd A) (hM : ∀ i, i < f → mowner i = nI (O i)) (hE : ENT j e cK mkinds) :
    ∃ nF' nO' nL' nA' nE' cK' oL' mc mf' mo' ml' me' mk', f_case1 p1 nF nO nL nA nE cK cO oL mown mfiles mowner mlinks mentr mkinds = some (nF', nO', nL', nA', nE', cK', oL', mc, mf', mo', ml', me', mk') ∧ ∃ O' f' L' A' e', f ≤ f' ∧ e ≤ e' ∧ CORE k t K S O' f' L' A' B P e' nF' nO' nL' nA' nC nV nU nP nE' mprom mf' ml' mblocks mvals me' ∧ ALV f' L' hd A' ∧ (∀ i, i < f' → mo' i = nI (O' i)) ∧ (∀ i, i < f → mo' i = mowner i) ∧ ENT (j + 1) e' cK' mk' := by
  subst g1
  subst g2
  have hC0 := hC
  obtain ⟨hf, rfl, rfl, rfl, rfl, hF, hB, hU, hP, hPs, hA⟩ := hC
  have he := hE.1
  unfold f_case1 f_L_createFile f_C_createFile f_M_createFile f_M_thrown f_M_fails f_S_fileTotal
  rcases out_or p1 (n := k) (by omega) with ho | ⟨o, ho, rfl⟩
  · rw [C_requireOwner_out hk ho, M_isOwner_out hk ho]
    exact ⟨_, _, _, _, _, _, _, _, _, _, _, _, _, rfl, O, f, L, A, e, Nat.le_refl _, Nat.le_refl _, hC0, hV, hM, fun _ _ => rfl, ENT_next hE⟩
  · rw [C_requireOwner_in hk ho, M_isOwner_in hk ho]
    have e1 : ¬ ((1 : Int32) = 0) := by decide
    have e2 : ¬ ((2 : Int32) = 0) := by decide
    by_cases hq : f = 40
    · subst hq
      exact ⟨_, _, _, _, _, _, _, _, _, _, _, _, _, rfl, O, 40, L, A, e, Nat.le_refl _, Nat.le_refl _, hC0, hV, hM, fun _ _ => rfl, ENT_next hE⟩
    · have w1 : f_C_note 99 (nI e) cK = some (nI (e + 1), upd cK e (nI 99)) := C_note_ok (c := 99) (by omega) (by omega)
      have w2 : f_M_enters 99 (nI e) mkinds = some (nI (e + 1), upd mkinds e (nI 99)) := M_enters_ok (c := 99) (by omega) (by omega)
      have a1 : nI f < (40 : Int32) := (nI_ltI (a := f) (b := 40) (by omega) (by omega)).mpr (by omega)
      have a2 := in_lim (j := f) (n := 40) (by omega) (by omega)
      have a2_ := in_l2 (j := f) (n := 40) (by omega) (by omega)
      have a3 : ¬ nI f = (40 : Int32) := fun z => hq ((nI_eq (a := f) (b := 40) (by omega) (by omega)).mp z)
      have w3 : f_S_addFile (nI o) (nI f) nO nL nA = some (nI f, nI (f + 1), upd nO f (nI o), upd nL f 1, upd nA f 1) := by
        unfold f_S_addFile
        rw [if_pos a1, if_neg a2, if_neg a2, if_neg a2, nI_clamp (by omega), nI_1, vz1]
      simp only [Option.bind_some, w1, w2, w3, a1, a2_, a3, e1, if_true, if_false, nI_1, nI_pred, out_same, cmp_same, nI_clamp (show f < 2 ^ 31 by omega)]
      refine ⟨_, _, _, _, _, _, _, _, _, _, _, _, _, rfl, un O f o, f + 1, un L f 1, un A f 1, e + 1, by omega, by omega, ⟨by omega, rfl, rfl, rfl, rfl, fun i hi => ?_, fun x hx => ?_, hU, hP, hPs, fun i hi => ?_⟩, fun i hi => ?_, fun i hi => ?_, fun i hi => upd_ne (by omega), ENT_note hE (by omega)⟩
      · by_cases q : i = f
        · subst q
          simp only [upd_at, un_at]
          exact ⟨(by first | exact trivial | exact rfl), ho, (by first | exact trivial | exact rfl), (by first | exact trivial | exact rfl), by omega⟩
        · simp only [upd_ne q, un_ne q]
          exact hF i (by omega)
      · obtain ⟨b1, b2, b3, b4⟩ := hB x hx
        refine ⟨b1, b2, b3, fun hne => ?_⟩
        obtain ⟨b5, b6⟩ := b4 hne
        exact ⟨by omega, by rw [un_ne (by omega)]; exact b6⟩
      · by_cases q : i = f
        · subst q
          rw [upd_at, un_at]
          exact ⟨rfl, by omega⟩
        · rw [upd_ne q, un_ne q]
          exact hA i hi
      · by_cases q : i = f
        · subst q
          rw [un_at, un_at]
          rfl
        · rw [un_ne q, un_ne q]
          exact hV i (by omega)
      · by_cases q : i = f
        · subst q
          rw [upd_at, un_at]
        · rw [upd_ne q, un_ne q]
          exact hM i (by omega)
theorem CORE_links {l : Nat} {i : Nat} (hC : CORE k t K S O f L A B P e nF nO nL nA nC nV nU nP nE mprom mfiles mlinks mblocks mvals mentr) (hi : i < f) (h9 : l ≤ 9) : CORE k t K S O f (un L i l) A B P (e + 1) nF nO (upd nL i (nI l)) nA nC nV nU nP (nI (e + 1)) mprom mfiles (upd mlinks i (nI l)) mblocks mvals (nI (e + 1)) := by
  obtain ⟨hf, g1, g2, g3, g4, hF, hR⟩ := hC
  refine ⟨hf, g1, g2, rfl, rfl, fun x hx => ?_, hR⟩
  obtain ⟨a1, a2, a3, a4, a5⟩ := hF x hx
  by_cases q : x = i
  · subst q
    simp only [upd_at, un_at]
    exact ⟨a1, a2, (by first | exact trivial | exact rfl), (by first | exact trivial | exact rfl), h9⟩
  · simp only [upd_ne q, un_ne q]
    exact ⟨a1, a2, a3, a4, a5⟩
/-- CASE 5: link -/
theorem c5 (hj : j ≤ 511) (hC : CORE k t K S O f L A B P e nF nO nL nA nC nV nU nP nE mprom mfiles mlinks mblocks mvals mentr) (hV : ALV f L hd A) (hE : ENT j e cK mkinds) :
    ∃ nL' nE' cK' oL' mc ml' me' mk', f_case5 p1 nF nL nE cK oL mfiles mlinks mentr mkinds = some (nL', nE', cK', oL', mc, ml', me', mk') ∧ ∃ L' e', e ≤ e' ∧ CORE k t K S O f L' A B P e' nF nO nL' nA nC nV nU nP nE' mprom mfiles ml' mblocks mvals me' ∧ ALV f L' hd A ∧ ENT (j + 1) e' cK' mk' := by
  have hC0 := hC
  obtain ⟨hf, rfl, rfl, rfl, rfl, hF, -⟩ := hC
  have he := hE.1
  unfold f_case5 f_L_link f_C_link f_M_link f_M_thrown f_M_fails
  rcases out_or p1 (n := f) (by omega) with ho | ⟨i, hi, rfl⟩
  · rw [C_requireFile_out ho, M_isFile_out hf ho]
    exact ⟨_, _, _, _, _, _, _, _, rfl, L, e, Nat.le_refl _, hC0, hV, ENT_next hE⟩
  · obtain ⟨-, -, a3, a4, a5⟩ := hF i hi
    have e1 : ¬ ((1 : Int32) = 0) := by decide
    have e2 := in_lim (j := i) (n := 40) (by omega) (by omega)
    have e2_ := in_l2 (j := i) (n := 40) (by omega) (by omega)
    rw [C_requireFile_in hf hi, M_isFile_in hi hf, C_requireLinks_ok hf hi a3 a5, S_linkTotal_in hi hf, a3]
    simp only [e1, e2_, if_false, nI_clamp (show i < 2 ^ 31 by omega), a4]
    by_cases q0 : L i = 0
    · rw [q0]
      exact ⟨_, _, _, _, _, _, _, _, rfl, L, e, Nat.le_refl _, hC0, hV, ENT_next hE⟩
    · rw [if_neg q0]
      have e3 : ¬ nI (L i) = 0 := nI_ne0 (by omega) (by omega)
      by_cases q9 : L i = 9
      · rw [q9]
        exact ⟨_, _, _, _, _, _, _, _, rfl, L, e, Nat.le_refl _, hC0, hV, ENT_next hE⟩
      · have e4 : nI (L i) < 9 := (nI_ltI (a := L i) (b := 9) (by omega) (by omega)).mpr (by omega)
        have e5 : ¬ nI (L i) = 9 := fun z => q9 ((nI_eq (a := L i) (b := 9) (by omega) (by omega)).mp z)
        have w1 : f_C_note 108 (nI e) cK = some (nI (e + 1), upd cK e (nI 108)) := C_note_ok (c := 108) (by omega) (by omega)
        have w2 : f_M_enters 108 (nI e) mkinds = some (nI (e + 1), upd mkinds e (nI 108)) := M_enters_ok (c := 108) (by omega) (by omega)
        simp only [Option.bind_some, e1, e3, e4, e5, if_true, if_false, nI_1, S_setLinks_in hi hf, w1, w2, upd_at, out_same, cmp_same]
        refine ⟨_, _, _, _, _, _, _, _, rfl, un L i (L i + 1), e + 1, by omega, CORE_links hC0 hi (by omega), fun x hx => ?_, ENT_note hE (by omega)⟩
        by_cases q : x = i
        · subst q
          rw [un_at, hV x hx, if_neg (by omega), if_neg (by omega)]
        · rw [un_ne q]
          exact hV x hx
/-- CASE 6: unlink -/
theorem c6 (hj : j ≤ 511) (hC : CORE k t K S O f L A B P e nF nO nL nA nC nV nU nP nE mprom mfiles mlinks mblocks mvals mentr) (hV : ALV f L (hdN h HF HO) A) (hH : HOLD h f HF HE HO uO uF uE uN mholds mheld mends mopen) (hE : ENT j e cK mkinds) :
    ∃ nL' nA' nC' nU' nE' cK' oL' mc ml' mb' me' mk', f_case6 p1 nF nL nA nC nU nE cK uO uF uN oL mfiles mlinks mblocks mholds mheld mopen mentr mkinds = some (nL', nA', nC', nU', nE', cK', oL', mc, ml', mb', me', mk') ∧ ∃ L' A' B' e', e ≤ e' ∧ CORE k t K S O f L' A' B' P e' nF nO nL' nA' nC' nV nU' nP nE' mprom mfiles ml' mb' mvals me' ∧ ALV f L' (hdN h HF HO) A' ∧ ENT (j + 1) e' cK' mk' := by
  have hC0 := hC
  obtain ⟨hf, rfl, rfl, rfl, rfl, hF, hB, hU, hP, hPs, hA⟩ := hC
  obtain ⟨hh, rfl, rfl, hH⟩ := hH
  have he := hE.1
  unfold f_case6 f_L_unlink f_C_unlink f_M_unlink f_M_thrown f_M_fails
  rcases out_or p1 (n := f) (by omega) with ho | ⟨i, hi, rfl⟩
  · rw [C_requireFile_out ho, M_isFile_out hf ho]
    exact ⟨_, _, _, _, _, _, _, _, _, _, _, _, rfl, L, A, B, e, Nat.le_refl _, hC0, hV, ENT_next hE⟩
  · obtain ⟨-, -, a3, a4, a5⟩ := hF i hi
    have e1 : ¬ ((1 : Int32) = 0) := by decide
    have e2 := in_lim (j := i) (n := 40) (by omega) (by omega)
    have e2_ := in_l2 (j := i) (n := 40) (by omega) (by omega)
    rw [C_requireFile_in hf hi, M_isFile_in hi hf, C_requireLinks_ok hf hi a3 a5, S_linkTotal_in hi hf, a3]
    simp only [e1, e2_, if_false, nI_clamp (show i < 2 ^ 31 by omega), a4]
    by_cases q0 : L i = 0
    · rw [q0]
      exact ⟨_, _, _, _, _, _, _, _, _, _, _, _, rfl, L, A, B, e, Nat.le_refl _, hC0, hV, ENT_next hE⟩
    · rw [if_neg q0]
      have e3 : ¬ nI (L i) = 0 := nI_ne0 (by omega) (by omega)
      have e4 : nI (L i) - 1 = nI (L i - 1) := pk_sub (a := L i) (b := 1) (by omega)
      have w1 : f_C_note 117 (nI e) cK = some (nI (e + 1), upd cK e (nI 117)) := C_note_ok (c := 117) (by omega) (by omega)
      have w2 : f_M_enters 117 (nI e) mkinds = some (nI (e + 1), upd mkinds e (nI 117)) := M_enters_ok (c := 117) (by omega) (by omega)
      obtain ⟨r, nA', nC', nU', m', A', B', g1, g2, g3, ⟨g4, g5, g6⟩, g7, g8⟩ := GOES (j := i) (l := L i - 1) (nL := upd nL i (nI (L i - 1))) (mlinks := upd mlinks i (nI (L i - 1))) (A := A) (B := B) (K := K) (S := S) (t := t) (nA := nA) (nC := nC) (nU := nU) (mblocks := mblocks) (uF := uF) (uN := uN) (mheld := mheld) (mopen := mopen) (HF := HF) (HO := HO) hi hf hh ⟨hB, fun b hb => (hU b hb).2, hA⟩ upd_at upd_at (by omega) (fun x hx => by
        obtain ⟨b1, b2, -, -, b5, b6, b7, b8, -⟩ := hH x hx
        exact ⟨b1, b2, b5, b6, by omega, b7⟩)
      simp only [Option.bind_some, e1, e3, if_true, if_false, e4, S_setLinks_in hi hf, g1, g2, w1, w2, upd_at, out_same, cmp_same]
      obtain ⟨c1, c2, c3, c4, c5, c6, -⟩ := CORE_links hC0 hi (l := L i - 1) (by omega)
      refine ⟨_, _, _, _, _, _, _, _, _, _, _, _, rfl, un L i (L i - 1), A', B', e + 1, by omega, ⟨c1, c2, c3, c4, c5, c6, g4, fun b hb => ⟨(hU b hb).1, g5 b hb⟩, hP, hPs, g6⟩, fun x hx => ?_, ENT_note hE (by omega)⟩
      by_cases q : x = i
      · subst q
        rw [un_at, g8, show A x = 1 by rw [hV x hx, if_neg (fun z => q0 z.1)]]
      · rw [un_ne q, g7 x q]
        exact hV x hx
/-- CASE 8: punch -/
theorem c8 (hj : j ≤ 511) (hC : CORE k t K S O f L A B P e nF nO nL nA nC nV nU nP nE mprom mfiles mlinks mblocks mvals mentr) (hE : ENT j e cK mkinds) :
    ∃ nC' nU' nE' cK' oL' mc mb' me' mk', f_case8 p1 p2 nF nL nC nU nE cK oL mfiles mlinks mblocks mentr mkinds = some (nC', nU', nE', cK', oL', mc, mb', me', mk') ∧ ∃ B' e', e ≤ e' ∧ CORE k t K S O f L A B' P e' nF nO nL nA nC' nV nU' nP nE' mprom mfiles mlinks mb' mvals me' ∧ ENT (j + 1) e' cK' mk' := by
  have hC0 := hC
  obtain ⟨hf, rfl, rfl, rfl, rfl, hF, hB, hU, hP, hPs, hA⟩ := hC
  have he := hE.1
  unfold f_case8 f_L_punch f_C_punch f_M_punch f_M_thrown f_M_fails
  rcases out_or p1 (n := f) (by omega) with ho | ⟨i, hi, rfl⟩
  · rw [C_requireFile_out ho, M_isFile_out hf ho]
    exact ⟨_, _, _, _, _, _, _, _, _, rfl, B, e, Nat.le_refl _, hC0, ENT_next hE⟩
  · rw [C_requireFile_in hf hi, M_isFile_in hi hf]
    rcases out_or p2 (n := 16) (by omega) with ho | ⟨x, hx, rfl⟩
    · rw [C_requirePlace_out ho, M_isPlace_out ho]
      exact ⟨_, _, _, _, _, _, _, _, _, rfl, B, e, Nat.le_refl _, hC0, ENT_next hE⟩
    · obtain ⟨-, -, a3, a4, a5⟩ := hF i hi
      obtain ⟨b1, b2, b3, b4⟩ := hB (i * 16 + x) (by omega)
      have e1 : ¬ ((1 : Int32) = 0) := by decide
      have e2 := in_lim (j := i) (n := 40) (by omega) (by omega)
      have e2_ := in_l2 (j := i) (n := 40) (by omega) (by omega)
      rw [C_requirePlace_in hx, M_isPlace_in hx, C_requireLinks_ok hf hi a3 a5, S_blockIn_in hi hf hx, b1]
      have e4 := in_lim (j := i * 16 + x) (n := 640) (by omega) (by omega)
      have e4_ := in_l2 (j := i * 16 + x) (n := 640) (by omega) (by omega)
      simp only [Option.bind_some, e1, e2_, if_false, nI_clamp (show i < 2 ^ 31 by omega), a4]
      by_cases q0 : L i = 0
      · rw [q0]
        exact ⟨_, _, _, _, _, _, _, _, _, rfl, B, e, Nat.le_refl _, hC0, ENT_next hE⟩
      · rw [if_neg q0]
        have e3 : ¬ nI (L i) = 0 := nI_ne0 (by omega) (by omega)
        have mm : (16 : Int32) * nI i + nI x = nI (i * 16 + x) := by rw [mul16, Nat.mul_comm]
        simp only [mm, e3, e4_, if_false, nI_clamp (show i * 16 + x < 2 ^ 31 by omega), b2]
        by_cases qb : B (i * 16 + x) = 0
        · rw [qb]
          exact ⟨_, _, _, _, _, _, _, _, _, rfl, B, e, Nat.le_refl _, hC0, ENT_next hE⟩
        · have e5 : ¬ nI (B (i * 16 + x)) = (0 : Int32) := nI_ne0 (by omega) (by omega)
          have e6 : ¬ nI (B (i * 16 + x)) - 1 = -1 := fun z => qb ((m1_eq (by omega)).mp z)
          have w1 : f_C_note 104 (nI e) cK = some (nI (e + 1), upd cK e (nI 104)) := C_note_ok (c := 104) (by omega) (by omega)
          have w2 : f_M_enters 104 (nI e) mkinds = some (nI (e + 1), upd mkinds e (nI 104)) := M_enters_ok (c := 104) (by omega) (by omega)
          obtain ⟨u', g1, g2, g3⟩ := setB (q := x) (v := 0) (B := B) (K := K) (S := S) (t := t) (nU := nU) hi hf hx (fun y hy => ⟨(hB y hy).1, (hB y hy).2.2.1⟩) (fun b hb => (hU b hb).2) (by omega)
          have g1 : f_S_setBlock (nI i) (nI x) (-1) (nI f) nC nU = some (upd nC (i * 16 + x) (nI 0 - 1), u') := g1
          simp only [e5, e6, if_false, if_true, g1, w1, w2, Option.bind_some, out_same, cmp_same]
          refine ⟨_, _, _, _, _, _, _, _, _, rfl, un B (i * 16 + x) 0, e + 1, by omega, ⟨hf, rfl, rfl, rfl, rfl, hF, fun y hy => ?_, fun b hb => ⟨(hU b hb).1, g3 b hb⟩, hP, hPs, hA⟩, ENT_note hE (by omega)⟩
          refine ⟨(g2 y hy).1, ?_, (g2 y hy).2, fun hne => ?_⟩
          · exact upd_un (x := 0) (fun _ => (hB y hy).2.1)
          · by_cases q : y = i * 16 + x
            · rw [q, un_at] at hne
              exact absurd rfl hne
            · rw [un_ne q] at hne
              exact (hB y hy).2.2.2 hne
/-- a promise changes -/
theorem CORE_prom {o q : Nat} (hC : CORE k t K S O f L A B P e nF nO nL nA nC nV nU nP nE mprom mfiles mlinks mblocks mvals mentr) (h1 : q ≤ 64) (h2 : sm (un P o q) 4 ≤ 64) : CORE k t K S O f L A B (un P o q) e nF nO nL nA nC nV nU (upd nP o (nI q)) nE (upd mprom o (nI q)) mfiles mlinks mblocks mvals mentr := by
  obtain ⟨hf, g1, g2, g3, g4, hF, hB, hU, hP, hPs, hA⟩ := hC
  refine ⟨hf, g1, g2, g3, g4, hF, hB, hU, fun x hx => ?_, h2, hA⟩
  obtain ⟨a1, a2, a3⟩ := hP x hx
  refine ⟨upd_un (fun _ => a1), upd_un (fun _ => a2), ?_⟩
  by_cases z : x = o
  · rw [z, un_at]
    exact h1
  · rw [un_ne z]
    exact a3
theorem CORE_e (hC : CORE k t K S O f L A B P e nF nO nL nA nC nV nU nP nE mprom mfiles mlinks mblocks mvals mentr) (e' : Nat) : CORE k t K S O f L A B P e' nF nO nL nA nC nV nU nP (nI e') mprom mfiles mlinks mblocks mvals (nI e') := by
  obtain ⟨hf, g1, g2, g3, g4, hR⟩ := hC
  exact ⟨hf, g1, g2, rfl, rfl, hR⟩
theorem sm4_un {P : Nat → Nat} {o q : Nat} (ho : o < 4) : sm (un P o q) 4 + P o = sm P 4 + q := by
  have h := sm_upd (f := P) (g := un P o q) (n := 4) (k := o) ho (fun i _ hne => (un_ne hne).symm)
  rw [un_at] at h
  exact h
/-- CASE 18: giveBack -/
theorem c18 (hk : k ≤ 4) (hj : j ≤ 511) (g1 : cO = nI k) (g2 : mown = nI k) (hC : CORE k t K S O f L A B P e nF nO nL nA nC nV nU nP nE mprom mfiles mlinks mblocks mvals mentr) (hE : ENT j e cK mkinds) :
    ∃ nP' nE' cK' oL' mc mp' me' mk', f_case18 p1 nP nE cK cO oL mown mprom mentr mkinds = some (nP', nE', cK', oL', mc, mp', me', mk') ∧ ∃ P' e', e ≤ e' ∧ CORE k t K S O f L A B P' e' nF nO nL nA nC nV nU nP' nE' mp' mfiles mlinks mblocks mvals me' ∧ ENT (j + 1) e' cK' mk' := by
  subst g1
  subst g2
  have hC0 := hC
  obtain ⟨hf, rfl, rfl, rfl, rfl, hF, hB, hU, hP, hPs, hA⟩ := hC
  have he := hE.1
  unfold f_case18 f_L_giveBack f_C_giveBack f_M_giveBack f_M_thrown f_M_fails
  rcases out_or p1 (n := k) (by omega) with ho | ⟨o, ho, rfl⟩
  · rw [C_requireOwner_out hk ho, M_isOwner_out hk ho]
    exact ⟨_, _, _, _, _, _, _, _, rfl, P, e, Nat.le_refl _, hC0, ENT_next hE⟩
  · obtain ⟨a1, a2, a3⟩ := hP o (by omega)
    have e1 : ¬ ((1 : Int32) = 0) := by decide
    have e2 := in_lim (j := o) (n := 4) (by omega) (by omega)
    have e2_ := in_l2 (j := o) (n := 4) (by omega) (by omega)
    rw [C_requireOwner_in hk ho, M_isOwner_in hk ho, S_promisedFor_in (by omega), a1]
    simp only [Option.bind_some, e1, e2_, if_false, nI_clamp (show o < 2 ^ 31 by omega), a2]
    by_cases q0 : P o = 0
    · rw [q0]
      exact ⟨_, _, _, _, _, _, _, _, rfl, P, e, Nat.le_refl _, hC0, ENT_next hE⟩
    · have e3 : ¬ nI (P o) = 0 := nI_ne0 (by omega) (by omega)
      have w1 : f_C_note 103 (nI e) cK = some (nI (e + 1), upd cK e (nI 103)) := C_note_ok (c := 103) (by omega) (by omega)
      have w2 : f_M_enters 103 (nI e) mkinds = some (nI (e + 1), upd mkinds e (nI 103)) := M_enters_ok (c := 103) (by omega) (by omega)
      simp only [e3, if_false, if_true, S_setPromised_in (show o < 4 by omega), w1, w2, Option.bind_some, out_same, cmp_same]
      have hs := sm4_un (P := P) (o := o) (q := 0) (by omega)
      exact ⟨_, _, _, _, _, _, _, _, rfl, un P o 0, e + 1, by omega, CORE_e (CORE_prom (o := o) (q := 0) hC0 (by omega) (by omega)) _, ENT_note hE (by omega)⟩
/-- how many blocks are free -/
def frN (t : Nat) (B K S : Nat → Nat) : Nat := cn (fun b => usr t B K S b == 0) 64
theorem frN_le (t : Nat) (B K S : Nat → Nat) : frN t B K S ≤ 64 := cn_le _ _
theorem C_freeN (ht : t ≤ 30) (hU : US t B K S nU) : f_S_freeTotal nU = some (nI (frN t B K S)) := S_freeTotal_ok (U := usr t B K S) (fun b hb => ⟨hU b hb, by have := usr_le ht B K S b; omega⟩)
theorem M_freeN (h1 : ∀ x, x < 640 → mblocks x = nI (B x) ∧ B x ≤ 64) (hS : SnM t K S mkept mshot) : f_M_freeNow mblocks (nI t) mkept mshot = some (nI (frN t B K S)) := M_freeNow_ok h1 hS
/-- CASE 16: promise -/
theorem c16 (hk : k ≤ 4) (hj : j ≤ 511) (g1 : cO = nI k) (g2 : mown = nI k) (hC : CORE k t K S O f L A B P e nF nO nL nA nC nV nU nP nE mprom mfiles mlinks mblocks mvals mentr) (hS : SnM t K S mkept mshot) (hE : ENT j e cK mkinds) :
    ∃ nP' nE' cK' oL' mc mp' me' mk', f_case16 p1 p2 nU nP nE cK cO oL mown mprom mblocks (nI t) mkept mshot mentr mkinds = some (nP', nE', cK', oL', mc, mp', me', mk') ∧ ∃ P' e', e ≤ e' ∧ CORE k t K S O f L A B P' e' nF nO nL nA nC nV nU nP' nE' mp' mfiles mlinks mblocks mvals me' ∧ ENT (j + 1) e' cK' mk' := by
  subst g1
  subst g2
  have hC0 := hC
  obtain ⟨hf, rfl, rfl, rfl, rfl, hF, hB, hU, hP, hPs, hA⟩ := hC
  have he := hE.1
  unfold f_case16 f_L_promise f_C_promise f_M_promise f_M_thrown f_M_fails
  rcases out_or p1 (n := k) (by omega) with ho | ⟨o, ho, rfl⟩
  · rw [C_requireOwner_out hk ho, M_isOwner_out hk ho]
    exact ⟨_, _, _, _, _, _, _, _, rfl, P, e, Nat.le_refl _, hC0, ENT_next hE⟩
  · obtain ⟨a1, a2, a3⟩ := hP o (by omega)
    have e1 : ¬ ((1 : Int32) = 0) := by decide
    have e2 := in_lim (j := o) (n := 4) (by omega) (by omega)
    have e2_ := in_l2 (j := o) (n := 4) (by omega) (by omega)
    rw [C_requireOwner_in hk ho, M_isOwner_in hk ho]
    rcases wthn p2 (a := 1) (b := 64) (by omega) (by omega) with ⟨q, hq1, hq, rfl⟩ | ⟨w1, w2⟩
    · have w1 : f_C_requireWithin (nI q) 1 64 = some (.ok ()) := C_within_in (a := 1) (b := 64) hq1 hq (by omega)
      have w2 : f_M_in (nI q) 1 64 = some 1 := M_within_in (a := 1) (b := 64) hq1 hq (by omega)
      have hfr := frN_le t B K S
      rw [w1, w2, C_freeN hS.1 (fun b hb => (hU b hb).2), M_freeN (fun x hx => ⟨(hB x hx).2.1, (hB x hx).2.2.1⟩) hS, S_promisedInAll_ok (fun o ho => ⟨(hP o ho).1, (hP o ho).2.2⟩), M_promisedNow_ok (fun o ho => (hP o ho).2)]
      simp only [Option.bind_some, e1, if_false]
      by_cases hle : nI q ≤ nI (frN t B K S) - nI (sm P 4)
      · have hle2 : q + sm P 4 ≤ frN t B K S := by
          have z := Int32.le_iff_toInt_le.mp hle
          rw [nI_toInt (by omega), pk_sub_toInt (by omega) (by omega)] at z
          omega
        have hs := sm4_un (P := P) (o := o) (q := P o + q) (by omega)
        have w3 : f_C_note 112 (nI e) cK = some (nI (e + 1), upd cK e (nI 112)) := C_note_ok (c := 112) (by omega) (by omega)
        have w4 : f_M_enters 112 (nI e) mkinds = some (nI (e + 1), upd mkinds e (nI 112)) := M_enters_ok (c := 112) (by omega) (by omega)
        have hPo : P o + q ≤ 64 := by
          have z := sm_upd (f := un P o 0) (g := P) (n := 4) (k := o) (by omega) (fun i _ hne => un_ne hne)
          rw [un_at] at z
          omega
        simp only [hle, if_true, e2_, if_false, S_promisedFor_in (show o < 4 by omega), nI_clamp (show o < 2 ^ 31 by omega), a1, a2, nI_add, S_setPromised_in (show o < 4 by omega), w3, w4, Option.bind_some, upd_at, out_same, cmp_same]
        exact ⟨_, _, _, _, _, _, _, _, rfl, un P o (P o + q), e + 1, by omega, CORE_e (CORE_prom (o := o) (q := P o + q) hC0 hPo (by omega)) _, ENT_note hE (by omega)⟩
      · rw [if_neg hle, if_neg hle]
        exact ⟨_, _, _, _, _, _, _, _, rfl, P, e, Nat.le_refl _, hC0, ENT_next hE⟩
    · have w1 : f_C_requireWithin p2 1 64 = some (.error 1) := w1
      have w2 : f_M_in p2 1 64 = some 0 := w2
      rw [w1, w2]
      exact ⟨_, _, _, _, _, _, _, _, rfl, P, e, Nat.le_refl _, hC0, ENT_next hE⟩
end WRITE
