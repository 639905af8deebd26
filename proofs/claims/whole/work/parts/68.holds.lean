/-! HOLDS -/
section HOLDS
variable {j k t f e h tr d : Nat} {K S O L A B P HF HE HO hd : Nat → Nat} {cT cD misop mday uO mholds nF mfiles nE mentr p1 p2 : Int32} {nO nL nA nC nV nU nP mprom mlinks mblocks mvals uF uE uN mheld mends mopen : Nat → Int32} {oL : Nat → Int64}
theorem H_endOf_in {x : Nat} (hx : x < h) (hh : h ≤ 30) : f_H_endOf (nI x) (nI h) uE = some (uE x) := by
  unfold f_H_endOf
  have e1 : ¬ ((1 : Int32) = 0) := by decide
  rw [H_wasOpened_in hx hh, Option.bind_some, if_neg e1, if_neg (in_lim (by omega) (by omega)), nI_clamp (by omega)]
theorem H_fileOf_in {x : Nat} (hx : x < h) (hh : h ≤ 30) : f_H_fileOf (nI x) (nI h) uF = some (uF x) := by
  unfold f_H_fileOf
  have e1 : ¬ ((1 : Int32) = 0) := by decide
  rw [H_wasOpened_in hx hh, Option.bind_some, if_neg e1, if_neg (in_lim (by omega) (by omega)), nI_clamp (by omega)]
theorem H_close_in {x : Nat} (hx : x < h) (hh : h ≤ 30) : f_H_close (nI x) (nI h) uN = some (upd uN x (nI 0)) := by
  unfold f_H_close
  have e1 : ¬ ((1 : Int32) = 0) := by decide
  rw [H_wasOpened_in hx hh, Option.bind_some, if_neg e1, if_neg (in_lim (by omega) (by omega)), nI_clamp (by omega)]
  rfl
theorem H_isStillOpen_out {p : Int32} (ho : Out p h) : f_H_isStillOpen p (nI h) uN = some 0 := by
  unfold f_H_isStillOpen
  rw [H_wasOpened_out ho]
  rfl
/-- CASE 29: nextEnd -/
theorem C_first_ok (hh : h ≤ 30) (hH : ∀ x, x < h → uN x = nI (HO x) ∧ HO x ≤ 1) : f_H_firstToEnd (nI h) uE uN = some (nI (bst uE (fun x => HO x == 1) h) - 1) := by
  unfold f_H_firstToEnd
  have hL := loop_up (fun fu i => f_H_firstToEnd_L4 fu (nI (bst uE (fun x => HO x == 1) i) - 1) (nI i) (nI h) uE uN) h (some (nI (bst uE (fun x => HO x == 1) h) - 1)) (fun fu i hi => by
      obtain ⟨w1, w2⟩ := hH i hi
      have hl := bst_le uE (fun x => HO x == 1) i
      show f_H_firstToEnd_L4 (fu + 1) _ _ _ _ _ = f_H_firstToEnd_L4 fu (nI (if (HO i == 1) = true then (if bst uE (fun x => HO x == 1) i = 0 then i + 1 else if uE (bst uE (fun x => HO x == 1) i - 1) ≤ uE i then bst uE (fun x => HO x == 1) i else i + 1) else bst uE (fun x => HO x == 1) i) - 1) _ _ _ _
      have h30 : ¬ nI h ≤ nI i := fun q => absurd ((nI_leI (a := h) (b := i) (by omega) (by omega)).mp q) (by omega)
      have hi1 := in_lim (j := i) (n := 30) (by omega) (by omega)
      have hi1_ := in_l2 (j := i) (n := 30) (by omega) (by omega)
      generalize bst uE (fun x => HO x == 1) i = b at hl ⊢
      have hb := m1_eq (b := b) (by omega)
      rw [f_H_firstToEnd_L4, if_neg h30, H_isStillOpen_in hh hi w1 w2, Option.bind_some, nI_1]
      by_cases e : HO i = 0
      · rw [e]
        rfl
      · have e0 : HO i = 1 := by omega
        have e3 : ¬ nI 1 = (0 : Int32) := by decide
        rw [e0, if_neg e3, if_pos (beq_self_eq_true 1)]
        by_cases q : b = 0
        · rw [if_pos (hb.mpr q), if_pos q, nI_pred]
        · rw [if_neg (fun z => q (hb.mp z)), if_neg hi1, if_neg q, show nI b - 1 = nI (b - 1) from pk_sub (a := b) (b := 1) (by omega), H_endOf_in (by omega) hh, Option.bind_some, nI_clamp (show i < 2 ^ 31 by omega)]
          by_cases y : uE (b - 1) ≤ uE i
          · rw [if_pos y, if_pos y, show nI b - 1 = nI (b - 1) from pk_sub (a := b) (b := 1) (by omega)]
          · rw [if_neg y, if_neg y, nI_pred]) (fun fu => by
      show f_H_firstToEnd_L4 (fu + 1) _ _ _ _ _ = _
      rw [f_H_firstToEnd_L4, if_pos (nI_le (Nat.le_refl h) (by omega))]) FU (FU_gt (by omega))
  have h2 : f_H_firstToEnd_L4 FU (-1) 0 (nI h) uE uN = some (nI (bst uE (fun x => HO x == 1) h) - 1) := hL
  rw [h2]
  rfl
theorem M_nextEnd_ok (hh : h ≤ 30) (hH : ∀ x, x < h → mopen x = nI (HO x) ∧ HO x ≤ 1) : f_M_nextEnd_L9 FU (-1) 0 (nI h) mends mopen = some (nI (bst mends (fun x => HO x == 1) h) - 1) := by
  have hL := loop_up (fun fu i => f_M_nextEnd_L9 fu (nI (bst mends (fun x => HO x == 1) i) - 1) (nI i) (nI h) mends mopen) h (some (nI (bst mends (fun x => HO x == 1) h) - 1)) (fun fu i hi => by
      obtain ⟨w1, w2⟩ := hH i hi
      have hl := bst_le mends (fun x => HO x == 1) i
      show f_M_nextEnd_L9 (fu + 1) _ _ _ _ _ = f_M_nextEnd_L9 fu (nI (if (HO i == 1) = true then (if bst mends (fun x => HO x == 1) i = 0 then i + 1 else if mends (bst mends (fun x => HO x == 1) i - 1) ≤ mends i then bst mends (fun x => HO x == 1) i else i + 1) else bst mends (fun x => HO x == 1) i) - 1) _ _ _ _
      have h30 : ¬ nI h ≤ nI i := fun q => absurd ((nI_leI (a := h) (b := i) (by omega) (by omega)).mp q) (by omega)
      have hi1 := in_lim (j := i) (n := 30) (by omega) (by omega)
      have hi1_ := in_l2 (j := i) (n := 30) (by omega) (by omega)
      generalize bst mends (fun x => HO x == 1) i = b at hl ⊢
      have hb := m1_eq (b := b) (by omega)
      rw [f_M_nextEnd_L9, if_neg h30]
      simp only [nI_clamp (show i < 2 ^ 31 by omega), hi1_, if_false, w1, nI_1]
      by_cases e : HO i = 0
      · rw [e]
        rfl
      · have e0 : HO i = 1 := by omega
        have e3 : ¬ nI 1 = (0 : Int32) := by decide
        rw [e0, if_neg e3, if_pos (beq_self_eq_true 1)]
        by_cases q : b = 0
        · rw [if_pos (hb.mpr q), if_pos q, nI_pred]
        · rw [if_neg (fun z => q (hb.mp z)), if_neg q, show nI b - 1 = nI (b - 1) from pk_sub (a := b) (b := 1) (by omega), if_neg (in_lim (by omega) (by omega)), nI_clamp (show b - 1 < 2 ^ 31 by omega)]
          by_cases y : mends (b - 1) ≤ mends i
          · rw [if_pos y, if_pos y, show nI b - 1 = nI (b - 1) from pk_sub (a := b) (b := 1) (by omega)]
          · rw [if_neg y, if_neg y, nI_pred]) (fun fu => by
      show f_M_nextEnd_L9 (fu + 1) _ _ _ _ _ = _
      rw [f_M_nextEnd_L9, if_pos (nI_le (Nat.le_refl h) (by omega))]) FU (FU_gt (by omega))
  exact hL
theorem c29 (hH : HOLD h f HF HE HO uO uF uE uN mholds mheld mends mopen) : ∃ oL' mc, f_case29 uO uE uN oL mholds mends mopen = some (oL', mc) := by
  obtain ⟨hh, rfl, rfl, hH⟩ := hH
  have e : bst uE (fun x => HO x == 1) h = bst mends (fun x => HO x == 1) h := bst_cong h (fun x hx => by
    obtain ⟨-, -, b3, b4, -⟩ := hH x hx
    rw [b3, b4]) (fun _ _ => rfl)
  have hl := bst_le mends (fun x => HO x == 1) h
  unfold f_case29 f_L_nextEnd f_C_nextEnd f_M_nextEnd f_M_thrown f_M_fails
  rw [C_first_ok hh (fun x hx => ⟨(hH x hx).2.2.2.2.1, (hH x hx).2.2.2.2.2.2.1⟩), M_nextEnd_ok hh (fun x hx => ⟨(hH x hx).2.2.2.2.2.1, (hH x hx).2.2.2.2.2.2.1⟩), e]
  generalize bst mends (fun x => HO x == 1) h = b at hl ⊢
  rcases b with _ | b
  · exact ⟨_, _, rfl⟩
  · have e1 : ¬ nI b = -1 := ne_m1 (by omega)
    simp only [nI_pred, e1, if_false, if_true, Option.bind_some, out_same, cmp_same]
    exact ⟨_, _, rfl⟩
/-! opening and closing -/
theorem hdN_open {i y : Nat} : hdN (h + 1) (un HF h i) (un HO h 1) y = hdN h HF HO y + (if i = y then 1 else 0) := by
  unfold hdN
  rw [cn_s, un_at, un_at, cn_cong (q := fun x => HO x == 1 && HF x == y) (fun x hx => by rw [un_ne (by omega), un_ne (by omega)]), beq_self_eq_true, Bool.true_and]
  by_cases e : i = y
  · rw [if_pos e, if_pos (beq_iff_eq.mpr e)]
  · rw [if_neg e, if_neg (fun z => e (beq_iff_eq.mp z))]
theorem hdN_close {x y : Nat} (hx : x < h) (h1 : HO x = 1) : hdN h HF (un HO x 0) y + (if HF x = y then 1 else 0) = hdN h HF HO y := by
  have z := cn_upd (p := fun x => HO x == 1 && HF x == y) (q := fun z => un HO x 0 z == 1 && HF z == y) (n := h) (k := x) hx (fun i _ hne => by rw [un_ne hne])
  unfold hdN
  rw [un_at, h1, beq_self_eq_true, Bool.true_and, show ((0 : Nat) == 1) = false from rfl, Bool.false_and, if_neg Bool.false_ne_true] at z
  by_cases e : HF x = y
  · rw [if_pos (beq_iff_eq.mpr e)] at z
    rw [if_pos e]
    omega
  · rw [if_neg (fun w => e (beq_iff_eq.mp w))] at z
    rw [if_neg e]
    omega
/-- CASE 25: openHold -/
theorem c25 (ht : TRD tr d cT cD misop mday) (hf : f ≤ 40) (g1 : nF = nI f) (g2 : mfiles = nI f) (hA : ∀ i, i < 40 → nA i = nI (A i) ∧ A i ≤ 1) (hL : ∀ i, i < f → mlinks i = nI (L i) ∧ L i ≤ 9) (hV : ALV f L (hdN h HF HO) A) (hH : HOLD h f HF HE HO uO uF uE uN mholds mheld mends mopen) :
    ∃ uO' uF' uE' uN' oL' mc mh' mhe' me' mop', f_case25 p1 p2 nF nA cT cD uO uF uE uN oL mday mfiles mlinks mholds mheld mends mopen misop = some (uO', uF', uE', uN', oL', mc, mh', mhe', me', mop') ∧ ∃ h' HF' HE' HO', HOLD h' f HF' HE' HO' uO' uF' uE' uN' mh' mhe' me' mop' ∧ ALV f L (hdN h' HF' HO') A ∧ (tr = 1 → h' = h ∧ HF' = HF ∧ HO' = HO) := by
  subst g1
  subst g2
  have hH0 := hH
  obtain ⟨t1, t2, rfl, rfl, rfl, rfl⟩ := ht
  obtain ⟨hh, rfl, rfl, hH⟩ := hH
  unfold f_case25 f_L_openHold f_C_openHold f_M_openHold f_M_thrown f_M_fails f_C_requireNoTransaction f_H_openedTotal
  rcases out_or p1 (n := f) (by omega) with ho | ⟨i, hi, rfl⟩
  · rw [C_requireFile_out ho, M_isFile_out hf ho]
    exact ⟨_, _, _, _, _, _, _, _, _, _, rfl, h, HF, HE, HO, hH0, hV, fun _ => ⟨rfl, rfl, rfl⟩⟩
  · rw [C_requireFile_in hf hi, M_isFile_in hi hf]
    rcases wthn p2 (a := 1) (b := 99) (by omega) (by omega) with ⟨q, hq1, hq, rfl⟩ | ⟨w1, w2⟩
    · have w1 : f_C_requireWithin (nI q) 1 99 = some (.ok ()) := C_within_in (a := 1) (b := 99) hq1 hq (by omega)
      have w2 : f_M_in (nI q) 1 99 = some 1 := M_within_in (a := 1) (b := 99) hq1 hq (by omega)
      rw [w1, w2]
      rcases (show tr = 0 ∨ tr = 1 by omega) with rfl | rfl
      · obtain ⟨a1, a2⟩ := hA i (by omega)
        obtain ⟨a3, a4⟩ := hL i hi
        have a5 := hV i hi
        rw [S_isAlive_in hi hf a1 a2, M_exists_ok (HF := HF) (HO := HO) hh (by omega) a3 a4 (fun x hx => by
          obtain ⟨-, b2, -, -, -, b6, b7, b8, -⟩ := hH x hx
          exact ⟨b2, b6, by omega, b7⟩), ← a5]
        rcases (show A i = 0 ∨ A i = 1 by omega) with z | z
        · rw [z]
          exact ⟨_, _, _, _, _, _, _, _, _, _, rfl, h, HF, HE, HO, hH0, hV, fun _ => ⟨rfl, rfl, rfl⟩⟩
        · rw [z]
          by_cases h30 : h = 30
          · subst h30
            exact ⟨_, _, _, _, _, _, _, _, _, _, rfl, 30, HF, HE, HO, hH0, hV, fun _ => ⟨rfl, rfl, rfl⟩⟩
          · have c1 : nI h < (30 : Int32) := (nI_ltI (a := h) (b := 30) (by omega) (by omega)).mpr (by omega)
            have c2 : ¬ nI h = (30 : Int32) := fun z => h30 ((nI_eq (a := h) (b := 30) (by omega) (by omega)).mp z)
            have c3 := in_lim (j := h) (n := 30) (by omega) (by omega)
            have c3_ := in_l2 (j := h) (n := 30) (by omega) (by omega)
            have w3 : f_H_add (nI i) (nI (d + q)) (nI h) uF uE uN = some (nI h, nI (h + 1), upd uF h (nI i), upd uE h (nI (d + q)), upd uN h 1) := by
              unfold f_H_add
              rw [if_pos c1, if_neg c3, if_neg c3, if_neg c3, nI_clamp (by omega), nI_1, vz1]
            have e1 : ¬ ((1 : Int32) = 0) := by decide
            have e2 : ¬ ((nI 1 : Int32) = 0) := by decide
            have e0 : (nI 0 : Int32) = 0 := rfl
            simp only [Option.bind_some, e0, e1, e2, if_true, if_false, c1, c2, c3_, nI_add, w3, nI_1, nI_pred, nI_clamp (show h < 2 ^ 31 by omega), vz1, out_same, cmp_same]
            refine ⟨_, _, _, _, _, _, _, _, _, _, rfl, h + 1, un HF h i, un HE h (d + q), un HO h 1, ⟨by omega, rfl, rfl, fun x hx => ?_⟩, fun y hy => ?_, fun z => absurd z (by omega)⟩
            · by_cases y : x = h
              · subst y
                simp only [upd_at, un_at]
                exact ⟨(by first | exact trivial | exact rfl), (by first | exact trivial | exact rfl), (by first | exact trivial | exact rfl), (by first | exact trivial | exact rfl), (by first | exact trivial | exact rfl), (by first | exact trivial | exact rfl), by omega, hi, by omega⟩
              · simp only [upd_ne y, un_ne y]
                exact hH x (by omega)
            · rw [hdN_open, hV y hy]
              by_cases w : i = y
              · subst w
                rw [if_pos rfl, ← a5, z, if_neg (by omega)]
              · rw [if_neg w, Nat.add_zero]
      · exact ⟨_, _, _, _, _, _, _, _, _, _, rfl, h, HF, HE, HO, hH0, hV, fun _ => ⟨rfl, rfl, rfl⟩⟩
    · have w1 : f_C_requireWithin p2 1 99 = some (.error 1) := w1
      have w2 : f_M_in p2 1 99 = some 0 := w2
      rw [w1, w2]
      exact ⟨_, _, _, _, _, _, _, _, _, _, rfl, h, HF, HE, HO, hH0, hV, fun _ => ⟨rfl, rfl, rfl⟩⟩
/-- a hold that is open ends: both sides -/
theorem ENDS {x : Nat} (hf : f ≤ 40) (hx : x < h) (h1 : HO x = 1) (hb : BLK t K S f A B nA nC nU mblocks) (hL : ∀ i, i < f → nL i = nI (L i) ∧ mlinks i = nI (L i) ∧ L i ≤ 9) (hV : ALV f L (hdN h HF HO) A) (hH : HOLD h f HF HE HO (nI h) uF uE uN (nI h) mheld mends mopen) :
    ∃ r nA' nC' nU' m' A' B', f_C_endHold (nI x) (nI f) nL nA nC nU (nI h) uF uN = some (nI r, nA', nC', nU', upd uN x (nI 0)) ∧ f_M_goes (mheld x) mlinks mblocks (nI h) mheld (upd mopen x (nI 0)) = some (nI r, m') ∧ r ≤ 1 ∧ BLK t K S f A' B' nA' nC' nU' m' ∧ ALV f L (hdN h HF (un HO x 0)) A' ∧ HOLD h f HF HE (un HO x 0) (nI h) uF uE (upd uN x (nI 0)) (nI h) mheld mends (upd mopen x (nI 0)) := by
  obtain ⟨hh, -, -, hH⟩ := hH
  obtain ⟨b1, b2, b3, b4, b5, b6, b7, b8, b9⟩ := hH x hx
  obtain ⟨l1, l2, l3⟩ := hL (HF x) b8
  have hH2 : HOLD h f HF HE (un HO x 0) (nI h) uF uE (upd uN x (nI 0)) (nI h) mheld mends (upd mopen x (nI 0)) := by
    refine ⟨hh, rfl, rfl, fun y hy => ?_⟩
    obtain ⟨c1, c2, c3, c4, c5, c6, c7, c8, c9⟩ := hH y hy
    refine ⟨c1, c2, c3, c4, upd_un (fun _ => c5), upd_un (fun _ => c6), ?_, c8, c9⟩
    by_cases z : y = x
    · rw [z, un_at]
      omega
    · rw [un_ne z]
      exact c7
  obtain ⟨r, nA', nC', nU', m', A', B', g1, g2, g3, g4, g5, g6⟩ := GOES (j := HF x) (l := L (HF x)) (nL := nL) (mlinks := mlinks) (uF := uF) (uN := upd uN x (nI 0)) (mheld := mheld) (mopen := upd mopen x (nI 0)) (HF := HF) (HO := un HO x 0) b8 hf hh hb l1 l2 l3 (fun y hy => by
    obtain ⟨c1, c2, c3, c4, c5, c6, c7, c8, c9⟩ := hH2.2.2.2 y hy
    exact ⟨c1, c2, c5, c6, by omega, c7⟩)
  refine ⟨r, nA', nC', nU', m', A', B', ?_, ?_, g3, g4, fun y hy => ?_, hH2⟩
  · unfold f_C_endHold
    rw [H_close_in hx hh, Option.bind_some, H_fileOf_in hx hh, Option.bind_some, b1, g1]
    rfl
  · rw [b2]
    exact g2
  · by_cases z : y = HF x
    · subst z
      have hAx : A (HF x) = 1 := by
        rw [hV _ hy, if_neg]
        rintro ⟨-, w⟩
        have := hdN_close (HF := HF) (y := HF x) hx h1
        rw [if_pos rfl] at this
        omega
      rw [g6, hAx]
    · rw [g5 y z, hV y hy]
      have := hdN_close (HF := HF) (y := y) hx h1
      rw [if_neg (fun w => z w.symm), Nat.add_zero] at this
      rw [this]
/-- CASE 26: release -/
theorem c26 (ht : TRD tr d cT cD misop mday) (hC : CORE k t K S O f L A B P e nF nO nL nA nC nV nU nP nE mprom mfiles mlinks mblocks mvals mentr) (hV : ALV f L (hdN h HF HO) A) (hH : HOLD h f HF HE HO uO uF uE uN mholds mheld mends mopen) :
    ∃ nA' nC' nU' uN' oL' mc mb' mop', f_case26 p1 nF nL nA nC nU cT uO uF uN oL mlinks mblocks mholds mheld mopen misop = some (nA', nC', nU', uN', oL', mc, mb', mop') ∧ ∃ A' B' HO', CORE k t K S O f L A' B' P e nF nO nL nA' nC' nV nU' nP nE mprom mfiles mlinks mb' mvals mentr ∧ HOLD h f HF HE HO' uO uF uE uN' mholds mheld mends mop' ∧ ALV f L (hdN h HF HO') A' ∧ (tr = 1 → HO' = HO) := by
  have hC0 := hC
  have hH0 := hH
  obtain ⟨hf, rfl, rfl, rfl, rfl, hF, hB, hU, hP, hPs, hA⟩ := hC
  obtain ⟨t1, t2, rfl, rfl, -, -⟩ := ht
  obtain ⟨hh, rfl, rfl, hH⟩ := hH
  unfold f_case26 f_L_release f_C_release f_M_release f_M_thrown f_M_fails f_C_requireNoTransaction
  rcases out_or p1 (n := h) (by omega) with ho | ⟨x, hx, rfl⟩
  · rw [C_requireHold_out ho, M_isHold_out hh ho]
    exact ⟨_, _, _, _, _, _, _, _, rfl, A, B, HO, hC0, hH0, hV, fun _ => rfl⟩
  · rw [C_requireHold_in hh hx, M_isHold_in hh hx]
    rcases (show tr = 0 ∨ tr = 1 by omega) with rfl | rfl
    · obtain ⟨b1, b2, b3, b4, b5, b6, b7, b8, b9⟩ := hH x hx
      have e1 : ¬ ((1 : Int32) = 0) := by decide
      have e0 : (nI 0 : Int32) = 0 := rfl
      rw [H_isStillOpen_in hh hx b5 b7]
      simp only [Option.bind_some, e0, e1, if_true, if_false, in_l2 (show x < 30 by omega) (by omega), nI_clamp (show x < 2 ^ 31 by omega), b6]
      rcases (show HO x = 0 ∨ HO x = 1 by omega) with z | z
      · rw [z]
        exact ⟨_, _, _, _, _, _, _, _, rfl, A, B, HO, hC0, hH0, hV, fun _ => rfl⟩
      · have e2 : ¬ ((nI 1 : Int32) = 0) := by decide
        obtain ⟨r, nA', nC', nU', m', A', B', g1, g2, g3, ⟨g4, g5, g6⟩, g7, g8⟩ := ENDS (x := x) (t := t) (K := K) (S := S) (L := L) (nL := nL) (mlinks := mlinks) (A := A) (B := B) (nA := nA) (nC := nC) (nU := nU) (mblocks := mblocks) hf hx z ⟨hB, fun b hb => (hU b hb).2, hA⟩ (fun i hi => (hF i hi).2.2) hV hH0
        have g2 : f_M_goes (mheld x) mlinks mblocks (nI h) mheld (upd mopen x (vp_nar .boolean 0)) = some (nI r, m') := g2
        rw [z]
        simp only [e2, if_false, g1, g2, Option.bind_some]
        have hCn : CORE k t K S O f L A' B' P e (nI f) nO nL nA' nC' nV nU' nP (nI e) mprom (nI f) mlinks m' mvals (nI e) := ⟨hf, rfl, rfl, rfl, rfl, hF, g4, fun b hb => ⟨(hU b hb).1, g5 b hb⟩, hP, hPs, g6⟩
        rcases (show r = 0 ∨ r = 1 by omega) with y | y
        · rw [y]
          exact ⟨_, _, _, _, _, _, _, _, rfl, A', B', un HO x 0, hCn, g8, g7, fun w => absurd w (by omega)⟩
        · rw [y]
          exact ⟨_, _, _, _, _, _, _, _, rfl, A', B', un HO x 0, hCn, g8, g7, fun w => absurd w (by omega)⟩
    · exact ⟨_, _, _, _, _, _, _, _, rfl, A, B, HO, hC0, hH0, hV, fun _ => rfl⟩
/-- CASE 30: pass -/
theorem C_pass_end {n : Nat} (hh : h ≤ 30) {i : Nat} (hi : h ≤ i) (hi2 : i ≤ 30) (fu : Nat) (hfu : 30 < fu) : f_C_pass_L49 fu (nI n) (nI i) (nI f) nL nA nC nU cD (nI h) uF uE uN = some (nI n, nA, nC, nU, uN) :=
  loop_fr (fun fu i => f_C_pass_L49 fu (nI n) (nI i) (nI f) nL nA nC nU cD (nI h) uF uE uN) i 30 _ hi2 (fun fu i h1 h2 => by
      show f_C_pass_L49 (fu + 1) _ _ _ _ _ _ _ _ _ _ _ _ = _
      have h30 : ¬ (30 : Int32) ≤ nI i := fun q => absurd ((nI_leI (a := 30) (b := i) (by omega) (by omega)).mp q) (by omega)
      rw [f_C_pass_L49, if_neg h30, H_isStillOpen_out (Or.inr ⟨nI_pos (by omega), nI_le (by omega) (by omega)⟩), Option.bind_some, if_pos rfl, nI_1]) (fun fu => by
      show f_C_pass_L49 (fu + 1) _ _ _ _ _ _ _ _ _ _ _ _ = _
      rw [f_C_pass_L49]
      simp (disch := omega) only [nI_ltI, nI_leI, nI_eq, nI_add, pk_mul, pk_sub, nI_clamp, l0, l1, l2, l3, l4, l5, l6, l8, l9, l10, l15, l16, l30, l39, l40, l58, l63, l64, l99, l100, l103, l104, l108, l112, l117, l119, l120, l512, l639, l640, l999, l9999, l19200, if_pos, if_neg, Option.bind_some, if_true, if_false]) fu hfu
theorem PASS {d' : Nat} (hf : f ≤ 40) (hd' : d' ≤ 9999) (hL : ∀ i, i < f → nL i = nI (L i) ∧ mlinks i = nI (L i) ∧ L i ≤ 9) (hh : h ≤ 30) : ∀ (m i n fu fu' : Nat) (A B HO : Nat → Nat) (nA nC nU uN mblocks mopen : Nat → Int32), h - i = m → i ≤ h → 31 + m < fu → m < fu' → BLK t K S f A B nA nC nU mblocks → ALV f L (hdN h HF HO) A → HOLD h f HF HE HO (nI h) uF uE uN (nI h) mheld mends mopen →
    ∃ n' nA' nC' nU' uN' m' mop' A' B' HO', f_C_pass_L49 fu (nI n) (nI i) (nI f) nL nA nC nU (nI d') (nI h) uF uE uN = some (nI n', nA', nC', nU', uN') ∧ f_M_pass_L60 fu' (nI n) (nI i) (nI d') mlinks mblocks (nI h) mheld mends mopen = some (nI n', m', mop') ∧ BLK t K S f A' B' nA' nC' nU' m' ∧ ALV f L (hdN h HF HO') A' ∧ HOLD h f HF HE HO' (nI h) uF uE uN' (nI h) mheld mends mop' := by
  intro m
  induction m with
  | zero =>
    intro i n fu fu' A B HO nA nC nU uN mblocks mopen hm hi hfu hfu' hb hV hH
    have e : i = h := by omega
    subst e
    obtain ⟨w, rfl⟩ : ∃ w, fu' = w + 1 := ⟨fu' - 1, by omega⟩
    refine ⟨n, nA, nC, nU, uN, mblocks, mopen, A, B, HO, C_pass_end hh (Nat.le_refl _) hh fu (by omega), ?_, hb, hV, hH⟩
    rw [f_M_pass_L60, if_pos (nI_le (Nat.le_refl _) (by omega))]
  | succ m ih =>
    intro i n fu fu' A B HO nA nC nU uN mblocks mopen hm hi hfu hfu' hb hV hH
    obtain ⟨b1, b2, b3, b4, b5, b6, b7, b8, b9⟩ := hH.2.2.2 i (by omega)
    obtain ⟨v, rfl⟩ : ∃ v, fu = v + 1 := ⟨fu - 1, by omega⟩
    obtain ⟨w, rfl⟩ : ∃ w, fu' = w + 1 := ⟨fu' - 1, by omega⟩
    have h30 : ¬ (30 : Int32) ≤ nI i := fun q => absurd ((nI_leI (a := 30) (b := i) (by omega) (by omega)).mp q) (by omega)
    have hih : ¬ nI h ≤ nI i := fun q => absurd ((nI_leI (a := h) (b := i) (by omega) (by omega)).mp q) (by omega)
    have hi1 := in_lim (j := i) (n := 30) (by omega) (by omega)
    have hi1_ := in_l2 (j := i) (n := 30) (by omega) (by omega)
    rw [f_C_pass_L49, if_neg h30, H_isStillOpen_in hh (by omega) b5 b7, Option.bind_some, H_endOf_in (by omega) hh, b3, f_M_pass_L60, if_neg hih, if_neg hi1, nI_clamp (by omega), b6, b4]
    rcases (show HO i = 0 ∨ HO i = 1 by omega) with z | z
    · have e0 : (nI 0 : Int32) = 0 := rfl
      rw [z, if_pos e0, if_pos e0, nI_1]
      exact ih (i + 1) n v w A B HO nA nC nU uN mblocks mopen (by omega) (by omega) (by omega) (by omega) hb hV hH
    · have e2 : ¬ ((nI 1 : Int32) = 0) := by decide
      rw [z, if_neg e2, if_neg e2, if_neg hi1_, Option.bind_some, nI_1]
      by_cases y : nI d' < nI (HE i)
      · rw [if_pos y, if_pos y]
        exact ih (i + 1) n v w A B HO nA nC nU uN mblocks mopen (by omega) (by omega) (by omega) (by omega) hb hV hH
      · rw [if_neg y, if_neg y, if_neg hi1_, if_neg hi1_]
        obtain ⟨r, nA', nC', nU', m', A', B', g1, g2, g3, g4, g5, g6⟩ := ENDS (x := i) (t := t) (K := K) (S := S) (L := L) (nL := nL) (mlinks := mlinks) (A := A) (B := B) (nA := nA) (nC := nC) (nU := nU) (mblocks := mblocks) hf (by omega) z hb hL hV hH
        have g2 : f_M_goes (mheld i) mlinks mblocks (nI h) mheld (upd mopen i (vp_nar .boolean 0)) = some (nI r, m') := g2
        rw [g1, g2, Option.bind_some, Option.bind_some]
        show ∃ n' nA'' nC'' nU'' uN'' m'' mop' A'' B'' HO', f_C_pass_L49 v (nI n + 1) (nI (i + 1)) (nI f) nL nA' nC' nU' (nI d') (nI h) uF uE (upd uN i (nI 0)) = some (nI n', nA'', nC'', nU'', uN'') ∧ f_M_pass_L60 w (nI n + 1) (nI (i + 1)) (nI d') mlinks m' (nI h) mheld mends (upd mopen i (nI 0)) = some (nI n', m'', mop') ∧ _ ∧ _ ∧ _
        rw [nI_1]
        exact ih (i + 1) (n + 1) v w A' B' (un HO i 0) nA' nC' nU' (upd uN i (nI 0)) m' (upd mopen i (nI 0)) (by omega) (by omega) (by omega) (by omega) g4 g5 g6
theorem c30 (ht : TRD tr d cT cD misop mday) (hC : CORE k t K S O f L A B P e nF nO nL nA nC nV nU nP nE mprom mfiles mlinks mblocks mvals mentr) (hV : ALV f L (hdN h HF HO) A) (hH : HOLD h f HF HE HO uO uF uE uN mholds mheld mends mopen) :
    ∃ nA' nC' nU' cD' uN' oL' mc md' mb' mop', f_case30 p1 nF nL nA nC nU cT cD uO uF uE uN oL mday mlinks mblocks mholds mheld mends mopen misop = some (nA', nC', nU', cD', uN', oL', mc, md', mb', mop') ∧ ∃ A' B' HO' d', CORE k t K S O f L A' B' P e nF nO nL nA' nC' nV nU' nP nE mprom mfiles mlinks mb' mvals mentr ∧ HOLD h f HF HE HO' uO uF uE uN' mholds mheld mends mop' ∧ ALV f L (hdN h HF HO') A' ∧ TRD tr d' cT cD' misop md' ∧ (tr = 1 → HO' = HO) := by
  have hC0 := hC
  have hH0 := hH
  have ht0 := ht
  obtain ⟨hf, rfl, rfl, rfl, rfl, hF, hB, hU, hP, hPs, hA⟩ := hC
  obtain ⟨t1, t2, rfl, rfl, rfl, rfl⟩ := ht
  obtain ⟨hh, rfl, rfl, hH⟩ := hH
  unfold f_case30 f_L_pass f_C_pass f_M_pass f_M_thrown f_M_fails f_C_requireNoTransaction
  rcases wthn p1 (a := 1) (b := 99) (by omega) (by omega) with ⟨q, hq1, hq, rfl⟩ | ⟨w1, w2⟩
  · have w1 : f_C_requireWithin (nI q) 1 99 = some (.ok ()) := C_within_in (a := 1) (b := 99) hq1 hq (by omega)
    have w2 : f_M_in (nI q) 1 99 = some 1 := M_within_in (a := 1) (b := 99) hq1 hq (by omega)
    rw [w1, w2]
    rcases (show tr = 0 ∨ tr = 1 by omega) with rfl | rfl
    · have e1 : ¬ ((1 : Int32) = 0) := by decide
      have e0 : (nI 0 : Int32) = 0 := rfl
      simp only [Option.bind_some, e0, e1, if_true, if_false, nI_add]
      by_cases z : d + q ≤ 9999
      · obtain ⟨n', nA', nC', nU', uN', m', mop', A', B', HO', g1, g2, ⟨g3, g4, g5⟩, g6, g7⟩ := PASS (d' := d + q) (L := L) (nL := nL) (mlinks := mlinks) hf z (fun i hi => (hF i hi).2.2) hh h 0 0 FU FU A B HO nA nC nU uN mblocks mopen rfl (Nat.zero_le _) (show 31 + h < 100000 by omega) (FU_gt (by omega)) ⟨hB, fun b hb => (hU b hb).2, hA⟩ hV hH0
        have z2 : nI (d + q) ≤ (9999 : Int32) := (nI_leI (a := d + q) (b := 9999) (by omega) (by omega)).mpr z
        have g1 : f_C_pass_L49 FU 0 0 (nI f) nL nA nC nU (nI (d + q)) (nI h) uF uE uN = some (nI n', nA', nC', nU', uN') := g1
        have g2 : f_M_pass_L60 FU 0 0 (nI (d + q)) mlinks mblocks (nI h) mheld mends mopen = some (nI n', m', mop') := g2
        simp only [z2, if_true, g1, g2, Option.bind_some, out_same, cmp_same]
        exact ⟨_, _, _, _, _, _, _, _, _, _, rfl, A', B', HO', d + q, ⟨hf, rfl, rfl, rfl, rfl, hF, g3, fun b hb => ⟨(hU b hb).1, g4 b hb⟩, hP, hPs, g5⟩, g7, g6, ⟨by omega, z, rfl, rfl, rfl, rfl⟩, fun w => absurd w (by omega)⟩
      · have z2 : ¬ nI (d + q) ≤ (9999 : Int32) := fun w => z ((nI_leI (a := d + q) (b := 9999) (by omega) (by omega)).mp w)
        simp only [z2, if_false]
        exact ⟨_, _, _, _, _, _, _, _, _, _, rfl, A, B, HO, d, hC0, hH0, hV, ht0, fun _ => rfl⟩
    · exact ⟨_, _, _, _, _, _, _, _, _, _, rfl, A, B, HO, d, hC0, hH0, hV, ht0, fun _ => rfl⟩
  · have w1 : f_C_requireWithin p1 1 99 = some (.error 1) := w1
    have w2 : f_M_in p1 1 99 = some 0 := w2
    rw [w1, w2]
    exact ⟨_, _, _, _, _, _, _, _, _, _, rfl, A, B, HO, d, hC0, hH0, hV, ht0, fun _ => rfl⟩
end HOLDS
