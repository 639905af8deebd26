/-! CASES 37 AND 38: the figures -/
theorem nn64 {x : UInt64} (h : FP.Core.dIsNaN x = false) : x &&& 0x7fffffffffffffff ≤ 0x7ff0000000000000 := by
  rw [UInt64.le_iff_toNat_le, UInt64.toNat_and]
  have h1 : (0x7fffffffffffffff : UInt64).toNat = 2 ^ 63 - 1 := by decide
  have h2 : (0x7ff0000000000000 : UInt64).toNat = 9218868437227405312 := by decide
  rw [h1, h2, Nat.and_two_pow_sub_one_eq_mod]
  have h3 : ¬ FP.Core.dIsNaN x = true := by
    rw [h]
    exact Bool.false_ne_true
  rw [FP.Core.isNaN_bits] at h3
  omega
theorem nn32 {x : UInt32} (h : FP.Core.fIsNaN x = false) : x &&& 0x7fffffff ≤ 0x7f800000 := by
  rw [UInt32.le_iff_toNat_le, UInt32.toNat_and]
  have h1 : (0x7fffffff : UInt32).toNat = 2 ^ 31 - 1 := by decide
  have h2 : (0x7f800000 : UInt32).toNat = 2139095040 := by decide
  rw [h1, h2, Nat.and_two_pow_sub_one_eq_mod]
  have h3 : ¬ FP.Core.fIsNaN x = true := by
    rw [h]
    exact Bool.false_ne_true
  rw [FP.Core.isNaN_bits32] at h3
  omega
theorem dd_no (a : Int32) {b : Int32} (hb : b ≠ 0) : FP.Core.dIsNaN (FP.ddiv (FP.i2d a) (FP.i2d b)) = false :=
  FP.Core.ddiv_out ((FP.Core.notNaN_iff _).mpr (FP.Core.i2d_fin a).ne_nan) (FP.Core.i2d_fin b) (fun h => FP.Core.i2d_ne_zero hb ((FP.Core.zero_bits2 _).mp h))
theorem ff_no (a : Int32) {b : Int32} (hb : b ≠ 0) : FP.Core.fIsNaN (FP.fdiv (FP.i2f a) (FP.i2f b)) = false :=
  FP.Core.fdiv_out ((FP.Core.notNaN_iff32 _).mpr (FP.Core.i2f_fin a).ne_nan) (FP.Core.i2f_fin b) (fun h => FP.Core.i2f_ne_zero hb ((FP.Core.zero_bits232 _).mp h))
theorem fd_no {a : UInt32} (h : FP.Core.fIsNaN a = false) : FP.Core.dIsNaN (FP.f2d a) = false := by
  rw [FP.f2d_core h]
  exact FP.Core.f2d_out h
theorem dc_self {x : UInt64} (h : FP.Core.dIsNaN x = false) : Op.cmpValue (FP.dcmp x x) .l = 0 := by
  rw [show FP.dcmp x x = some .eq from FP.Core.dcmp_self ((FP.Core.notNaN_iff x).mp h)]
  rfl
theorem outD_same (oD : Nat → UInt64) (x : UInt64) : vf_upd oD (0 : Int32).toNatClampNeg x (0 : Int32).toNatClampNeg = x := if_pos rfl
section FLOATS
variable {j k t f e h : Nat} {K S O L A B P HF HE HO : Nat → Nat} {msnaps nF mfiles nE mentr uO mholds : Int32} {nO nL nA nC nV nU nP mprom mlinks mblocks mvals mkept mshot uF uE uN mheld mends mopen : Nat → Int32} {oD : Nat → UInt64}
theorem C_sumUsers_ok {v : Int32} (hU : US t B K S nU) : f_C_meanUsers_L30 FU v 0 0 nU = some (nI (sm (usr t B K S) 64)) := by
  have hL := loop_up (fun fu i => f_C_meanUsers_L30 fu v (nI (sm (usr t B K S) i)) (nI i) nU) 64 (some (nI (sm (usr t B K S) 64))) (fun fu i hi => by
      show f_C_meanUsers_L30 (fu + 1) _ _ _ _ = _
      have h64 : ¬ (64 : Int32) ≤ nI i := fun h => absurd ((nI_leI (a := 64) (b := i) (by omega) (by omega)).mp h) (by omega)
      rw [f_C_meanUsers_L30, if_neg h64, S_userTotal_in hi, Option.bind_some, hU i hi, nI_add, nI_1, sm_s]) (fun fu => by
      show f_C_meanUsers_L30 (fu + 1) _ _ _ _ = _
      rw [f_C_meanUsers_L30]
      simp (disch := omega) only [nI_ltI, nI_leI, nI_eq, nI_add, pk_mul, pk_sub, nI_clamp, l0, l1, l2, l3, l4, l5, l6, l8, l9, l10, l15, l16, l30, l39, l40, l58, l63, l64, l99, l100, l103, l104, l108, l112, l117, l119, l120, l512, l639, l640, l999, l9999, l19200, if_pos, if_neg, Option.bind_some, if_true, if_false]) FU (FU_gt (by omega))
  exact hL
theorem M_meanL_ok (h1 : ∀ x, x < 640 → mblocks x = nI (B x) ∧ B x ≤ 64) (hS : SnM t K S mkept mshot) : f_M_meanUsers_L6 FU 0 0 0 mblocks (nI t) mkept mshot = some (nI (sm (usr t B K S) 64), nI (cn (fun b => !(usr t B K S b == 0)) 64)) := by
  have hL := loop_up (fun fu i => f_M_meanUsers_L6 fu (nI (sm (usr t B K S) i)) (nI (cn (fun b => !(usr t B K S b == 0)) i)) (nI i) mblocks (nI t) mkept mshot) 64 (some (nI (sm (usr t B K S) 64), nI (cn (fun b => !(usr t B K S b == 0)) 64))) (fun fu i hi => by
      show f_M_meanUsers_L6 (fu + 1) _ _ _ _ _ _ _ = _
      have h64 : ¬ (64 : Int32) ≤ nI i := fun h => absurd ((nI_leI (a := 64) (b := i) (by omega) (by omega)).mp h) (by omega)
      have us := usr_le hS.1 B K S i
      have u : f_M_users (nI i) mblocks (nI t) mkept mshot = some (nI (usr t B K S i)) := M_users_ok hi h1 hS
      rw [f_M_meanUsers_L6, if_neg h64, u, Option.bind_some, Option.bind_some, nI_add, nI_1, sm_s, cn_s]
      by_cases z : usr t B K S i = 0
      · have e : (!(usr t B K S i == 0)) = false := by simp [z]
        rw [if_pos (show nI (usr t B K S i) ≤ 0 by rw [z]; decide), e, Int32.add_zero]
        rfl
      · have e : (!(usr t B K S i == 0)) = true := by simp [z]
        rw [if_neg (show ¬ nI (usr t B K S i) ≤ 0 from nI_nle (by omega) (by omega)), e, if_pos rfl, nI_1]) (fun fu => by
      show f_M_meanUsers_L6 (fu + 1) _ _ _ _ _ _ _ = _
      rw [f_M_meanUsers_L6]
      simp (disch := omega) only [nI_ltI, nI_leI, nI_eq, nI_add, pk_mul, pk_sub, nI_clamp, l0, l1, l2, l3, l4, l5, l6, l8, l9, l10, l15, l16, l30, l39, l40, l58, l63, l64, l99, l100, l103, l104, l108, l112, l117, l119, l120, l512, l639, l640, l999, l9999, l19200, if_pos, if_neg, Option.bind_some, if_true, if_false]) FU (FU_gt (by omega))
  exact hL
/-- CASE 37: meanUsers -/
theorem c37 (hC : CORE k t K S O f L A B P e nF nO nL nA nC nV nU nP nE mprom mfiles mlinks mblocks mvals mentr) (hS : SnM t K S mkept mshot) : ∃ oD' mc, f_case37 nU oD mblocks (nI t) mkept mshot = some (oD', mc) := by
  obtain ⟨hf, rfl, rfl, rfl, rfl, hF, hB, hU, -⟩ := hC
  have hn := cn_not (fun b => usr t B K S b == 0) 64
  have hfr : cn (fun b => usr t B K S b == 0) 64 = frN t B K S := rfl
  have e1 : (64 : Int32) - nI (frN t B K S) = nI (64 - frN t B K S) := pk_sub (a := 64) (by have := frN_le t B K S; omega)
  have e2 : cn (fun i => !(usr t B K S i == 0)) 64 = 64 - frN t B K S := by omega
  unfold f_case37 f_L_meanUsers f_C_meanUsers f_M_meanUsers f_M_thrown
  rw [C_freeN hS.1 (fun b hb => (hU b hb).2), M_meanL_ok (fun x hx => ⟨(hB x hx).2.1, (hB x hx).2.2.1⟩) hS, Option.bind_some, e1, e2, C_sumUsers_ok (fun b hb => (hU b hb).2)]
  by_cases z : 64 - frN t B K S = 0
  · rw [z]
    exact ⟨_, _, rfl⟩
  · have e3 : ¬ nI (64 - frN t B K S) = 0 := nI_ne0 (by omega) (by omega)
    have n1 := dd_no (nI (sm (usr t B K S) 64)) e3
    have n2 := nn64 n1
    simp only [e3, if_false, if_true, Option.bind_some, n2, outD_same, dc_self n1]
    exact ⟨_, _, rfl⟩
/-- CASE 38: heldShare -/
def exN (f : Nat) (A : Nat → Nat) (i : Nat) : Bool := alN f A i == 1
def heN (f : Nat) (A hd : Nat → Nat) (i : Nat) : Bool := alN f A i == 1 && hd i != 0
theorem C_shareL_ok (hf : f ≤ 40) (hA : ∀ i, i < 40 → nA i = nI (A i) ∧ A i ≤ 1) (hh : h ≤ 30) (h1 : ∀ x, x < h → uF x = nI (HF x) ∧ uN x = nI (HO x) ∧ HF x < 40 ∧ HO x ≤ 1) : f_C_heldShare_L6 FU 0 0 0 (nI f) nA (nI h) uF uN = some (nI (cn (exN f A) 40), nI (cn (heN f A (hdN h HF HO)) 40)) := by
  have hL := loop_up (fun fu i => f_C_heldShare_L6 fu (nI (cn (exN f A) i)) (nI (cn (heN f A (hdN h HF HO)) i)) (nI i) (nI f) nA (nI h) uF uN) 40 (some (nI (cn (exN f A) 40), nI (cn (heN f A (hdN h HF HO)) 40))) (fun fu i hi => by
      show f_C_heldShare_L6 (fu + 1) _ _ _ _ _ _ _ _ = _
      have h40 : ¬ (40 : Int32) ≤ nI i := fun h => absurd ((nI_leI (a := 40) (b := i) (by omega) (by omega)).mp h) (by omega)
      obtain ⟨a1, a2⟩ := S_isAlive_any (nA := nA) (A := A) hf hi hA
      have hd := hdN_le h HF HO i
      rw [f_C_heldShare_L6, if_neg h40, a1, Option.bind_some, cn_s, cn_s]
      rcases (show alN f A i = 0 ∨ alN f A i = 1 by omega) with z | z
      · have e1 : exN f A i = false := by unfold exN; rw [z]; rfl
        have e2 : heN f A (hdN h HF HO) i = false := by unfold heN; rw [z]; rfl
        rw [z, if_pos (show nI 0 = 0 from rfl), e1, e2, nI_1]
        rfl
      · have e1 : exN f A i = true := by unfold exN; rw [z]; rfl
        rw [z, if_neg (show ¬ nI 1 = 0 by decide), H_openTotal_ok hh hi h1, Option.bind_some, e1, if_pos rfl, nI_1, nI_1]
        by_cases y : hdN h HF HO i = 0
        · have e2 : heN f A (hdN h HF HO) i = false := by unfold heN; rw [z, y]; rfl
          rw [if_pos (show nI (hdN h HF HO i) ≤ 0 by rw [y]; decide), e2, Int32.add_zero]
          rfl
        · have e2 : heN f A (hdN h HF HO) i = true := by unfold heN; rw [z]; simp [y]
          rw [if_neg (show ¬ nI (hdN h HF HO i) ≤ 0 from nI_nle (by omega) (by omega)), e2, if_pos rfl, nI_1]) (fun fu => by
      show f_C_heldShare_L6 (fu + 1) _ _ _ _ _ _ _ _ = _
      rw [f_C_heldShare_L6]
      simp (disch := omega) only [nI_ltI, nI_leI, nI_eq, nI_add, pk_mul, pk_sub, nI_clamp, l0, l1, l2, l3, l4, l5, l6, l8, l9, l10, l15, l16, l30, l39, l40, l58, l63, l64, l99, l100, l103, l104, l108, l112, l117, l119, l120, l512, l639, l640, l999, l9999, l19200, if_pos, if_neg, Option.bind_some, if_true, if_false]) FU (FU_gt (by omega))
  exact hL
theorem M_shareL_ok (hf : f ≤ 40) (hA : ∀ i, i < 40 → A i ≤ 1) (hV : ALV f L (hdN h HF HO) A) (hL : ∀ i, i < f → mlinks i = nI (L i) ∧ L i ≤ 9) (hh : h ≤ 30) (h1 : ∀ x, x < h → mheld x = nI (HF x) ∧ mopen x = nI (HO x) ∧ HF x < 40 ∧ HO x ≤ 1) : f_M_heldShare_L6 FU 0 0 0 (nI f) mlinks (nI h) mheld mopen = some (nI (cn (exN f A) f), nI (cn (heN f A (hdN h HF HO)) f)) := by
  have hLp := loop_up (fun fu i => f_M_heldShare_L6 fu (nI (cn (exN f A) i)) (nI (cn (heN f A (hdN h HF HO)) i)) (nI i) (nI f) mlinks (nI h) mheld mopen) f (some (nI (cn (exN f A) f), nI (cn (heN f A (hdN h HF HO)) f))) (fun fu i hi => by
      show f_M_heldShare_L6 (fu + 1) _ _ _ _ _ _ _ _ = _
      have h40 : ¬ nI f ≤ nI i := fun h => absurd ((nI_leI (a := f) (b := i) (by omega) (by omega)).mp h) (by omega)
      have hx : f_M_exists (nI i) mlinks (nI h) mheld mopen = some (nI (A i)) := by rw [M_exists_ok hh (by omega) (hL i hi).1 (hL i hi).2 h1, ← hV i hi]
      have hal : alN f A i = A i := if_pos hi
      have hd := hdN_le h HF HO i
      have a2 := hA i (by omega)
      rw [f_M_heldShare_L6, if_neg h40, hx, Option.bind_some, cn_s, cn_s, M_held_ok hh (by omega) h1]
      rcases (show A i = 0 ∨ A i = 1 by omega) with z | z
      · have e1 : exN f A i = false := by unfold exN; rw [hal, z]; rfl
        have e2 : heN f A (hdN h HF HO) i = false := by unfold heN; rw [hal, z]; rfl
        have y : hdN h HF HO i = 0 := by
          have := hV i hi
          rw [z] at this
          by_cases w : L i = 0 ∧ hdN h HF HO i = 0
          · exact w.2
          · rw [if_neg w] at this
            omega
        rw [z, if_pos (show nI 0 = 0 from rfl), Option.bind_some, if_pos (show nI (hdN h HF HO i) ≤ 0 by rw [y]; decide), e1, e2, nI_1, Int32.add_zero, Int32.add_zero]
        rfl
      · have e1 : exN f A i = true := by unfold exN; rw [hal, z]; rfl
        rw [z, if_neg (show ¬ nI 1 = 0 by decide), Option.bind_some, e1, if_pos rfl, nI_1, nI_1]
        by_cases y : hdN h HF HO i = 0
        · have e2 : heN f A (hdN h HF HO) i = false := by unfold heN; rw [hal, z, y]; rfl
          rw [if_pos (show nI (hdN h HF HO i) ≤ 0 by rw [y]; decide), e2, Int32.add_zero]
          rfl
        · have e2 : heN f A (hdN h HF HO) i = true := by unfold heN; rw [hal, z]; simp [y]
          rw [if_neg (show ¬ nI (hdN h HF HO i) ≤ 0 from nI_nle (by omega) (by omega)), e2, if_pos rfl, nI_1]) (fun fu => by
      show f_M_heldShare_L6 (fu + 1) _ _ _ _ _ _ _ _ = _
      rw [f_M_heldShare_L6, if_pos (nI_le (Nat.le_refl f) (by omega))]) FU (FU_gt (by omega))
  exact hLp
theorem c38 (hC : CORE k t K S O f L A B P e nF nO nL nA nC nV nU nP nE mprom mfiles mlinks mblocks mvals mentr) (hV : ALV f L (hdN h HF HO) A) (hH : HOLD h f HF HE HO uO uF uE uN mholds mheld mends mopen) : ∃ oD' mc, f_case38 nF nA uO uF uN oD mfiles mlinks mholds mheld mopen = some (oD', mc) := by
  obtain ⟨hf, rfl, rfl, rfl, rfl, hF, hB, hU, hP, hPs, hA⟩ := hC
  obtain ⟨hh, rfl, rfl, hH⟩ := hH
  have hc := cn_le (exN f A) f
  unfold f_case38 f_L_heldShare f_C_heldShare f_M_heldShare f_M_thrown
  rw [C_shareL_ok hf hA hh (fun x hx => by
      obtain ⟨b1, b2, -, -, b5, b6, b7, b8, -⟩ := hH x hx
      exact ⟨b1, b5, by omega, b7⟩), M_shareL_ok hf (fun i hi => (hA i hi).2) hV (fun i hi => (hF i hi).2.2.2) hh (fun x hx => by
      obtain ⟨b1, b2, -, -, b5, b6, b7, b8, -⟩ := hH x hx
      exact ⟨b2, b6, by omega, b7⟩), cn_ext (p := exN f A) hf (fun i h1 h2 => by unfold exN alN; rw [if_neg (by omega)]; rfl), cn_ext (p := heN f A (hdN h HF HO)) hf (fun i h1 h2 => by unfold heN alN; rw [if_neg (by omega)]; rfl)]
  by_cases z : cn (exN f A) f = 0
  · rw [z]
    exact ⟨_, _, rfl⟩
  · have e3 : ¬ nI (cn (exN f A) f) = 0 := nI_ne0 (by omega) (by omega)
    have n1 := ff_no (nI (cn (heN f A (hdN h HF HO)) f)) e3
    have n2 := nn32 n1
    have n3 := fd_no n1
    have n4 := nn64 n3
    simp only [e3, if_false, if_true, Option.bind_some, n2, n4, outD_same, dc_self n3]
    exact ⟨_, _, rfl⟩
end FLOATS
