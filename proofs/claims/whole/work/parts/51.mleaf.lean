/-! PURE: the leaves of the reference's functions -/
def hdN (h : Nat) (HF HO : Nat → Nat) (i : Nat) : Nat := cn (fun x => HO x == 1 && HF x == i) h
def cntB (B : Nat → Nat) (b : Nat) : Nat := cn (fun x => B x == b + 1) 640
def snB (S : Nat → Nat) (s b : Nat) : Nat := cn (fun x => S (640 * s + x) == b + 1) 640
def snU (t : Nat) (K S : Nat → Nat) (b : Nat) : Nat := sm (fun s => if K s = 1 then snB S s b else 0) t
theorem M_held_ok {h i : Nat} {HF HO : Nat → Nat} {mheld mopen : Nat → Int32} (hh : h ≤ 30) (hi : i < 40) (h1 : ∀ x, x < h → mheld x = nI (HF x) ∧ mopen x = nI (HO x) ∧ HF x < 40 ∧ HO x ≤ 1) : f_M_held (nI i) (nI h) mheld mopen = some (nI (hdN h HF HO i)) := by
  unfold f_M_held hdN
  have hL := loop_up (fun fu x => f_M_held_L4 fu (nI i) (nI (cn (fun x => HO x == 1 && HF x == i) x)) (nI x) (nI h) mheld mopen) h (some (nI (cn (fun x => HO x == 1 && HF x == i) h))) (fun fu x hx => by
      have := cn_le (fun x => HO x == 1 && HF x == i) x
      obtain ⟨a1, a2, a3, a4⟩ := h1 x hx
      show f_M_held_L4 (fu + 1) _ _ _ _ _ _ = _
      rw [f_M_held_L4, cn_s]
      by_cases e : HO x = 0
      · simp (disch := omega) only [nI_ltI, nI_leI, nI_eq, nI_add, pk_mul, pk_sub, nI_clamp, l0, l1, l2, l3, l4, l5, l6, l8, l9, l10, l15, l16, l30, l39, l40, l58, l63, l64, l99, l100, l103, l104, l108, l112, l117, l119, l120, l512, l639, l640, l999, l9999, l19200, if_pos, if_neg, Option.bind_some, if_true, if_false,  a1, a2, e, not_or, show ((0 : Nat) == 1) = false from rfl, Bool.false_and, Bool.false_eq_true, Nat.add_zero]
      · have e1 : HO x = 1 := by omega
        by_cases e2 : HF x = i
        · simp (disch := omega) only [nI_ltI, nI_leI, nI_eq, nI_add, pk_mul, pk_sub, nI_clamp, l0, l1, l2, l3, l4, l5, l6, l8, l9, l10, l15, l16, l30, l39, l40, l58, l63, l64, l99, l100, l103, l104, l108, l112, l117, l119, l120, l512, l639, l640, l999, l9999, l19200, if_pos, if_neg, Option.bind_some, if_true, if_false,  a1, a2, e1, e2, not_or, beq_self_eq_true, Bool.true_and, nI_eq]
        · have e3 : (HF x == i) = false := by simp [e2]
          simp (disch := omega) only [nI_ltI, nI_leI, nI_eq, nI_add, pk_mul, pk_sub, nI_clamp, l0, l1, l2, l3, l4, l5, l6, l8, l9, l10, l15, l16, l30, l39, l40, l58, l63, l64, l99, l100, l103, l104, l108, l112, l117, l119, l120, l512, l639, l640, l999, l9999, l19200, if_pos, if_neg, Option.bind_some, if_true, if_false,  a1, a2, e1, e3, not_or, beq_self_eq_true, Bool.true_and, nI_eq, Bool.false_eq_true, Nat.add_zero]) (fun fu => by
      show f_M_held_L4 (fu + 1) _ _ _ _ _ _ = _
      rw [f_M_held_L4]
      simp (disch := omega) only [nI_ltI, nI_leI, nI_eq, nI_add, pk_mul, pk_sub, nI_clamp, l0, l1, l2, l3, l4, l5, l6, l8, l9, l10, l15, l16, l30, l39, l40, l58, l63, l64, l99, l100, l103, l104, l108, l112, l117, l119, l120, l512, l639, l640, l999, l9999, l19200, if_pos, if_neg, Option.bind_some, if_true, if_false, ]) FU (FU_gt (by omega))
  have h2 : f_M_held_L4 FU (nI i) 0 0 (nI h) mheld mopen = some (nI (cn (fun x => HO x == 1 && HF x == i) h)) := hL
  rw [h2]
  rfl
theorem hdN_le (h : Nat) (HF HO : Nat → Nat) (i : Nat) : hdN h HF HO i ≤ h := cn_le _ _
theorem M_exists_ok {h i L : Nat} {HF HO : Nat → Nat} {mlinks mheld mopen : Nat → Int32} (hh : h ≤ 30) (hi : i < 40) (hL : mlinks i = nI L) (hL9 : L ≤ 9) (h1 : ∀ x, x < h → mheld x = nI (HF x) ∧ mopen x = nI (HO x) ∧ HF x < 40 ∧ HO x ≤ 1) : f_M_exists (nI i) mlinks (nI h) mheld mopen = some (nI (if L = 0 ∧ hdN h HF HO i = 0 then 0 else 1)) := by
  unfold f_M_exists
  rw [M_held_ok hh hi h1]
  have hd := hdN_le h HF HO i
  by_cases e : L = 0
  · by_cases e2 : hdN h HF HO i = 0
    · simp (disch := omega) only [nI_ltI, nI_leI, nI_eq, nI_add, pk_mul, pk_sub, nI_clamp, l0, l1, l2, l3, l4, l5, l6, l8, l9, l10, l15, l16, l30, l39, l40, l58, l63, l64, l99, l100, l103, l104, l108, l112, l117, l119, l120, l512, l639, l640, l999, l9999, l19200, if_pos, if_neg, Option.bind_some, if_true, if_false,  hL, e, e2, not_or, and_self]
    · simp (disch := omega) only [nI_ltI, nI_leI, nI_eq, nI_add, pk_mul, pk_sub, nI_clamp, l0, l1, l2, l3, l4, l5, l6, l8, l9, l10, l15, l16, l30, l39, l40, l58, l63, l64, l99, l100, l103, l104, l108, l112, l117, l119, l120, l512, l639, l640, l999, l9999, l19200, if_pos, if_neg, Option.bind_some, if_true, if_false,  hL, e, e2, not_or, and_false]
  · simp (disch := omega) only [nI_ltI, nI_leI, nI_eq, nI_add, pk_mul, pk_sub, nI_clamp, l0, l1, l2, l3, l4, l5, l6, l8, l9, l10, l15, l16, l30, l39, l40, l58, l63, l64, l99, l100, l103, l104, l108, l112, l117, l119, l120, l512, l639, l640, l999, l9999, l19200, if_pos, if_neg, Option.bind_some, if_true, if_false,  hL, e, not_or, false_and]
/-- the holes of a file that goes -/
def gone (i : Nat) (m : Nat → Int32) (n : Nat) : Nat → Int32 := fun x => if 16 * i ≤ x ∧ x < 16 * i + n then nI 0 else m x
theorem gone_s (i : Nat) (m : Nat → Int32) (n : Nat) : upd (gone i m n) (16 * i + n) (nI 0) = gone i m (n + 1) := by
  funext x
  unfold upd gone
  by_cases e : x = 16 * i + n
  · rw [if_pos e, if_pos (by omega)]
  · rw [if_neg e]
    by_cases e2 : 16 * i ≤ x ∧ x < 16 * i + n
    · rw [if_pos e2, if_pos (by omega)]
    · rw [if_neg e2, if_neg (by omega)]
theorem gone_0 (i : Nat) (m : Nat → Int32) : gone i m 0 = m := by
  funext x
  exact if_neg (by omega)
theorem M_goesL_ok {i : Nat} {m : Nat → Int32} (hi : i < 40) : f_M_goes_L12 FU (nI i) 0 m = some (gone i m 16) := by
  have hL := loop_up (fun fu x => f_M_goes_L12 fu (nI i) (nI x) (gone i m x)) 16 (some (gone i m 16)) (fun fu x hx => by
      show f_M_goes_L12 (fu + 1) _ _ _ = _
      rw [f_M_goes_L12]
      simp (disch := omega) only [nI_ltI, nI_leI, nI_eq, nI_add, pk_mul, pk_sub, nI_clamp, l0, l1, l2, l3, l4, l5, l6, l8, l9, l10, l15, l16, l30, l39, l40, l58, l63, l64, l99, l100, l103, l104, l108, l112, l117, l119, l120, l512, l639, l640, l999, l9999, l19200, if_pos, if_neg, Option.bind_some, if_true, if_false,  not_or, gone_s]) (fun fu => by
      show f_M_goes_L12 (fu + 1) _ _ _ = _
      rw [f_M_goes_L12]
      simp (disch := omega) only [nI_ltI, nI_leI, nI_eq, nI_add, pk_mul, pk_sub, nI_clamp, l0, l1, l2, l3, l4, l5, l6, l8, l9, l10, l15, l16, l30, l39, l40, l58, l63, l64, l99, l100, l103, l104, l108, l112, l117, l119, l120, l512, l639, l640, l999, l9999, l19200, if_pos, if_neg, Option.bind_some, if_true, if_false, ]) FU (FU_gt (by omega))
  rw [gone_0] at hL
  exact hL
theorem M_users1_ok {b : Nat} {B : Nat → Nat} {m : Nat → Int32} (hb : b < 64) (h1 : ∀ x, x < 640 → m x = nI (B x) ∧ B x ≤ 64) : f_M_users_L4 FU (nI b) 0 0 m = some (nI (cntB B b)) := by
  unfold cntB
  have hL := loop_up (fun fu x => f_M_users_L4 fu (nI b) (nI (cn (fun x => B x == b + 1) x)) (nI x) m) 640 (some (nI (cn (fun x => B x == b + 1) 640))) (fun fu x hx => by
      have := cn_le (fun x => B x == b + 1) x
      obtain ⟨a1, a2⟩ := h1 x hx
      show f_M_users_L4 (fu + 1) _ _ _ _ = _
      rw [f_M_users_L4, cn_s]
      by_cases e : B x = b + 1
      · simp (disch := omega) only [nI_ltI, nI_leI, nI_eq, nI_add, pk_mul, pk_sub, nI_clamp, l0, l1, l2, l3, l4, l5, l6, l8, l9, l10, l15, l16, l30, l39, l40, l58, l63, l64, l99, l100, l103, l104, l108, l112, l117, l119, l120, l512, l639, l640, l999, l9999, l19200, if_pos, if_neg, Option.bind_some, if_true, if_false,  a1, e, not_or, beq_self_eq_true]
      · have e3 : (B x == b + 1) = false := by simp [e]
        simp (disch := omega) only [nI_ltI, nI_leI, nI_eq, nI_add, pk_mul, pk_sub, nI_clamp, l0, l1, l2, l3, l4, l5, l6, l8, l9, l10, l15, l16, l30, l39, l40, l58, l63, l64, l99, l100, l103, l104, l108, l112, l117, l119, l120, l512, l639, l640, l999, l9999, l19200, if_pos, if_neg, Option.bind_some, if_true, if_false,  a1, e3, not_or, Bool.false_eq_true, Nat.add_zero]) (fun fu => by
      show f_M_users_L4 (fu + 1) _ _ _ _ = _
      rw [f_M_users_L4]
      simp (disch := omega) only [nI_ltI, nI_leI, nI_eq, nI_add, pk_mul, pk_sub, nI_clamp, l0, l1, l2, l3, l4, l5, l6, l8, l9, l10, l15, l16, l30, l39, l40, l58, l63, l64, l99, l100, l103, l104, l108, l112, l117, l119, l120, l512, l639, l640, l999, l9999, l19200, if_pos, if_neg, Option.bind_some, if_true, if_false, ]) FU (FU_gt (by omega))
  exact hL
theorem M_users2_ok {b c s : Nat} {K S : Nat → Nat} {mk ms : Nat → Int32} (hb : b < 64) (hc : c ≤ 100000) (hs : s < 30) (hk : mk s = nI (K s)) (hk1 : K s ≤ 1) (h1 : K s = 1 → ∀ x, x < 640 → ms (640 * s + x) = nI (S (640 * s + x)) ∧ S (640 * s + x) ≤ 64) : f_M_users_L50 FU (nI b) (nI c) (nI s) 0 mk ms = some (nI (c + (if K s = 1 then snB S s b else 0))) := by
  unfold snB
  by_cases hK : K s = 1
  · have h1 := h1 hK
    have hL := loop_up (fun fu x => f_M_users_L50 fu (nI b) (nI (c + cn (fun x => S (640 * s + x) == b + 1) x)) (nI s) (nI x) mk ms) 640 (some (nI (c + cn (fun x => S (640 * s + x) == b + 1) 640))) (fun fu x hx => by
        have := cn_le (fun x => S (640 * s + x) == b + 1) x
        obtain ⟨a1, a2⟩ := h1 x hx
        show f_M_users_L50 (fu + 1) _ _ _ _ _ _ = _
        rw [f_M_users_L50, cn_s]
        by_cases e : S (640 * s + x) = b + 1
        · simp (disch := omega) only [nI_ltI, nI_leI, nI_eq, nI_add, pk_mul, pk_sub, nI_clamp, l0, l1, l2, l3, l4, l5, l6, l8, l9, l10, l15, l16, l30, l39, l40, l58, l63, l64, l99, l100, l103, l104, l108, l112, l117, l119, l120, l512, l639, l640, l999, l9999, l19200, if_pos, if_neg, Option.bind_some, if_true, if_false,  hk, hK, a1, e, not_or, beq_self_eq_true, Nat.add_assoc]
        · have e3 : (S (640 * s + x) == b + 1) = false := by simp [e]
          simp (disch := omega) only [nI_ltI, nI_leI, nI_eq, nI_add, pk_mul, pk_sub, nI_clamp, l0, l1, l2, l3, l4, l5, l6, l8, l9, l10, l15, l16, l30, l39, l40, l58, l63, l64, l99, l100, l103, l104, l108, l112, l117, l119, l120, l512, l639, l640, l999, l9999, l19200, if_pos, if_neg, Option.bind_some, if_true, if_false,  hk, hK, a1, e3, not_or, Bool.false_eq_true, Nat.add_zero]) (fun fu => by
        show f_M_users_L50 (fu + 1) _ _ _ _ _ _ = _
        rw [f_M_users_L50]
        simp (disch := omega) only [nI_ltI, nI_leI, nI_eq, nI_add, pk_mul, pk_sub, nI_clamp, l0, l1, l2, l3, l4, l5, l6, l8, l9, l10, l15, l16, l30, l39, l40, l58, l63, l64, l99, l100, l103, l104, l108, l112, l117, l119, l120, l512, l639, l640, l999, l9999, l19200, if_pos, if_neg, Option.bind_some, if_true, if_false, ]) FU (FU_gt (by omega))
    rw [if_pos hK]
    exact hL
  · have hK0 : K s = 0 := by omega
    rw [if_neg hK, show FU = 99999 + 1 from rfl, f_M_users_L50]
    simp (disch := omega) only [nI_ltI, nI_leI, nI_eq, nI_add, pk_mul, pk_sub, nI_clamp, l0, l1, l2, l3, l4, l5, l6, l8, l9, l10, l15, l16, l30, l39, l40, l58, l63, l64, l99, l100, l103, l104, l108, l112, l117, l119, l120, l512, l639, l640, l999, l9999, l19200, if_pos, if_neg, Option.bind_some, if_true, if_false,  hk, hK0, not_or, Nat.add_zero]
theorem snB_le (S : Nat → Nat) (s b : Nat) : snB S s b ≤ 640 := cn_le _ _
theorem cntB_le (B : Nat → Nat) (b : Nat) : cntB B b ≤ 640 := cn_le _ _
theorem snU_le (t : Nat) (K S : Nat → Nat) (b : Nat) : snU t K S b ≤ t * 640 := sm_le (fun s _ => by
  split
  · exact snB_le S s b
  · omega)
/-- what is known of the snapshots in the reference -/
def SnM (t : Nat) (K S : Nat → Nat) (mk ms : Nat → Int32) : Prop := t ≤ 30 ∧ ∀ s, s < t → mk s = nI (K s) ∧ K s ≤ 1 ∧ (K s = 1 → ∀ x, x < 640 → ms (640 * s + x) = nI (S (640 * s + x)) ∧ S (640 * s + x) ≤ 64)
theorem M_users_ok {b t : Nat} {B K S : Nat → Nat} {m mk ms : Nat → Int32} (hb : b < 64) (h1 : ∀ x, x < 640 → m x = nI (B x) ∧ B x ≤ 64) (hS : SnM t K S mk ms) : f_M_users (nI b) m (nI t) mk ms = some (nI (cntB B b + snU t K S b)) := by
  unfold f_M_users
  rw [M_users1_ok hb h1]
  obtain ⟨ht, hS⟩ := hS
  have hc := cntB_le B b
  have hL := loop_up (fun fu x => f_M_users_L39 fu (nI b) (nI (cntB B b + snU x K S b)) (nI x) (nI t) mk ms) t (some (nI (cntB B b + snU t K S b))) (fun fu x hx => by
      have hu := snU_le x K S b
      obtain ⟨a1, a2, a3⟩ := hS x hx
      show f_M_users_L39 (fu + 1) _ _ _ _ _ _ = _
      rw [f_M_users_L39]
      rw [M_users2_ok hb (by omega) (by omega) a1 a2 a3]
      have e : snU (x + 1) K S b = snU x K S b + (if K x = 1 then snB S x b else 0) := rfl
      rw [e]
      simp (disch := omega) only [nI_ltI, nI_leI, nI_eq, nI_add, pk_mul, pk_sub, nI_clamp, l0, l1, l2, l3, l4, l5, l6, l8, l9, l10, l15, l16, l30, l39, l40, l58, l63, l64, l99, l100, l103, l104, l108, l112, l117, l119, l120, l512, l639, l640, l999, l9999, l19200, if_pos, if_neg, Option.bind_some, if_true, if_false,  Nat.add_assoc]) (fun fu => by
      show f_M_users_L39 (fu + 1) _ _ _ _ _ _ = _
      rw [f_M_users_L39]
      simp (disch := omega) only [nI_ltI, nI_leI, nI_eq, nI_add, pk_mul, pk_sub, nI_clamp, l0, l1, l2, l3, l4, l5, l6, l8, l9, l10, l15, l16, l30, l39, l40, l58, l63, l64, l99, l100, l103, l104, l108, l112, l117, l119, l120, l512, l639, l640, l999, l9999, l19200, if_pos, if_neg, Option.bind_some, if_true, if_false, ]) FU (FU_gt (by omega))
  have h2 : f_M_users_L39 FU (nI b) (nI (cntB B b + snU 0 K S b)) (nI 0) (nI t) mk ms = some (nI (cntB B b + snU t K S b)) := hL
  rw [show snU 0 K S b = 0 from rfl, Nat.add_zero] at h2
  rw [Option.bind_some]
  simp only [l0]
  rw [h2]
  rfl
/-- how many use a block -/
def usr (t : Nat) (B K S : Nat → Nat) (b : Nat) : Nat := cntB B b + snU t K S b
theorem usr_le {t : Nat} (ht : t ≤ 30) (B K S : Nat → Nat) (b : Nat) : usr t B K S b ≤ 20000 := by
  have h1 := cntB_le B b
  have h2 := snU_le t K S b
  unfold usr
  have : t * 640 ≤ 30 * 640 := Nat.mul_le_mul_right _ ht
  omega
theorem M_freeNow_ok {t : Nat} {B K S : Nat → Nat} {m mk ms : Nat → Int32} (h1 : ∀ x, x < 640 → m x = nI (B x) ∧ B x ≤ 64) (hS : SnM t K S mk ms) : f_M_freeNow m (nI t) mk ms = some (nI (cn (fun b => usr t B K S b == 0) 64)) := by
  unfold f_M_freeNow
  have hL := loop_up (fun fu i => f_M_freeNow_L4 fu (nI (cn (fun b => usr t B K S b == 0) i)) (nI i) m (nI t) mk ms) 64 (some (nI (cn (fun b => usr t B K S b == 0) 64))) (fun fu i hi => by
      have := cn_le (fun b => usr t B K S b == 0) i
      have hu := usr_le hS.1 B K S i
      show f_M_freeNow_L4 (fu + 1) _ _ _ _ _ _ = _
      rw [f_M_freeNow_L4, cn_s]
      rw [show f_M_users (nI i) m (nI t) mk ms = some (nI (usr t B K S i)) from M_users_ok hi h1 hS]
      by_cases e : usr t B K S i = 0
      · simp (disch := omega) only [nI_ltI, nI_leI, nI_eq, nI_add, pk_mul, pk_sub, nI_clamp, l0, l1, l2, l3, l4, l5, l6, l8, l9, l10, l15, l16, l30, l39, l40, l58, l63, l64, l99, l100, l103, l104, l108, l112, l117, l119, l120, l512, l639, l640, l999, l9999, l19200, if_pos, if_neg, Option.bind_some, if_true, if_false,  e, beq_self_eq_true]
      · have e2 : (usr t B K S i == 0) = false := by simp [e]
        simp (disch := omega) only [nI_ltI, nI_leI, nI_eq, nI_add, pk_mul, pk_sub, nI_clamp, l0, l1, l2, l3, l4, l5, l6, l8, l9, l10, l15, l16, l30, l39, l40, l58, l63, l64, l99, l100, l103, l104, l108, l112, l117, l119, l120, l512, l639, l640, l999, l9999, l19200, if_pos, if_neg, Option.bind_some, if_true, if_false,  e2, Bool.false_eq_true, Nat.add_zero]) (fun fu => by
      show f_M_freeNow_L4 (fu + 1) _ _ _ _ _ _ = _
      rw [f_M_freeNow_L4]
      simp (disch := omega) only [nI_ltI, nI_leI, nI_eq, nI_add, pk_mul, pk_sub, nI_clamp, l0, l1, l2, l3, l4, l5, l6, l8, l9, l10, l15, l16, l30, l39, l40, l58, l63, l64, l99, l100, l103, l104, l108, l112, l117, l119, l120, l512, l639, l640, l999, l9999, l19200, if_pos, if_neg, Option.bind_some, if_true, if_false, ]) FU (FU_gt (by omega))
  have h2 : f_M_freeNow_L4 FU 0 0 m (nI t) mk ms = some (nI (cn (fun b => usr t B K S b == 0) 64)) := hL
  rw [h2]
  rfl
theorem M_lowestFree_ok {t : Nat} {B K S : Nat → Nat} {m mk ms : Nat → Int32} (h1 : ∀ x, x < 640 → m x = nI (B x) ∧ B x ≤ 64) (hS : SnM t K S mk ms) : f_M_lowestFree m (nI t) mk ms = some (nI (fst (fun b => usr t B K S b == 0) 64)) := by
  unfold f_M_lowestFree
  obtain ⟨g1, g2⟩ := fst_spec (fun b => usr t B K S b == 0) 64
  have hk := fst_le (fun b => usr t B K S b == 0) 64
  generalize fst (fun b => usr t B K S b == 0) 64 = k at g1 g2 hk ⊢
  have hL := loop_up (fun fu i => f_M_lowestFree_L2 fu (nI i) m (nI t) mk ms) k (some (nI k)) (fun fu i hi => by
      have hu := usr_le hS.1 B K S i
      have e := g1 i hi
      have e3 : usr t B K S i ≠ 0 := by simpa using e
      show f_M_lowestFree_L2 (fu + 1) _ _ _ _ _ = _
      rw [f_M_lowestFree_L2]
      rw [show f_M_users (nI i) m (nI t) mk ms = some (nI (usr t B K S i)) from M_users_ok (by omega) h1 hS]
      simp (disch := omega) only [nI_ltI, nI_leI, nI_eq, nI_add, pk_mul, pk_sub, nI_clamp, l0, l1, l2, l3, l4, l5, l6, l8, l9, l10, l15, l16, l30, l39, l40, l58, l63, l64, l99, l100, l103, l104, l108, l112, l117, l119, l120, l512, l639, l640, l999, l9999, l19200, if_pos, if_neg, Option.bind_some, if_true, if_false, ]) (fun fu => by
      show f_M_lowestFree_L2 (fu + 1) _ _ _ _ _ = _
      rw [f_M_lowestFree_L2]
      by_cases hk64 : k < 64
      · have e := g2 hk64
        have e3 : usr t B K S k = 0 := by simpa using e
        rw [show f_M_users (nI k) m (nI t) mk ms = some (nI (usr t B K S k)) from M_users_ok hk64 h1 hS]
        simp (disch := omega) only [nI_ltI, nI_leI, nI_eq, nI_add, pk_mul, pk_sub, nI_clamp, l0, l1, l2, l3, l4, l5, l6, l8, l9, l10, l15, l16, l30, l39, l40, l58, l63, l64, l99, l100, l103, l104, l108, l112, l117, l119, l120, l512, l639, l640, l999, l9999, l19200, if_pos, if_neg, Option.bind_some, if_true, if_false,  e3]
      · simp (disch := omega) only [nI_ltI, nI_leI, nI_eq, nI_add, pk_mul, pk_sub, nI_clamp, l0, l1, l2, l3, l4, l5, l6, l8, l9, l10, l15, l16, l30, l39, l40, l58, l63, l64, l99, l100, l103, l104, l108, l112, l117, l119, l120, l512, l639, l640, l999, l9999, l19200, if_pos, if_neg, Option.bind_some, if_true, if_false, ]) FU (FU_gt (by omega))
  have h2 : f_M_lowestFree_L2 FU 0 m (nI t) mk ms = some (nI k) := hL
  first | exact h2 | (rw [h2]; rfl)
theorem M_promisedNow_ok {m : Nat → Int32} {P : Nat → Nat} (hP : ∀ o, o < 4 → m o = nI (P o) ∧ P o ≤ 64) : f_M_promisedNow m = some (nI (sm P 4)) := by
  unfold f_M_promisedNow
  have e : sm P 4 = 0 + P 0 + P 1 + P 2 + P 3 := rfl
  have h0 : (0 : Int32).toNatClampNeg = 0 := rfl
  have h1 : (1 : Int32).toNatClampNeg = 1 := rfl
  have h2 : (2 : Int32).toNatClampNeg = 2 := rfl
  have h3 : (3 : Int32).toNatClampNeg = 3 := rfl
  rw [e]
  simp only [h0, h1, h2, h3, (hP 0 (by omega)).1, (hP 1 (by omega)).1, (hP 2 (by omega)).1, (hP 3 (by omega)).1, nI_add, Nat.zero_add]
