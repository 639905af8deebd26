/-! A LOOP OVER A STATE: an invariant instead of a closed form -/
theorem loop_rel {σ β : Type} (L : Nat → Nat → σ → Option β) (I : Nat → σ → Prop) (N : Nat) (o : σ → β) (hs : ∀ fu i s, i < N → I i s → ∃ s', I (i + 1) s' ∧ L (fu + 1) i s = L fu (i + 1) s') (he : ∀ fu s, I N s → L (fu + 1) N s = some (o s)) (fu : Nat) (hf : N < fu) (s0 : σ) (h0 : I 0 s0) : ∃ s, I N s ∧ L fu 0 s0 = some (o s) := by
  have key : ∀ n i fu s, N - i = n → i ≤ N → n < fu → I i s → ∃ s', I N s' ∧ L fu i s = some (o s') := by
    intro n
    induction n with
    | zero =>
      intro i fu s hn hi hf hI
      have e : i = N := by omega
      subst e
      cases fu with
      | zero => omega
      | succ fu => exact ⟨s, hI, he fu s hI⟩
    | succ n ih =>
      intro i fu s hn hi hf hI
      cases fu with
      | zero => omega
      | succ fu =>
        obtain ⟨s', h1, h2⟩ := hs fu i s (by omega) hI
        rw [h2]
        exact ih (i + 1) fu s' (by omega) (by omega) (by omega) h1
  exact key N 0 fu s0 rfl (Nat.zero_le _) hf h0
/-! THE USERS OF A BLOCK WHEN ONE PLACE CHANGES -/
theorem cntB_un {B : Nat → Nat} {x v b : Nat} (hx : x < 640) : cntB (un B x v) b + (if B x = b + 1 then 1 else 0) = cntB B b + (if v = b + 1 then 1 else 0) := by
  have h := cn_upd (p := fun y => B y == b + 1) (q := fun y => un B x v y == b + 1) (n := 640) (k := x) hx (fun i _ hne => by show (B i == b + 1) = (un B x v i == b + 1); rw [un_ne hne])
  unfold cntB
  rw [un_at] at h
  have e1 : (if (B x == b + 1) = true then 1 else 0) = (if B x = b + 1 then 1 else 0) := by
    by_cases q : B x = b + 1
    · rw [if_pos q, if_pos (by rw [q]; exact beq_self_eq_true _)]
    · rw [if_neg q, if_neg (by rw [beq_eq_false_iff_ne.mpr q]; exact Bool.false_ne_true)]
  have e2 : (if (v == b + 1) = true then 1 else 0) = (if v = b + 1 then 1 else 0) := by
    by_cases q : v = b + 1
    · rw [if_pos q, if_pos (by rw [q]; exact beq_self_eq_true _)]
    · rw [if_neg q, if_neg (by rw [beq_eq_false_iff_ne.mpr q]; exact Bool.false_ne_true)]
  rw [e1, e2] at h
  exact h
theorem usr_un {t : Nat} {B K S : Nat → Nat} {x v b : Nat} (hx : x < 640) : usr t (un B x v) K S b + (if B x = b + 1 then 1 else 0) = usr t B K S b + (if v = b + 1 then 1 else 0) := by
  have h := cntB_un (B := B) (v := v) (b := b) hx
  unfold usr
  omega
theorem ru_val {w b : Nat} {nU : Nat → Int32} (hw : w ≤ 64) (hb : b < 64) : ru (nI w - 1) nU b = nU b - (if w = b + 1 then 1 else 0) := by
  rcases w with _ | w
  · rw [ru_out (m1n_out rfl), if_neg (by omega), Int32.sub_zero]
  · rw [nI_pred, ru_in (by omega)]
    by_cases e : w = b
    · subst e
      rw [upd_at, if_pos rfl]
    · rw [upd_ne (fun q => e q.symm), if_neg (by omega), Int32.sub_zero]
theorem au_val {w b : Nat} {nU : Nat → Int32} (hw : w ≤ 64) (hb : b < 64) : au (nI w - 1) nU b = nU b + (if w = b + 1 then 1 else 0) := by
  rcases w with _ | w
  · rw [au_out (m1n_out rfl), if_neg (by omega), Int32.add_zero]
  · rw [nI_pred, au_in (by omega)]
    by_cases e : w = b
    · subst e
      rw [upd_at, if_pos rfl]
    · rw [upd_ne (fun q => e q.symm), if_neg (by omega), Int32.add_zero]
theorem set_ok {w v b u u' : Nat} {nU : Nat → Int32} (hw : w ≤ 64) (hv : v ≤ 64) (hb : b < 64) (h1 : nU b = nI u) (h2 : u' + (if w = b + 1 then 1 else 0) = u + (if v = b + 1 then 1 else 0)) : au (nI v - 1) (ru (nI w - 1) nU) b = nI u' := by
  rw [au_val hv hb, ru_val hw hb, h1]
  by_cases e1 : w = b + 1
  · by_cases e2 : v = b + 1
    · rw [if_pos e1, if_pos e2] at h2
      rw [if_pos e1, if_pos e2, Int32.sub_add_cancel, show u' = u by omega]
    · rw [if_pos e1, if_neg e2] at h2
      rw [if_pos e1, if_neg e2, Int32.add_zero, show u = u' + 1 by omega, nI_pred]
  · by_cases e2 : v = b + 1
    · rw [if_neg e1, if_pos e2] at h2
      rw [if_neg e1, if_pos e2, Int32.sub_zero, nI_1, show u' = u + 1 by omega]
    · rw [if_neg e1, if_neg e2] at h2
      rw [if_neg e1, if_neg e2, Int32.sub_zero, Int32.add_zero, show u' = u by omega]
/-- the places' blocks in the class -/
def BL (B : Nat → Nat) (nC : Nat → Int32) : Prop := ∀ x, x < 640 → nC x = nI (B x) - 1 ∧ B x ≤ 64
def US (t : Nat) (B K S : Nat → Nat) (nU : Nat → Int32) : Prop := ∀ b, b < 64 → nU b = nI (usr t B K S b)
theorem BL_un {B : Nat → Nat} {nC : Nat → Int32} {x v : Nat} (h : BL B nC) (hv : v ≤ 64) : BL (un B x v) (upd nC x (nI v - 1)) := fun y hy => by
  by_cases e : y = x
  · subst e
    rw [upd_at, un_at]
    exact ⟨rfl, hv⟩
  · rw [upd_ne e, un_ne e]
    exact h y hy
theorem setB {j f q v t : Nat} {B K S : Nat → Nat} {nC nU : Nat → Int32} (hj : j < f) (hf : f ≤ 40) (hq : q < 16) (hC : BL B nC) (hU : US t B K S nU) (hv : v ≤ 64) : ∃ nU', f_S_setBlock (nI j) (nI q) (nI v - 1) (nI f) nC nU = some (upd nC (j * 16 + q) (nI v - 1), nU') ∧ BL (un B (j * 16 + q) v) (upd nC (j * 16 + q) (nI v - 1)) ∧ US t (un B (j * 16 + q) v) K S nU' := by
  refine ⟨_, S_setBlock_in hj hf hq, BL_un hC hv, fun b hb => ?_⟩
  obtain ⟨c1, c2⟩ := hC (j * 16 + q) (by omega)
  rw [c1]
  exact set_ok c2 hv hb (hU b hb) (usr_un (by omega))
/-- a file's places become holes -/
def goneN (j : Nat) (B : Nat → Nat) (n : Nat) : Nat → Nat := fun x => if 16 * j ≤ x ∧ x < 16 * j + n then 0 else B x
theorem goneN_s (j : Nat) (B : Nat → Nat) (n : Nat) : un (goneN j B n) (j * 16 + n) 0 = goneN j B (n + 1) := by
  funext x
  unfold un goneN
  by_cases e : x = j * 16 + n
  · rw [if_pos e, if_pos (by omega)]
  · rw [if_neg e]
    by_cases e2 : 16 * j ≤ x ∧ x < 16 * j + n
    · rw [if_pos e2, if_pos (by omega)]
    · rw [if_neg e2, if_neg (by omega)]
theorem goneN_0 (j : Nat) (B : Nat → Nat) : goneN j B 0 = B := by
  funext x
  exact if_neg (by omega)
theorem S_removeFileL_ok {j f t : Nat} {B K S : Nat → Nat} {nC nU : Nat → Int32} (hj : j < f) (hf : f ≤ 40) (hC : BL B nC) (hU : US t B K S nU) : ∃ nC' nU', f_S_removeFile_L17 FU (nI j) 0 (nI f) nC nU = some (nC', nU') ∧ BL (goneN j B 16) nC' ∧ US t (goneN j B 16) K S nU' := by
  obtain ⟨⟨c, u⟩, ⟨h1, h2⟩, h3⟩ := loop_rel (fun fu i (s : (Nat → Int32) × (Nat → Int32)) => f_S_removeFile_L17 fu (nI j) (nI i) (nI f) s.1 s.2) (fun i s => BL (goneN j B i) s.1 ∧ US t (goneN j B i) K S s.2) 16 (fun s => s) (fun fu i s hi ⟨a1, a2⟩ => by
      obtain ⟨u', b1, b2, b3⟩ := setB (q := i) (v := 0) hj hf hi a1 a2 (by omega)
      rw [goneN_s] at b2 b3
      refine ⟨(upd s.1 (j * 16 + i) (nI 0 - 1), u'), ⟨b2, b3⟩, ?_⟩
      show f_S_removeFile_L17 (fu + 1) _ _ _ _ _ = _
      have h16 : ¬ (16 : Int32) ≤ nI i := fun q => absurd ((nI_leI (a := 16) (b := i) (by omega) (by omega)).mp q) (by omega)
      rw [f_S_removeFile_L17, if_neg h16, show f_S_setBlock (nI j) (nI i) (-1) (nI f) s.1 s.2 = some (upd s.1 (j * 16 + i) (nI 0 - 1), u') from b1, nI_1]
      rfl) (fun fu s _ => by
      show f_S_removeFile_L17 (fu + 1) _ _ _ _ _ = _
      rw [f_S_removeFile_L17]
      simp (disch := omega) only [nI_ltI, nI_leI, nI_eq, nI_add, pk_mul, pk_sub, nI_clamp, l0, l1, l2, l3, l4, l5, l6, l8, l9, l10, l15, l16, l30, l39, l40, l58, l63, l64, l99, l100, l103, l104, l108, l112, l117, l119, l120, l512, l639, l640, l999, l9999, l19200, if_pos, if_neg, Option.bind_some, if_true, if_false]) FU (FU_gt (by omega)) (nC, nU) ⟨by rw [goneN_0]; exact hC, by rw [goneN_0]; exact hU⟩
  exact ⟨c, u, h3, h1, h2⟩
theorem gone_N {j : Nat} {B : Nat → Nat} {m : Nat → Int32} {x : Nat} (h : m x = nI (B x)) : gone j m 16 x = nI (goneN j B 16 x) := by
  unfold gone goneN
  by_cases e : 16 * j ≤ x ∧ x < 16 * j + 16
  · rw [if_pos e, if_pos e]
  · rw [if_neg e, if_neg e, h]
/-- blocks, users and which files exist -/
def BLK (t : Nat) (K S : Nat → Nat) (f : Nat) (A B : Nat → Nat) (nA nC nU mblocks : Nat → Int32) : Prop :=
  (∀ x, x < 640 → nC x = nI (B x) - 1 ∧ mblocks x = nI (B x) ∧ B x ≤ 64 ∧ (B x ≠ 0 → x / 16 < f ∧ A (x / 16) = 1)) ∧ US t B K S nU ∧ (∀ i, i < 40 → nA i = nI (A i) ∧ A i ≤ 1)
theorem S_removeFile_ok {j f t : Nat} {B K S : Nat → Nat} {nA nC nU : Nat → Int32} (hj : j < f) (hf : f ≤ 40) (hC : BL B nC) (hU : US t B K S nU) : ∃ nC' nU', f_S_removeFile (nI j) (nI f) nA nC nU = some (upd nA j 0, nC', nU') ∧ BL (goneN j B 16) nC' ∧ US t (goneN j B 16) K S nU' := by
  obtain ⟨c, u, h1, h2, h3⟩ := S_removeFileL_ok hj hf hC hU
  refine ⟨c, u, ?_, h2, h3⟩
  unfold f_S_removeFile
  have e1 : ¬ ((1 : Int32) = 0) := by decide
  rw [S_hasFile_in hj hf, Option.bind_some, if_neg e1, if_neg (in_lim (by omega) (by omega)), h1, nI_clamp (by omega)]
  rfl
/-! THE JOURNAL -/
theorem C_note_ok {c e : Nat} {cK : Nat → Int32} (he : e ≤ 511) (hc : c < 65536) : f_C_note (nI c) (nI e) cK = some (nI (e + 1), upd cK e (nI c)) := by
  unfold f_C_note f_S_entryTotal f_S_setEntries
  simp (disch := omega) only [nI_ltI, nI_leI, nI_eq, nI_add, pk_mul, pk_sub, nI_clamp, l0, l1, l2, l3, l4, l5, l6, l8, l9, l10, l15, l16, l30, l39, l40, l58, l63, l64, l99, l100, l103, l104, l108, l112, l117, l119, l120, l512, l639, l640, l999, l9999, l19200, if_pos, if_neg, Option.bind_some, if_true, if_false, vcn hc]
