/-! PURE: the leaves of the reference's functions -/
def hdN (h : Nat) (HF HO : Nat → Nat) (i : Nat) : Nat := cn (fun x => HO x == 1 && HF x == i) h
def cntB (B : Nat → Nat) (b : Nat) : Nat := cn (fun x => B x == b + 1) 640
def snB (S : Nat → Nat) (s b : Nat) : Nat := cn (fun x => S (640 * s + x) == b + 1) 640
def snU (t : Nat) (K S : Nat → Nat) (b : Nat) : Nat := sm (fun s => if K s = 1 then snB S s b else 0) t
theorem hdN_le (h : Nat) (HF HO : Nat → Nat) (i : Nat) : hdN h HF HO i ≤ h := cn_le _ _
/-- the holes of a file that goes -/
def gone (i : Nat) (m : Nat → Int32) (n : Nat) : Nat → Int32 := fun x => if 16 * i ≤ x ∧ x < 16 * i + n then nI 0 else m x
theorem gone_s (i : Nat) (m : Nat → Int32) (n : Nat) : upd (gone i m n) (16 * i + n) (nI 0) = gone i m (n + 1) := by
  funext x
  unfold upd gone
  by_cases e : x = 16 * i + n
  · rw [if_pos e, if_pos (by omega)]
  · rw [if_neg e]
    by_cases e2 : 16 * i ≤ x ∧ x < 16 * i + n
    · rw [if_pos e2, if_pos (by omega)]
    · rw [if_neg e2, if_neg (by omega)]
theorem gone_0 (i : Nat) (m : Nat → Int32) : gone i m 0 = m := by
  funext x
  exact if_neg (by omega)
theorem snB_le (S : Nat → Nat) (s b : Nat) : snB S s b ≤ 640 := cn_le _ _
theorem cntB_le (B : Nat → Nat) (b : Nat) : cntB B b ≤ 640 := cn_le _ _
theorem snU_le (t : Nat) (K S : Nat → Nat) (b : Nat) : snU t K S b ≤ t * 640 := sm_le (fun s _ => by
  split
  · exact snB_le S s b
  · omega)
/-- what is known of the snapshots in the reference -/
def SnM (t : Nat) (K S : Nat → Nat) (mk ms : Nat → Int32) : Prop := t ≤ 30 ∧ ∀ s, s < t → mk s = nI (K s) ∧ K s ≤ 1 ∧ (K s = 1 → ∀ x, x < 640 → ms (640 * s + x) = nI (S (640 * s + x)) ∧ S (640 * s + x) ≤ 64)
/-- how many use a block -/
def usr (t : Nat) (B K S : Nat → Nat) (b : Nat) : Nat := cntB B b + snU t K S b
theorem usr_le {t : Nat} (ht : t ≤ 30) (B K S : Nat → Nat) (b : Nat) : usr t B K S b ≤ 20000 := by
  have h1 := cntB_le B b
  have h2 := snU_le t K S b
  unfold usr
  have : t * 640 ≤ 30 * 640 := Nat.mul_le_mul_right _ ht
  omega
