/-! COUNTING BITS: java.lang.Long.bitCount counts the bits -/
/-- digits to the base 256 -/
def dig (d : Nat → Nat) : Nat → Nat
  | 0 => 0
  | n + 1 => d 0 + 256 * dig (fun i => d (i + 1)) n
theorem dig_s (d : Nat → Nat) (n : Nat) : dig d (n + 1) = d 0 + 256 * dig (fun i => d (i + 1)) n := rfl
theorem dig_cong {d e : Nat → Nat} {n : Nat} (h : ∀ i, i < n → d i = e i) : dig d n = dig e n := by
  induction n generalizing d e with
  | zero => rfl
  | succ n ih => rw [dig_s, dig_s, h 0 (by omega), ih (fun i hi => h (i + 1) (by omega))]
theorem dig_add (d e : Nat → Nat) (n : Nat) : dig d n + dig e n = dig (fun i => d i + e i) n := by
  induction n generalizing d e with
  | zero => rfl
  | succ n ih =>
    rw [dig_s, dig_s, dig_s, ← ih]
    omega
theorem dig_sub (d e : Nat → Nat) (n : Nat) (h : ∀ i, e i ≤ d i) : dig e n ≤ dig d n ∧ dig d n - dig e n = dig (fun i => d i - e i) n := by
  induction n generalizing d e with
  | zero => exact ⟨Nat.le_refl _, rfl⟩
  | succ n ih =>
    obtain ⟨h1, h2⟩ := ih (fun i => d (i + 1)) (fun i => e (i + 1)) (fun i => h (i + 1))
    have h0 := h 0
    rw [dig_s, dig_s, dig_s, ← h2]
    omega
theorem dig_of (n x : Nat) (h : x < 256 ^ n) : dig (fun i => x / 256 ^ i % 256) n = x := by
  induction n generalizing x with
  | zero => rw [Nat.pow_zero] at h; show 0 = x; omega
  | succ n ih =>
    rw [dig_s]
    have e : dig (fun i => x / 256 ^ (i + 1) % 256) n = x / 256 := by
      rw [← ih (x / 256) (by rw [Nat.pow_succ] at h; omega)]
      exact dig_cong (fun i _ => by rw [Nat.div_div_eq_div_mul, Nat.pow_succ, Nat.mul_comm])
    rw [e, Nat.pow_zero, Nat.div_one]
    omega
theorem dig_lt (d : Nat → Nat) (n c : Nat) (hc : c ≤ 255) (h : ∀ i, d i ≤ c) : dig d n < 256 ^ n := by
  induction n generalizing d with
  | zero => exact Nat.one_pos
  | succ n ih =>
    have := ih (fun i => d (i + 1)) (fun i => h (i + 1))
    have h0 := h 0
    rw [dig_s, Nat.pow_succ]
    omega
theorem and_split {a m A M : Nat} (ha : a < 256) (hm : m < 256) : (a + 256 * A) &&& (m + 256 * M) = (a &&& m) + 256 * (A &&& M) := by
  have e1 : ((a + 256 * A) &&& (m + 256 * M)) % 2 ^ 8 = a &&& m := by
    rw [Nat.and_mod_two_pow]
    rw [show (a + 256 * A) % 2 ^ 8 = a by omega, show (m + 256 * M) % 2 ^ 8 = m by omega]
  have e2 : ((a + 256 * A) &&& (m + 256 * M)) / 2 ^ 8 = A &&& M := by
    rw [Nat.and_div_two_pow]
    rw [show (a + 256 * A) / 2 ^ 8 = A by omega, show (m + 256 * M) / 2 ^ 8 = M by omega]
  have e3 := Nat.div_add_mod ((a + 256 * A) &&& (m + 256 * M)) (2 ^ 8)
  rw [e1, e2] at e3
  omega
theorem and_dig (d : Nat → Nat) (n m : Nat) (hm : m < 256) (h : ∀ i, d i < 256) : dig d n &&& dig (fun _ => m) n = dig (fun i => d i &&& m) n := by
  induction n generalizing d with
  | zero => exact Nat.zero_and 0
  | succ n ih => rw [dig_s, dig_s, dig_s, and_split (h 0) hm, ih (fun i => d (i + 1)) (fun i => h (i + 1))]
theorem by1 : ∀ (c : Fin 256) (p : Fin 2), (c.val / 2 + 128 * p.val) &&& 85 = (c.val / 2) &&& 85 := by decide +kernel
theorem by2 : ∀ (c : Fin 256) (p : Fin 4), (c.val / 4 + 64 * p.val) &&& 51 = (c.val / 4) &&& 51 := by decide +kernel
theorem by3 : ∀ (c : Fin 256) (p : Fin 5), c.val % 16 ≤ 4 → c.val / 16 ≤ 4 → (c.val + c.val / 16 + 16 * p.val) &&& 15 = c.val % 16 + c.val / 16 := by decide +kernel
def bits8 (c : Nat) : Nat := c % 2 + c / 2 % 2 + c / 4 % 2 + c / 8 % 2 + c / 16 % 2 + c / 32 % 2 + c / 64 % 2 + c / 128 % 2
def s1 (c : Nat) : Nat := c - ((c / 2) &&& 85)
def s2 (c : Nat) : Nat := (s1 c &&& 51) + ((s1 c / 4) &&& 51)
theorem by4 : ∀ c : Fin 256, ((c.val / 2) &&& 85) ≤ c.val ∧ s2 c.val < 256 ∧ s2 c.val % 16 ≤ 4 ∧ s2 c.val / 16 ≤ 4 ∧ s2 c.val % 16 + s2 c.val / 16 = bits8 c.val := by decide +kernel
theorem st1 (d : Nat → Nat) (n : Nat) (h : ∀ i, d i < 256) : dig d n / 2 &&& dig (fun _ => 85) n = dig (fun i => (d i / 2) &&& 85) n := by
  induction n generalizing d with
  | zero => exact Nat.and_zero _
  | succ n ih =>
    have h0 := h 0
    rw [dig_s, dig_s, dig_s, show (d 0 + 256 * dig (fun i => d (i + 1)) n) / 2 = (d 0 / 2 + 128 * (dig (fun i => d (i + 1)) n % 2)) + 256 * (dig (fun i => d (i + 1)) n / 2) by omega,
      and_split (by omega) (by omega), ih (fun i => d (i + 1)) (fun i => h (i + 1)), by1 ⟨d 0, h0⟩ ⟨dig (fun i => d (i + 1)) n % 2, by omega⟩]
theorem st2 (d : Nat → Nat) (n : Nat) (h : ∀ i, d i < 256) : dig d n / 4 &&& dig (fun _ => 51) n = dig (fun i => (d i / 4) &&& 51) n := by
  induction n generalizing d with
  | zero => exact Nat.and_zero _
  | succ n ih =>
    have h0 := h 0
    rw [dig_s, dig_s, dig_s, show (d 0 + 256 * dig (fun i => d (i + 1)) n) / 4 = (d 0 / 4 + 64 * (dig (fun i => d (i + 1)) n % 4)) + 256 * (dig (fun i => d (i + 1)) n / 4) by omega,
      and_split (by omega) (by omega), ih (fun i => d (i + 1)) (fun i => h (i + 1)), by2 ⟨d 0, h0⟩ ⟨dig (fun i => d (i + 1)) n % 4, by omega⟩]
theorem dig_mod16 (d : Nat → Nat) (n : Nat) (h : ∀ i, d i % 16 ≤ 4) : dig d n % 16 ≤ 4 := by
  cases n with
  | zero => show 0 % 16 ≤ 4; omega
  | succ n => rw [dig_s]; have := h 0; omega
theorem st3 (d : Nat → Nat) (n : Nat) (h : ∀ i, d i < 256 ∧ d i % 16 ≤ 4 ∧ d i / 16 ≤ 4) : (dig d n + dig d n / 16) &&& dig (fun _ => 15) n = dig (fun i => d i % 16 + d i / 16) n := by
  induction n generalizing d with
  | zero => exact Nat.and_zero _
  | succ n ih =>
    obtain ⟨h0, h1, h2⟩ := h 0
    have h3 := dig_mod16 (fun i => d (i + 1)) n (fun i => (h (i + 1)).2.1)
    rw [dig_s, dig_s, dig_s, show (d 0 + 256 * dig (fun i => d (i + 1)) n) + (d 0 + 256 * dig (fun i => d (i + 1)) n) / 16 = (d 0 + d 0 / 16 + 16 * (dig (fun i => d (i + 1)) n % 16)) + 256 * (dig (fun i => d (i + 1)) n + dig (fun i => d (i + 1)) n / 16) by omega,
      and_split (by omega) (by omega), ih (fun i => d (i + 1)) (fun i => h (i + 1)), by3 ⟨d 0, h0⟩ ⟨dig (fun i => d (i + 1)) n % 16, by omega⟩ h1 h2]
/-- the count of a number's bits, by numbers alone -/
def pop64 (x : Nat) : Nat :=
  let x1 := x - (x / 2 &&& 6148914691236517205)
  let x2 := (x1 &&& 3689348814741910323) + (x1 / 4 &&& 3689348814741910323)
  let x3 := (x2 + x2 / 16) &&& 1085102592571150095
  let x4 := x3 + x3 / 256
  let x5 := x4 + x4 / 65536
  x5 + x5 / 4294967296
theorem bits8_le (c : Nat) : bits8 c ≤ 8 := by unfold bits8; omega
theorem pop_steps (x : Nat) (h : x < 2 ^ 64) : (x / 2 &&& 6148914691236517205) ≤ x ∧
    (x - (x / 2 &&& 6148914691236517205)) = dig (fun i => s1 (x / 256 ^ i % 256)) 8 ∧
    ((x - (x / 2 &&& 6148914691236517205)) &&& 3689348814741910323) + ((x - (x / 2 &&& 6148914691236517205)) / 4 &&& 3689348814741910323) = dig (fun i => s2 (x / 256 ^ i % 256)) 8 ∧
    (dig (fun i => s2 (x / 256 ^ i % 256)) 8 + dig (fun i => s2 (x / 256 ^ i % 256)) 8 / 16) &&& 1085102592571150095 = dig (fun i => bits8 (x / 256 ^ i % 256)) 8 := by
  have hx := dig_of 8 x (by omega)
  have hb : ∀ i, (fun i => x / 256 ^ i % 256) i < 256 := fun i => Nat.mod_lt _ (by omega)
  have e1 : dig (fun _ => 85) 8 = 6148914691236517205 := by decide
  have e2 : dig (fun _ => 51) 8 = 3689348814741910323 := by decide
  have e3 : dig (fun _ => 15) 8 = 1085102592571150095 := by decide
  have a1 := st1 _ 8 hb
  rw [hx, e1] at a1
  have b1 := dig_sub (fun i => x / 256 ^ i % 256) (fun i => (x / 256 ^ i % 256 / 2) &&& 85) 8 (fun i => (by4 ⟨x / 256 ^ i % 256, hb i⟩).1)
  rw [hx, ← a1] at b1
  have c1 : (x - (x / 2 &&& 6148914691236517205)) = dig (fun i => s1 (x / 256 ^ i % 256)) 8 := b1.2
  have hs1 : ∀ i, (fun i => s1 (x / 256 ^ i % 256)) i < 256 := fun i => Nat.lt_of_le_of_lt (Nat.sub_le _ _) (hb i)
  have a2 := and_dig _ 8 51 (by omega) hs1
  have a3 := st2 _ 8 hs1
  rw [e2] at a2 a3
  refine ⟨b1.1, c1, ?_, ?_⟩
  · rw [c1, a2, a3, dig_add]
    rfl
  · have a4 := st3 (fun i => s2 (x / 256 ^ i % 256)) 8 (fun i => ⟨(by4 ⟨x / 256 ^ i % 256, hb i⟩).2.1, (by4 ⟨x / 256 ^ i % 256, hb i⟩).2.2.1, (by4 ⟨x / 256 ^ i % 256, hb i⟩).2.2.2.1⟩)
    rw [e3] at a4
    rw [a4]
    exact dig_cong (fun i _ => (by4 ⟨x / 256 ^ i % 256, hb i⟩).2.2.2.2)
theorem pop_sum (p : Nat → Nat) (h : ∀ i, p i ≤ 8) : (dig p 8 + dig p 8 / 256 + (dig p 8 + dig p 8 / 256) / 65536 + (dig p 8 + dig p 8 / 256 + (dig p 8 + dig p 8 / 256) / 65536) / 4294967296) % 128 = sm p 8 := by
  have h0 := h 0
  have h1 := h 1
  have h2 := h 2
  have h3 := h 3
  have h4 := h 4
  have h5 := h 5
  have h6 := h 6
  have h7 := h 7
  have e : dig p 8 = p 0 + 256 * (p 1 + 256 * (p 2 + 256 * (p 3 + 256 * (p 4 + 256 * (p 5 + 256 * (p 6 + 256 * (p 7 + 256 * 0))))))) := rfl
  have e2 : sm p 8 = 0 + p 0 + p 1 + p 2 + p 3 + p 4 + p 5 + p 6 + p 7 := rfl
  rw [e, e2]
  generalize p 0 = a0 at *
  generalize p 1 = a1 at *
  generalize p 2 = a2 at *
  generalize p 3 = a3 at *
  generalize p 4 = a4 at *
  generalize p 5 = a5 at *
  generalize p 6 = a6 at *
  generalize p 7 = a7 at *
  have f7 : a7 + 256 * 0 = a7 := by omega
  rw [f7]
  generalize hy6 : a6 + 256 * a7 = y6
  generalize hy5 : a5 + 256 * y6 = y5
  generalize hy4 : a4 + 256 * y5 = y4
  generalize hy3 : a3 + 256 * y4 = y3
  generalize hy2 : a2 + 256 * y3 = y2
  generalize hy1 : a1 + 256 * y2 = y1
  have g1 : (a0 + 256 * y1) / 256 = y1 := by omega
  rw [g1]
  have g2 : (a0 + 256 * y1 + y1) / 65536 = y2 + y3 := by omega
  rw [g2]
  have g3 : (a0 + 256 * y1 + y1 + (y2 + y3)) / 4294967296 = y4 + y5 + y6 + a7 := by omega
  rw [g3]
  omega
theorem tb_div (x i : Nat) : x.testBit i = decide (x / 2 ^ i % 2 = 1) := by
  rw [Nat.testBit_eq_decide_div_mod_eq]
theorem bits_cn (x : Nat) : cn (fun b => x.testBit b) 64 = sm (fun i => bits8 (x / 256 ^ i % 256)) 8 := by
  rw [show (64 : Nat) = 8 * 8 from rfl, cn_rows]
  refine sm_cong (fun r _ => ?_)
  have k : ∀ i, i < 8 → (fun i => x.testBit (r * 8 + i)) i = decide (x / 256 ^ r % 256 / 2 ^ i % 2 = 1) := by
    intro i hi
    show x.testBit (r * 8 + i) = _
    rw [tb_div, Nat.pow_add, Nat.mul_comm r 8, Nat.pow_mul, show (2 : Nat) ^ 8 = 256 from rfl, ← Nat.div_div_eq_div_mul]
    congr 1
    have e : x / 256 ^ r % 256 / 2 ^ i % 2 = x / 256 ^ r / 2 ^ i % 2 := by
      generalize x / 256 ^ r = y
      have h3 : (y % 2 ^ 8).testBit i = y.testBit i := by rw [Nat.testBit_mod_two_pow]; simp [hi]
      rw [tb_div, tb_div] at h3
      have h4 := decide_eq_decide.mp h3
      have g1 := Nat.mod_two_eq_zero_or_one (y % 2 ^ 8 / 2 ^ i)
      have g2 := Nat.mod_two_eq_zero_or_one (y / 2 ^ i)
      show y % 2 ^ 8 / 2 ^ i % 2 = _
      omega
    rw [e]
  rw [cn_cong k]
  generalize x / 256 ^ r % 256 = c
  have q : ∀ z : Nat, (if decide (z % 2 = 1) = true then 1 else 0) = z % 2 := by
    intro z
    rcases Nat.mod_two_eq_zero_or_one z with h | h <;> rw [h] <;> rfl
  show 0 + (if decide (c / 2 ^ 0 % 2 = 1) = true then 1 else 0) + (if decide (c / 2 ^ 1 % 2 = 1) = true then 1 else 0) + (if decide (c / 2 ^ 2 % 2 = 1) = true then 1 else 0) + (if decide (c / 2 ^ 3 % 2 = 1) = true then 1 else 0) + (if decide (c / 2 ^ 4 % 2 = 1) = true then 1 else 0) + (if decide (c / 2 ^ 5 % 2 = 1) = true then 1 else 0) + (if decide (c / 2 ^ 6 % 2 = 1) = true then 1 else 0) + (if decide (c / 2 ^ 7 % 2 = 1) = true then 1 else 0) = bits8 c
  rw [q, q, q, q, q, q, q, q]
  unfold bits8
  simp only [Nat.pow_zero, Nat.div_one, Nat.zero_add, show (2 : Nat) ^ 1 = 2 from rfl, show (2 : Nat) ^ 2 = 4 from rfl, show (2 : Nat) ^ 3 = 8 from rfl, show (2 : Nat) ^ 4 = 16 from rfl, show (2 : Nat) ^ 5 = 32 from rfl, show (2 : Nat) ^ 6 = 64 from rfl, show (2 : Nat) ^ 7 = 128 from rfl]
theorem pop_ok (x : Nat) (h : x < 2 ^ 64) : pop64 x % 128 = cn (fun b => x.testBit b) 64 := by
  obtain ⟨-, -, h2, h3⟩ := pop_steps x h
  unfold pop64
  dsimp only
  rw [h2, h3, bits_cn]
  exact pop_sum _ (fun i => bits8_le _)
