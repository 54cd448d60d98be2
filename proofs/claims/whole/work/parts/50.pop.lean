section POP
theorem and_split {a b c d k : Nat} (ha : a < 2 ^ k) (hc : c < 2 ^ k) : (2 ^ k * b + a) &&& (2 ^ k * d + c) = 2 ^ k * (b &&& d) + (a &&& c) := by
  have hac : a &&& c < 2 ^ k := Nat.and_lt_two_pow a hc
  apply Nat.eq_of_testBit_eq
  intro i
  rw [Nat.testBit_and, Nat.testBit_two_pow_mul_add _ ha, Nat.testBit_two_pow_mul_add _ hc, Nat.testBit_two_pow_mul_add _ hac]
  split
  · rw [Nat.testBit_and]
  · rw [Nat.testBit_and]
theorem and4 {a b c d : Nat} (ha : a < 4) (hc : c < 4) : (4 * b + a) &&& (4 * d + c) = 4 * (b &&& d) + (a &&& c) := and_split (k := 2) ha hc
theorem and16 {a b c d : Nat} (ha : a < 16) (hc : c < 16) : (16 * b + a) &&& (16 * d + c) = 16 * (b &&& d) + (a &&& c) := and_split (k := 4) ha hc
theorem and256 {a b c d : Nat} (ha : a < 256) (hc : c < 256) : (256 * b + a) &&& (256 * d + c) = 256 * (b &&& d) + (a &&& c) := and_split (k := 8) ha hc
def q1 : Nat → Nat
  | 0 => 0
  | n + 1 => 4 * q1 n + 1
def q2 : Nat → Nat
  | 0 => 0
  | n + 1 => 16 * q2 n + 3
def q3 : Nat → Nat
  | 0 => 0
  | n + 1 => 256 * q3 n + 15
def cntb : Nat → Nat → Nat
  | 0, _ => 0
  | n + 1, x => x % 2 + cntb n (x / 2)
/-- sums of digits -/
def dg (B : Nat) : Nat → Nat → Nat
  | 0, _ => 0
  | n + 1, x => x % B + dg B n (x / B)
theorem st1 : ∀ (n x : Nat), x < 4 ^ n → ((x / 2) &&& q1 n) ≤ x ∧ x - ((x / 2) &&& q1 n) < 4 ^ n ∧ dg 4 n (x - ((x / 2) &&& q1 n)) = cntb (2 * n) x ∧ (∀ k, (x - ((x / 2) &&& q1 n)) / 4 ^ k % 4 ≤ 2) := by
  intro n
  induction n with
  | zero =>
    intro x hx
    have : x = 0 := by simp at hx; exact hx
    subst this
    refine ⟨by simp, by simp, rfl, fun k => ?_⟩
    simp [q1]
  | succ n ih =>
    intro x hx
    rw [Nat.pow_succ] at hx
    obtain ⟨h1, h2, h3, h4⟩ := ih (x / 4) (by omega)
    have e : (x / 2) &&& q1 (n + 1) = 4 * ((x / 4 / 2) &&& q1 n) + x % 4 / 2 := by
      have e1 : x / 2 = 4 * (x / 4 / 2) + (x / 2 % 4) := by omega
      rw [e1]
      show (4 * (x / 4 / 2) + x / 2 % 4) &&& (4 * q1 n + 1) = _
      rw [and4 (Nat.mod_lt _ (by decide)) (by decide)]
      congr 1
      have := Nat.and_two_pow_sub_one_eq_mod (x / 2 % 4) 1
      rw [show (2 : Nat) ^ 1 - 1 = 1 from rfl, show (2 : Nat) ^ 1 = 2 from rfl] at this
      rw [this]
      omega
    generalize hy : (x / 4 / 2) &&& q1 n = y at *
    have e2 : x - ((x / 2) &&& q1 (n + 1)) = 4 * (x / 4 - y) + (x % 4 - x % 4 / 2) := by omega
    rw [e2, e]
    refine ⟨by omega, by rw [Nat.pow_succ]; omega, ?_, ?_⟩
    · show (4 * (x / 4 - y) + (x % 4 - x % 4 / 2)) % 4 + dg 4 n ((4 * (x / 4 - y) + (x % 4 - x % 4 / 2)) / 4) = _
      rw [show (4 * (x / 4 - y) + (x % 4 - x % 4 / 2)) / 4 = x / 4 - y by omega, h3, show 2 * (n + 1) = 2 * n + 1 + 1 by omega]
      show _ = x % 2 + (x / 2 % 2 + cntb (2 * n) (x / 2 / 2))
      rw [show x / 2 / 2 = x / 4 by omega]
      omega
    · intro k
      cases k with
      | zero => rw [Nat.pow_zero, Nat.div_one]; omega
      | succ k =>
        rw [Nat.pow_succ', ← Nat.div_div_eq_div_mul, show (4 * (x / 4 - y) + (x % 4 - x % 4 / 2)) / 4 = x / 4 - y by omega]
        exact h4 k
theorem st2 : ∀ (n x : Nat), x < 16 ^ n → (∀ k, x / 4 ^ k % 4 ≤ 2) → (x &&& q2 n) + ((x / 4) &&& q2 n) < 16 ^ n ∧ dg 16 n ((x &&& q2 n) + ((x / 4) &&& q2 n)) = dg 4 (2 * n) x ∧ (∀ k, ((x &&& q2 n) + ((x / 4) &&& q2 n)) / 16 ^ k % 16 ≤ 4) := by
  intro n
  induction n with
  | zero =>
    intro x hx _
    have : x = 0 := by simp at hx; exact hx
    subst this
    refine ⟨by simp, rfl, fun k => ?_⟩
    simp [q2]
  | succ n ih =>
    intro x hx hd
    rw [Nat.pow_succ] at hx
    obtain ⟨h2, h3, h4⟩ := ih (x / 16) (by omega) (fun k => by
      have := hd (k + 2)
      rw [Nat.pow_add, Nat.mul_comm, ← Nat.div_div_eq_div_mul] at this
      exact this)
    have d0 := hd 0
    have d1 := hd 1
    rw [Nat.pow_zero, Nat.div_one] at d0
    rw [Nat.pow_one] at d1
    have m3 : ∀ z, z &&& 3 = z % 4 := fun z => Nat.and_two_pow_sub_one_eq_mod z 2
    have e1 : x &&& q2 (n + 1) = 16 * ((x / 16) &&& q2 n) + x % 4 := by
      have e1 : x = 16 * (x / 16) + x % 16 := by omega
      show x &&& (16 * q2 n + 3) = _
      rw [show x &&& (16 * q2 n + 3) = (16 * (x / 16) + x % 16) &&& (16 * q2 n + 3) by rw [← e1], and16 (Nat.mod_lt _ (by decide)) (by decide), m3]
      omega
    have e2 : (x / 4) &&& q2 (n + 1) = 16 * ((x / 16 / 4) &&& q2 n) + x / 4 % 4 := by
      have e1 : x / 4 = 16 * (x / 16 / 4) + x / 4 % 16 := by omega
      show (x / 4) &&& (16 * q2 n + 3) = _
      rw [show (x / 4) &&& (16 * q2 n + 3) = (16 * (x / 16 / 4) + x / 4 % 16) &&& (16 * q2 n + 3) by rw [← e1], and16 (Nat.mod_lt _ (by decide)) (by decide), m3]
      omega
    rw [e1, e2]
    generalize (x / 16) &&& q2 n = y at *
    generalize (x / 16 / 4) &&& q2 n = z at *
    have e3 : 16 * y + x % 4 + (16 * z + x / 4 % 4) = 16 * (y + z) + (x % 4 + x / 4 % 4) := by omega
    rw [e3]
    refine ⟨by rw [Nat.pow_succ]; omega, ?_, ?_⟩
    · show (16 * (y + z) + (x % 4 + x / 4 % 4)) % 16 + dg 16 n ((16 * (y + z) + (x % 4 + x / 4 % 4)) / 16) = _
      rw [show (16 * (y + z) + (x % 4 + x / 4 % 4)) / 16 = y + z by omega, h3, show 2 * (n + 1) = 2 * n + 1 + 1 by omega]
      show _ = x % 4 + (x / 4 % 4 + dg 4 (2 * n) (x / 4 / 4))
      rw [show x / 4 / 4 = x / 16 by omega]
      omega
    · intro k
      cases k with
      | zero => rw [Nat.pow_zero, Nat.div_one]; omega
      | succ k =>
        rw [Nat.pow_succ', ← Nat.div_div_eq_div_mul, show (16 * (y + z) + (x % 4 + x / 4 % 4)) / 16 = y + z by omega]
        exact h4 k
theorem st3 : ∀ (n x : Nat), x < 256 ^ n → (∀ k, x / 16 ^ k % 16 ≤ 4) → x + x / 16 < 256 ^ n ∧ (x + x / 16) &&& q3 n < 256 ^ n ∧ dg 256 n ((x + x / 16) &&& q3 n) = dg 16 (2 * n) x ∧ (∀ k, ((x + x / 16) &&& q3 n) / 256 ^ k % 256 ≤ 8) := by
  intro n
  induction n with
  | zero =>
    intro x hx _
    have : x = 0 := by simp at hx; exact hx
    subst this
    refine ⟨by simp, by simp, rfl, fun k => ?_⟩
    simp [q3]
  | succ n ih =>
    intro x hx hd
    rw [Nat.pow_succ] at hx
    obtain ⟨h1, h2, h3, h4⟩ := ih (x / 256) (by omega) (fun k => by
      have := hd (k + 2)
      rw [Nat.pow_add, Nat.mul_comm, ← Nat.div_div_eq_div_mul] at this
      exact this)
    have d0 := hd 0
    have d1 := hd 1
    have d2 := hd 2
    rw [Nat.pow_zero, Nat.div_one] at d0
    rw [Nat.pow_one] at d1
    rw [show (16 : Nat) ^ 2 = 256 from rfl] at d2
    have m15 : ∀ z, z &&& 15 = z % 16 := fun z => Nat.and_two_pow_sub_one_eq_mod z 4
    have e0 : x + x / 16 = 256 * (x / 256 + x / 256 / 16) + ((x % 16 + x / 16 % 16) + 16 * (x / 16 % 16 + x / 256 % 16)) := by omega
    have e1 : (x + x / 16) &&& q3 (n + 1) = 256 * ((x / 256 + x / 256 / 16) &&& q3 n) + (x % 16 + x / 16 % 16) := by
      show (x + x / 16) &&& (256 * q3 n + 15) = _
      rw [e0, and256 (by omega) (by decide), m15]
      omega
    rw [e1]
    have e2 : x + x / 16 < 256 ^ n * 256 := by omega
    generalize (x / 256 + x / 256 / 16) &&& q3 n = y at *
    refine ⟨by rw [Nat.pow_succ]; exact e2, by rw [Nat.pow_succ]; omega, ?_, ?_⟩
    · show (256 * y + (x % 16 + x / 16 % 16)) % 256 + dg 256 n ((256 * y + (x % 16 + x / 16 % 16)) / 256) = _
      rw [show (256 * y + (x % 16 + x / 16 % 16)) / 256 = y by omega, h3, show 2 * (n + 1) = 2 * n + 1 + 1 by omega]
      show _ = x % 16 + (x / 16 % 16 + dg 16 (2 * n) (x / 16 / 16))
      rw [show x / 16 / 16 = x / 256 by omega]
      omega
    · intro k
      cases k with
      | zero =>
        rw [Nat.pow_zero, Nat.div_one, Nat.mul_add_mod]
        have : (x % 16 + x / 16 % 16) % 256 ≤ x % 16 + x / 16 % 16 := Nat.mod_le _ _
        omega
      | succ k =>
        rw [Nat.pow_succ', ← Nat.div_div_eq_div_mul, show (256 * y + (x % 16 + x / 16 % 16)) / 256 = y by omega]
        exact h4 k
theorem sh2 {a0 a1 a2 a3 b0 b1 b2 : Nat} (h0 : b0 ≤ 8) (h1 : b1 ≤ 8) (h2 : b2 ≤ 8) (e0 : a0 = 256 * a1 + b0) (e1 : a1 = 256 * a2 + b1) (e2 : a2 = 256 * a3 + b2) : (a0 + a1) / 65536 = a2 + a3 := by omega
theorem sh4 {a0 a1 a2 a3 a4 b0 b1 b2 b3 : Nat} (h0 : b0 ≤ 8) (h1 : b1 ≤ 8) (h2 : b2 ≤ 8) (h3 : b3 ≤ 8) (e0 : a0 = 256 * a1 + b0) (e1 : a1 = 256 * a2 + b1) (e2 : a2 = 256 * a3 + b2) (e3 : a3 = 256 * a4 + b3) : ∃ r, r ≤ 134744072 ∧ a0 = 4294967296 * a4 + r := ⟨b0 + 256 * b1 + 65536 * b2 + 16777216 * b3, by omega, by omega⟩
theorem sh5 {a0 a1 a2 a3 a4 a5 a6 a7 r0 r1 r2 r3 : Nat} (h0 : r0 ≤ 134744072) (h1 : r1 ≤ 134744072) (h2 : r2 ≤ 134744072) (h3 : r3 ≤ 134744072) (e0 : a0 = 4294967296 * a4 + r0) (e1 : a1 = 4294967296 * a5 + r1) (e2 : a2 = 4294967296 * a6 + r2) (e3 : a3 = 4294967296 * a7 + r3) : (a0 + a1 + (a2 + a3)) / 4294967296 = a4 + a5 + (a6 + a7) := by omega
end POP
