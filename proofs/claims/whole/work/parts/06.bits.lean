theorem hu_ne {α : Type} {f : Nat → α} {a b : Nat} {v x : α} (hn : b ≠ a) (h : f b = x) : va_up f a v b = x := by rw [va_up_ne _ _ hn]; exact h
theorem hu_uu {α : Type} {f : Nat → α} {a : Nat} {v w : α} : va_up (va_up f a v) a w = va_up f a w := by
  funext j
  by_cases e : j = a
  · subst e; rw [va_up_self, va_up_self]
  · rw [va_up_ne _ _ e, va_up_ne _ _ e, va_up_ne _ _ e]
theorem hu_self {α : Type} {f : Nat → α} {a : Nat} {v : α} (h : f a = v) : va_up f a v = f := by
  funext j
  by_cases e : j = a
  · subst e; rw [va_up_self, h]
  · rw [va_up_ne _ _ e]
theorem hu_comm {α : Type} {f : Nat → α} {a b : Nat} {v w : α} (hn : a ≠ b) : va_up (va_up f a v) b w = va_up (va_up f b w) a v := by
  funext j
  by_cases e : j = a
  · subst e; rw [va_up_ne _ _ hn, va_up_self, va_up_self]
  · by_cases e2 : j = b
    · subst e2; rw [va_up_self, va_up_ne _ _ e, va_up_self]
    · rw [va_up_ne _ _ e2, va_up_ne _ _ e, va_up_ne _ _ e, va_up_ne _ _ e2]
/-- bits of a long -/
def lb (x : Int64) (i : Nat) : Bool := x.toBitVec.getLsbD i
theorem lb_ext {x y : Int64} (h : ∀ i, i < 64 → lb x i = lb y i) : x = y := Int64.toBitVec_inj.mp (BitVec.eq_of_getLsbD_eq (fun i hi => h i hi))
theorem lb_or (x y : Int64) (i : Nat) : lb (x ||| y) i = (lb x i || lb y i) := by unfold lb; rw [Int64.toBitVec_or, BitVec.getLsbD_or]
theorem lb_and (x y : Int64) (i : Nat) : lb (x &&& y) i = (lb x i && lb y i) := by unfold lb; rw [Int64.toBitVec_and, BitVec.getLsbD_and]
theorem lb_xor (x y : Int64) (i : Nat) : lb (x ^^^ y) i = (lb x i ^^ lb y i) := by unfold lb; rw [Int64.toBitVec_xor, BitVec.getLsbD_xor]
theorem lb_big {x : Int64} {i : Nat} (h : 64 ≤ i) : lb x i = false := BitVec.getLsbD_of_ge _ _ h
theorem lb_0 (i : Nat) : lb 0 i = false := BitVec.getLsbD_zero
theorem lb_m1 : ∀ i, i < 64 → lb (-1) i = true := by decide +kernel
theorem sh_cu : ∀ k, k < 64 → ((nI k).toInt64.toUInt64 &&& Int64.toUInt64 63) = UInt64.ofNat k := by decide +kernel
theorem sh_c : ∀ k, k < 64 → (((nI k).toInt64 &&& 63).toBitVec.smod 64).toNat = k := by decide +kernel
theorem lb_ush {k : Nat} (hk : k < 64) (x : Int64) (i : Nat) : lb ((x.toUInt64 >>> ((nI k).toInt64.toUInt64 &&& Int64.toUInt64 63)).toInt64) i = lb x (k + i) := by
  rw [sh_cu k hk]
  show (x.toUInt64 >>> UInt64.ofNat k).toBitVec.getLsbD i = x.toUInt64.toBitVec.getLsbD (k + i)
  rw [UInt64.toBitVec_shiftRight]
  have e : ((UInt64.ofNat k).toBitVec % 64).toNat = k := by
    rw [BitVec.toNat_umod]
    show (BitVec.ofNat 64 k).toNat % 64 = k
    rw [BitVec.toNat_ofNat]
    omega
  show (x.toUInt64.toBitVec >>> ((UInt64.ofNat k).toBitVec % 64).toNat).getLsbD i = _
  rw [e, BitVec.getLsbD_ushiftRight]
theorem lb_1 (i : Nat) : lb 1 i = decide (i = 0) := by
  rcases Nat.lt_or_ge i 64 with h | h
  · exact (by decide +kernel : ∀ i, i < 64 → lb 1 i = decide (i = 0)) i h
  · rw [lb_big h, decide_eq_false (by omega)]
theorem lb_tst {k : Nat} (hk : k < 64) (x : Int64) : ((x.toUInt64 >>> ((nI k).toInt64.toUInt64 &&& Int64.toUInt64 63)).toInt64 &&& 1) = 0 ↔ lb x k = false := by
  constructor
  · intro e
    have t := congrArg (fun z => lb z 0) e
    simp only [lb_and, lb_ush hk, lb_1, lb_0] at t
    simpa using t
  · intro e
    apply lb_ext
    intro i hi
    rw [lb_and, lb_ush hk, lb_1, lb_0]
    by_cases z : i = 0
    · subst z; simp [e]
    · simp [z]
theorem lb_shl1 {k : Nat} (hk : k < 64) (i : Nat) : lb ((1 : Int64) <<< ((nI k).toInt64 &&& 63)) i = decide (i = k) := by
  unfold lb
  rw [Int64.toBitVec_shiftLeft]
  show ((1 : Int64).toBitVec <<< (((nI k).toInt64 &&& 63).toBitVec.smod 64).toNat).getLsbD i = _
  rw [sh_c k hk, BitVec.getLsbD_shiftLeft]
  rcases Nat.lt_or_ge i 64 with h | h
  · by_cases e : i = k
    · subst e
      simp [h]
    · rcases Nat.lt_or_ge i k with h2 | h2
      · simp [h2, e]
      · have : lb 1 (i - k) = false := by rw [lb_1, decide_eq_false (by omega)]
        unfold lb at this
        simp [e, this]
        intro _ _
        omega
  · simp [Nat.not_lt.mpr h]
    omega
theorem lg_cmp0 {x y : Int64} : lg_cmp x y = 0 ↔ x = y := by
  unfold lg_cmp
  constructor
  · intro e
    by_cases h1 : x > y
    · rw [if_pos h1] at e; exact absurd e (by decide)
    · rw [if_neg h1] at e
      by_cases h2 : x = y
      · exact h2
      · rw [if_neg h2] at e; exact absurd e (by decide)
  · intro e
    subst e
    rw [if_neg (by simp), if_pos rfl]
theorem lb_sub {x y : Int64} : (x &&& (y ^^^ (-1))) = 0 ↔ ∀ i, i < 64 → lb x i = true → lb y i = true := by
  constructor
  · intro e i hi hx
    have t := congrArg (fun z => lb z i) e
    simp only [lb_and, lb_xor, lb_m1 i hi, lb_0, hx] at t
    simpa using t
  · intro e
    apply lb_ext
    intro i hi
    rw [lb_and, lb_xor, lb_m1 i hi, lb_0]
    cases hx : lb x i with
    | false => simp
    | true => simp [e i hi hx]
/-- arithmetic on numbered ints -/
theorem nI_3 : (3 : Int32) = nI 3 := rfl
theorem nI_shr6 {c : Nat} (h : c < 2 ^ 31) : nI c >>> ((6 : Int32) &&& 31) = nI (c / 64) := pk_shrN h _ 6 (by decide)
theorem nI_and63 {c : Nat} (h : c < 2 ^ 31) : nI c &&& 63 = nI (c % 64) := by
  have := pk_andN (n := c) (by omega) (m := 63) 6 (by decide)
  exact this
theorem nI_lt_iff {a b : Nat} (ha : a < 2 ^ 31) (hb : b < 2 ^ 31) : nI a < nI b ↔ a < b := nI_ltI ha hb
theorem bn_t {x : Bool} (h : ¬ x = false) : x = true := by cases x <;> first | rfl | exact absurd rfl h
theorem bn_f {x : Bool} (h : ¬ x = true) : x = false := by cases x <;> first | rfl | exact absurd rfl h
