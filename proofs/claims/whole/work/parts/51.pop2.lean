section POP2
theorem sumb_0 (f : Nat → Bool) : ∀ n, sumb f (n + 1) = (if f 0 then 1 else 0) + sumb (fun i => f (i + 1)) n := by
  intro n
  induction n with
  | zero => show 0 + (if f 0 then 1 else 0) = (if f 0 then 1 else 0) + 0; rw [Nat.zero_add, Nat.add_zero]
  | succ n ih =>
    show sumb f (n + 1) + (if f (n + 1) then 1 else 0) = _ + (sumb (fun i => f (i + 1)) n + (if f (n + 1) then 1 else 0))
    rw [ih]
    omega
theorem sumb_cg {f g : Nat → Bool} : ∀ n, (∀ i, i < n → f i = g i) → sumb f n = sumb g n := by
  intro n
  induction n with
  | zero => exact fun _ => rfl
  | succ n ih =>
    intro h
    show sumb f n + (if f n then 1 else 0) = sumb g n + (if g n then 1 else 0)
    rw [ih (fun i hi => h i (by omega)), h n (by omega)]
theorem cntb_sum : ∀ (n x : Nat), cntb n x = sumb (fun i => x.testBit i) n := by
  intro n
  induction n with
  | zero => intro x; rfl
  | succ n ih =>
    intro x
    rw [sumb_0]
    show x % 2 + cntb n (x / 2) = _
    rw [ih (x / 2)]
    congr 1
    · rw [Nat.testBit_zero]
      rcases Nat.mod_two_eq_zero_or_one x with e | e <;> rw [e] <;> rfl
    · exact sumb_cg n (fun i _ => by rw [Nat.testBit_succ])
def tn (x : Int64) : Nat := x.toBitVec.toNat
theorem tn_lt (x : Int64) : tn x < 18446744073709551616 := x.toBitVec.isLt
theorem tn_and (x y : Int64) : tn (x &&& y) = tn x &&& tn y := by unfold tn; rw [Int64.toBitVec_and, BitVec.toNat_and]
theorem tn_add {x y : Int64} (h : tn x + tn y < 18446744073709551616) : tn (x + y) = tn x + tn y := by
  unfold tn at *
  rw [Int64.toBitVec_add, BitVec.toNat_add]
  exact Nat.mod_eq_of_lt h
theorem tn_sub {x y : Int64} (h : tn y ≤ tn x) : tn (x - y) = tn x - tn y := by
  have h1 := tn_lt x
  unfold tn at *
  rw [Int64.toBitVec_sub, BitVec.toNat_sub]
  omega
theorem tn_sh {k : Nat} (hk : k < 64) (x : Int64) : tn (bl_s (nI k) x) = tn x / 2 ^ k := by
  unfold bl_s
  rw [sh_cu k hk]
  show (x.toUInt64 >>> UInt64.ofNat k).toBitVec.toNat = x.toUInt64.toBitVec.toNat / 2 ^ k
  rw [UInt64.toBitVec_shiftRight]
  have e : ((UInt64.ofNat k).toBitVec % 64).toNat = k := by
    rw [BitVec.toNat_umod]
    show (BitVec.ofNat 64 k).toNat % 64 = k
    rw [BitVec.toNat_ofNat]
    omega
  show (x.toUInt64.toBitVec >>> ((UInt64.ofNat k).toBitVec % 64).toNat).toNat = _
  rw [e, BitVec.toNat_ushiftRight, Nat.shiftRight_eq_div_pow]
def dgb : Nat → Nat → Prop
  | 0, _ => True
  | n + 1, w => w % 256 ≤ 8 ∧ dgb n (w / 256)
theorem dgb_of : ∀ (n w : Nat), (∀ k, w / 256 ^ k % 256 ≤ 8) → dgb n w := by
  intro n
  induction n with
  | zero => intros; trivial
  | succ n ih =>
    intro w h
    refine ⟨by have := h 0; rw [Nat.pow_zero, Nat.div_one] at this; exact this, ih _ (fun k => ?_)⟩
    have := h (k + 1)
    rw [Nat.pow_succ', ← Nat.div_div_eq_div_mul] at this
    exact this
theorem bsum {w0 w1 w2 w3 w4 w5 w6 w7 v0 v1 v2 v3 v4 v5 v6 v7 : Nat} (d0 : v0 ≤ 8) (d1 : v1 ≤ 8) (d2 : v2 ≤ 8) (d3 : v3 ≤ 8) (d4 : v4 ≤ 8) (d5 : v5 ≤ 8) (d6 : v6 ≤ 8) (d7 : v7 ≤ 8) (f0 : w0 = 256 * w1 + v0) (f1 : w1 = 256 * w2 + v1) (f2 : w2 = 256 * w3 + v2) (f3 : w3 = 256 * w4 + v3) (f4 : w4 = 256 * w5 + v4) (f5 : w5 = 256 * w6 + v5) (f6 : w6 = 256 * w7 + v6) (f7 : w7 = v7) : (w0 + w1) / 65536 = w2 + w3 ∧ (w0 + w1 + (w2 + w3)) / 4294967296 = w4 + w5 + (w6 + w7) ∧ w0 + w1 + (w2 + w3) + (w4 + w5 + (w6 + w7)) < 18446744073709551616 ∧ (w0 + w1 + (w2 + w3) + (w4 + w5 + (w6 + w7))) % 4294967296 % 128 = v0 + (v1 + (v2 + (v3 + (v4 + (v5 + (v6 + v7)))))) := by
  refine ⟨sh2 d0 d1 d2 f0 f1 f2, ?_, ?_, ?_⟩
  · obtain ⟨r0, m0, n0⟩ := sh4 d0 d1 d2 d3 f0 f1 f2 f3
    obtain ⟨r1, m1, n1⟩ := sh4 d1 d2 d3 d4 f1 f2 f3 f4
    obtain ⟨r2, m2, n2⟩ := sh4 d2 d3 d4 d5 f2 f3 f4 f5
    obtain ⟨r3, m3, n3⟩ := sh4 d3 d4 d5 d6 f3 f4 f5 f6
    exact sh5 m0 m1 m2 m3 n0 n1 n2 n3
  · have g7 : w7 ≤ 8 := by rw [f7]; exact d7
    have g6 : w6 ≤ 2056 := by clear f0 f1 f2 f3 f4 f5; omega
    have g5 : w5 ≤ 526344 := by clear f0 f1 f2 f3 f4 f6; omega
    have g4 : w4 ≤ 134744072 := by clear f0 f1 f2 f3 f5 f6; omega
    have g3 : w3 ≤ 34494482440 := by clear f0 f1 f2 f4 f5 f6; omega
    have g2 : w2 ≤ 8830587504648 := by clear f0 f1 f3 f4 f5 f6; omega
    have g1 : w1 ≤ 2260630401189896 := by clear f0 f2 f3 f4 f5 f6; omega
    have g0 : w0 ≤ 578721382704613384 := by clear f1 f2 f3 f4 f5 f6; omega
    clear f0 f1 f2 f3 f4 f5 f6 f7
    omega
  · rw [Nat.mod_mod_of_dvd _ (by decide)]
    have e : w0 + w1 + (w2 + w3) + (w4 + w5 + (w6 + w7)) = 256 * (w1 + w2 + w3 + w4 + w5 + w6 + w7) + (v0 + (v1 + (v2 + (v3 + (v4 + (v5 + (v6 + v7))))))) := by omega
    rw [e]
    clear e f0 f1 f2 f3 f4 f5 f6 f7
    generalize w1 + w2 + w3 + w4 + w5 + w6 + w7 = S
    omega
theorem b8 {w : Nat} (h : dgb 8 w) (hl : w < 18446744073709551616) : ∃ t u v, w + w / 256 = t ∧ t + t / 65536 = u ∧ u + u / 4294967296 = v ∧ t < 18446744073709551616 ∧ u < 18446744073709551616 ∧ v < 18446744073709551616 ∧ v % 4294967296 % 128 = dg 256 8 w := by
  obtain ⟨d0, d1, d2, d3, d4, d5, d6, d7, -⟩ := h
  have e8 : w / 256 / 256 / 256 / 256 / 256 / 256 / 256 / 256 = 0 := by
    simp only [Nat.div_div_eq_div_mul]
    exact Nat.div_eq_of_lt hl
  have ed : dg 256 8 w = w % 256 + (w / 256 % 256 + (w / 256 / 256 % 256 + (w / 256 / 256 / 256 % 256 + (w / 256 / 256 / 256 / 256 % 256 + (w / 256 / 256 / 256 / 256 / 256 % 256 + (w / 256 / 256 / 256 / 256 / 256 / 256 % 256 + w / 256 / 256 / 256 / 256 / 256 / 256 / 256 % 256)))))) := rfl
  rw [ed]
  have f0 : w = 256 * (w / 256) + w % 256 := (Nat.div_add_mod _ _).symm
  have f1 : w / 256 = 256 * (w / 256 / 256) + w / 256 % 256 := (Nat.div_add_mod _ _).symm
  have f2 : w / 256 / 256 = 256 * (w / 256 / 256 / 256) + w / 256 / 256 % 256 := (Nat.div_add_mod _ _).symm
  have f3 : w / 256 / 256 / 256 = 256 * (w / 256 / 256 / 256 / 256) + w / 256 / 256 / 256 % 256 := (Nat.div_add_mod _ _).symm
  have f4 : w / 256 / 256 / 256 / 256 = 256 * (w / 256 / 256 / 256 / 256 / 256) + w / 256 / 256 / 256 / 256 % 256 := (Nat.div_add_mod _ _).symm
  have f5 : w / 256 / 256 / 256 / 256 / 256 = 256 * (w / 256 / 256 / 256 / 256 / 256 / 256) + w / 256 / 256 / 256 / 256 / 256 % 256 := (Nat.div_add_mod _ _).symm
  have f6 : w / 256 / 256 / 256 / 256 / 256 / 256 = 256 * (w / 256 / 256 / 256 / 256 / 256 / 256 / 256) + w / 256 / 256 / 256 / 256 / 256 / 256 % 256 := (Nat.div_add_mod _ _).symm
  have f7 : w / 256 / 256 / 256 / 256 / 256 / 256 / 256 = w / 256 / 256 / 256 / 256 / 256 / 256 / 256 % 256 := by
    have := (Nat.div_add_mod (w / 256 / 256 / 256 / 256 / 256 / 256 / 256) 256).symm
    rw [e8, Nat.mul_zero, Nat.zero_add] at this
    exact this
  obtain ⟨x1, x2, x3, x4⟩ := bsum d0 d1 d2 d3 d4 d5 d6 d7 f0 f1 f2 f3 f4 f5 f6 f7
  refine ⟨_, _, _, rfl, by rw [x1], by rw [x2], ?_, ?_, x3, x4⟩
  · exact Nat.lt_of_le_of_lt (Nat.le_trans (Nat.le_add_right _ _) (Nat.le_add_right _ _)) x3
  · exact Nat.lt_of_le_of_lt (Nat.le_add_right _ _) x3
theorem bcl_cnt (x : Int64) : bcl x = nI (sumb (lb x) 64) := by
  have hx := tn_lt x
  obtain ⟨a1, a2, a3, a4⟩ := st1 32 (tn x) hx
  have t1 : tn (bl_1 x) = tn x - ((tn x / 2) &&& q1 32) := by
    unfold bl_1
    have e : tn (bl_s 1 x &&& 6148914691236517205) = (tn x / 2) &&& q1 32 := by
      rw [tn_and, show (1 : Int32) = nI 1 from rfl, tn_sh (by omega)]
      congr 1
    rw [tn_sub (by rw [e]; exact a1), e]
  rw [← t1] at a2 a3 a4
  obtain ⟨b1, b2, b3⟩ := st2 16 (tn (bl_1 x)) a2 a4
  have t2 : tn (bl_2 (bl_1 x)) = (tn (bl_1 x) &&& q2 16) + ((tn (bl_1 x) / 4) &&& q2 16) := by
    unfold bl_2
    have e1 : tn (bl_1 x &&& 3689348814741910323) = tn (bl_1 x) &&& q2 16 := by
      rw [tn_and]
      congr 1
    have e2 : tn (bl_s 2 (bl_1 x) &&& 3689348814741910323) = (tn (bl_1 x) / 4) &&& q2 16 := by
      rw [tn_and, show (2 : Int32) = nI 2 from rfl, tn_sh (by omega)]
      congr 1
    rw [tn_add (by rw [e1, e2]; exact b1), e1, e2]
  rw [← t2] at b1 b2 b3
  obtain ⟨c1, c2, c3, c4⟩ := st3 8 (tn (bl_2 (bl_1 x))) b1 b3
  have t3 : tn (bl_3 (bl_2 (bl_1 x))) = (tn (bl_2 (bl_1 x)) + tn (bl_2 (bl_1 x)) / 16) &&& q3 8 := by
    unfold bl_3
    have e : tn (bl_s 4 (bl_2 (bl_1 x))) = tn (bl_2 (bl_1 x)) / 16 := by
      rw [show (4 : Int32) = nI 4 from rfl, tn_sh (by omega)]
    rw [tn_and, tn_add (by rw [e]; exact c1), e]
    congr 1
  rw [← t3] at c2 c3 c4
  rw [show 2 * 8 = 16 from rfl, b2, show 2 * 16 = 32 from rfl, a3, show 2 * 32 = 64 from rfl, cntb_sum] at c3
  have es : dg 256 8 (tn (bl_3 (bl_2 (bl_1 x)))) = sumb (lb x) 64 := c3
  unfold bcl
  generalize bl_3 (bl_2 (bl_1 x)) = w at *
  obtain ⟨t, u, v, e1, e2, e3, l1, l2, l3, e4⟩ := b8 (dgb_of 8 _ c4) (tn_lt w)
  rw [es] at e4
  have u1 : tn (bl_4 8 w) = t := by
    have e : tn (bl_s 8 w) = tn w / 256 := by rw [show (8 : Int32) = nI 8 from rfl, tn_sh (by omega)]
    show tn (w + bl_s 8 w) = _
    rw [tn_add (by rw [e, e1]; exact l1), e, e1]
  have u2 : tn (bl_4 16 (bl_4 8 w)) = u := by
    have e : tn (bl_s 16 (bl_4 8 w)) = t / 65536 := by rw [show (16 : Int32) = nI 16 from rfl, tn_sh (by omega), u1]
    show tn (bl_4 8 w + bl_s 16 (bl_4 8 w)) = _
    rw [tn_add (by rw [e, u1, e2]; exact l2), e, u1, e2]
  have u3 : tn (bl_4 32 (bl_4 16 (bl_4 8 w))) = v := by
    have e : tn (bl_s 32 (bl_4 16 (bl_4 8 w))) = u / 4294967296 := by rw [show (32 : Int32) = nI 32 from rfl, tn_sh (by omega), u2]
    show tn (bl_4 16 (bl_4 8 w) + bl_s 32 (bl_4 16 (bl_4 8 w))) = _
    rw [tn_add (by rw [e, u2, e3]; exact l3), e, u2, e3]
  rw [pk_and _ (m := 127) 7 (by decide)]
  have : (bl_4 32 (bl_4 16 (bl_4 8 w))).toInt32.toBitVec.toNat = tn (bl_4 32 (bl_4 16 (bl_4 8 w))) % 4294967296 := by
    rw [Int64.toBitVec_toInt32, BitVec.signExtend_eq_setWidth_of_le _ (by decide), BitVec.toNat_setWidth]
    rfl
  rw [this, u3, show (2 : Nat) ^ 7 = 128 from rfl, e4]
end POP2
