section CNT
theorem sumb_one {f : Nat → Bool} {a : Nat} (ha : f a = false) : ∀ n, sumb (fun d => f d || decide (d = a)) n = sumb f n + (if a < n then 1 else 0) := by
  intro n
  induction n with
  | zero => rfl
  | succ n ih =>
    show sumb (fun d => f d || decide (d = a)) n + (if (f n || decide (n = a)) then 1 else 0) = sumb f n + (if f n then 1 else 0) + _
    rw [ih]
    by_cases e : n = a
    · subst e
      rw [ha, decide_eq_true rfl, if_neg (Nat.lt_irrefl _), if_pos (Nat.lt_succ_self _)]
      simp
    · rw [decide_eq_false e, Bool.or_false]
      by_cases l : a < n
      · rw [if_pos l, if_pos (show a < n + 1 by omega)]; omega
      · rw [if_neg l, if_neg (show ¬ a < n + 1 by omega)]; omega
theorem sumb_z {f : Nat → Bool} : ∀ n, (∀ i, i < n → f i = false) → sumb f n = 0 := by
  intro n
  induction n with
  | zero => exact fun _ => rfl
  | succ n ih =>
    intro h
    show sumb f n + (if f n then 1 else 0) = 0
    rw [ih (fun i hi => h i (by omega)), h n (by omega)]
    rfl
theorem sumb_add {f : Nat → Bool} (m : Nat) : ∀ n, sumb f (m + n) = sumb f m + sumb (fun i => f (m + i)) n := by
  intro n
  induction n with
  | zero => rfl
  | succ n ih =>
    show sumb f (m + n) + (if f (m + n) then 1 else 0) = sumb f m + (sumb (fun i => f (m + i)) n + (if f (m + n) then 1 else 0))
    rw [ih]
    omega
theorem sumb_lt {f : Nat → Bool} {a b : Nat} (hab : a < b) (ha : f a = true) : sumb f a < sumb f b := by
  obtain ⟨k, rfl⟩ : ∃ k, b = a + 1 + k := ⟨b - a - 1, by omega⟩
  rw [sumb_add (a + 1) k]
  show sumb f a < sumb f a + (if f a then 1 else 0) + _
  rw [ha, if_pos rfl]
  omega
variable {C : Nat → Nat} {x : Int32}
/-- how many codes below one -/
theorem ph_cnt (c : Nat) (hc : c ≤ 192) : ∀ n, (∀ k, k < n → C k < 192) → cinj n C → sumb (t3b (ph C x n)) c = sumb (fun k => ib x k && decide (C k < c)) n := by
  intro n
  induction n with
  | zero =>
    intro _ _
    exact sumb_z c (fun i hi => by
      show t3b ((0, 0, 0) : T3) i = false
      unfold t3b
      rw [lb_0]
      simp)
  | succ n ih =>
    intro hC hi
    have hC' : ∀ k, k < n → C k < 192 := fun k hk => hC k (by omega)
    have ih := ih hC' (fun i j a b e => hi i j (by omega) (by omega) e)
    show sumb (t3b (if ib x n then t3or (ph C x n) (t3of (C n)) else ph C x n)) c = sumb (fun k => ib x k && decide (C k < c)) n + (if (ib x n && decide (C n < c)) then 1 else 0)
    cases hx : ib x n with
    | false =>
      rw [if_neg (by simp), ih, Bool.false_and, if_neg (by simp)]
      rfl
    | true =>
      rw [if_pos rfl, ← ih, Bool.true_and]
      have hno : t3b (ph C x n) (C n) = false := bn_f (fun z => by
        obtain ⟨k, h1, h2, h3⟩ := (t3b_ph (hC n (by omega)) n hC').mp z
        have := hi k n (by omega) (by omega) h3
        omega)
      rw [sumb_cg (g := fun d => t3b (ph C x n) d || decide (d = C n)) c (fun i hi => by rw [t3b_or, t3b_of (hC n (by omega)) (by omega)]), sumb_one hno]
      by_cases l : C n < c
      · rw [if_pos l, decide_eq_true l, if_pos rfl]
      · rw [if_neg l, decide_eq_false l, if_neg (by simp)]
theorem pcn_cnt (t : T3) : pcn t = nI (sumb (t3b t) 192) := by
  unfold pcn
  rw [bcl_cnt, bcl_cnt, bcl_cnt, show (0 : Int32) = nI 0 from rfl, nI_add, nI_add, nI_add]
  have e0 : sumb (lb t.1) 64 = sumb (t3b t) 64 := sumb_cg 64 (fun i hi => (t3b_0 t hi).symm)
  have e1 : sumb (lb t.2.1) 64 = sumb (fun i => t3b t (64 + i)) 64 := sumb_cg 64 (fun i hi => (t3b_1 t hi).symm)
  have e2 : sumb (lb t.2.2) 64 = sumb (fun i => t3b t (64 + 64 + i)) 64 := sumb_cg 64 (fun i hi => (t3b_2 t hi).symm)
  rw [show sumb (t3b t) 192 = sumb (t3b t) (64 + 64 + 64) from rfl, sumb_add (64 + 64) 64, sumb_add 64 64, Nat.zero_add, e0, e1, e2]
theorem cn31_cnt (x : Int32) : ∀ k, k ≤ 31 → cn31 x k = nI (sumb (ib x) k) := by
  intro k
  induction k with
  | zero => intro _; rfl
  | succ k ih =>
    intro hk
    show cn31 x k + ((x >>> (nI k &&& 31)) &&& 1) = nI (sumb (ib x) k + (if ib x k then 1 else 0))
    rw [ih (by omega), ib_tst (by omega), ← nI_add]
    cases ib x k <;> rfl
theorem cn31_gm {n : Nat} (hn : n ≤ 31) (hx : gm n x) : cn31 x 31 = nI (sumb (ib x) n) := by
  rw [cn31_cnt x 31 (by omega), show 31 = n + (31 - n) by omega, sumb_add n (31 - n), sumb_z (f := fun i => ib x (n + i)) (31 - n) (fun i hi => hx (n + i) (by omega))]
  rfl
theorem pcn_cn31 {n : Nat} (hn : n ≤ 30) (hC : ∀ k, k < n → C k < 144) (hi : cinj n C) (hx : gm n x) : pcn (ph C x n) = nI (sumb (ib x) n) ∧ cn31 x 31 = nI (sumb (ib x) n) := by
  refine ⟨?_, cn31_gm (by omega) hx⟩
  rw [pcn_cnt, ph_cnt 192 (Nat.le_refl _) n (fun k hk => by have := hC k hk; omega) hi]
  congr 1
  exact sumb_cg n (fun k hk => by rw [decide_eq_true (show C k < 192 by have := hC k hk; omega), Bool.and_true])
theorem bci_cn31 : ∀ d, d < 256 → bci (nI d) = cn31 (nI d) 31 := by decide +kernel
theorem cn31_8 : ∀ d, d < 256 → sumb (ib (nI d)) 31 ≤ 8 := by decide +kernel
theorem mcn_cnt (z : Int64) : ∀ k, k ≤ 64 → mcn z k = nI (sumb (lb z) k) := by
  have h1 : ∀ a, a < 65 → ((nI a).toInt64 + 1).toInt32 = nI (a + 1) := by decide +kernel
  have h0 : ∀ a, a < 65 → ((nI a).toInt64 + 0).toInt32 = nI a := by decide +kernel
  intro k
  induction k with
  | zero => intro _; rfl
  | succ k ih =>
    intro hk
    have hb : (z >>> ((nI k).toInt64 &&& 63)) &&& 1 = if lb z k then 1 else 0 := by
      apply lb_ext
      intro i hi
      rw [lb_and, lb_1]
      have e0 : lb (z >>> ((nI k).toInt64 &&& 63)) 0 = lb z k := by
        unfold lb
        rw [Int64.toBitVec_shiftRight]
        show (z.toBitVec.sshiftRight (((nI k).toInt64 &&& 63).toBitVec.smod 64).toNat).getLsbD 0 = _
        rw [sh_c k (by omega), BitVec.getLsbD_sshiftRight]
        simp [show k < 64 by omega]
      cases hz : lb z k with
      | true =>
        rw [if_pos rfl, lb_1]
        by_cases e : i = 0
        · subst e; rw [e0, hz]; rfl
        · rw [decide_eq_false e, Bool.and_false]
      | false =>
        rw [if_neg (by simp), lb_0]
        by_cases e : i = 0
        · subst e; rw [e0, hz]; rfl
        · rw [decide_eq_false e, Bool.and_false]
    have hs := sumb_le (lb z) k
    show ((mcn z k).toInt64 + ((z >>> ((nI k).toInt64 &&& 63)) &&& 1)).toInt32 = nI (sumb (lb z) k + (if lb z k then 1 else 0))
    rw [ih (by omega), hb]
    cases lb z k with
    | true => exact h1 _ (by omega)
    | false => exact h0 _ (by omega)
theorem msc_eq (x y : Int64) : cscore x y = msc x y := by
  unfold cscore msc
  rw [bcl_cnt, bcl_cnt, mcn_cnt _ 64 (Nat.le_refl _), mcn_cnt _ 64 (Nat.le_refl _)]
end CNT
