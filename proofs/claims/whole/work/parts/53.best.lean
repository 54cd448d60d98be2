section BST
theorem cs_t3b (B : Nat → Int64) (i : Nat) {c : Nat} (hc : c < 192) : cs B i c = t3b (c3 B i) c := by
  unfold cs t3b c3
  split
  · rename_i e; rw [e]; rfl
  · split
    · rename_i e; rw [e]
    · rw [show c / 64 = 2 by omega]
/-- a rule in the reference and in the class -/
def rul (k d t : Int32) : Prop := (k = 0 ∧ d = 0 ∧ t = 0) ∨ (∃ e : Nat, 1 ≤ e ∧ e ≤ 255 ∧ k = 1 ∧ d = nI e ∧ t = nI e) ∨ (k = 2 ∧ d = 0 ∧ t = 256)
def RuR (A : Nat → Nat → Int32) (T F : Nat → Int32) : Prop := (∀ j, j < 48 → rul (A 5 j) (A 6 j) (T j)) ∧ (∀ e w, e < 8 → w < 3 → (¬ A 7 (3 * e + w) = 0 ↔ ib (F w) e = true))
variable {A : Nat → Nat → Int32} {T F : Nat → Int32}
theorem tcode_l (h : RuR A T F) {w c : Nat} (hw : w < 3) (hc : c < 144) : tcode T F w c = if mlift A w c = true then 0 else T (3 * (c / 9) + w) := by
  unfold tcode mlift
  by_cases h9 : 0 < c % 9
  · have e := h.2 (c % 9 - 1) w (by omega) hw
    rw [ib_tst (show c % 9 - 1 < 32 by omega)]
    cases hb : ib (F w) (c % 9 - 1) with
    | true =>
      rw [if_pos ⟨h9, by rw [if_pos rfl]; decide⟩, if_pos (by rw [decide_eq_true_eq]; exact ⟨h9, e.mpr hb⟩)]
    | false =>
      rw [if_neg (fun z => z.2 (by rw [if_neg (by simp)])), if_neg]
      rw [decide_eq_true_eq]
      exact fun z => by
        have := e.mp z.2
        rw [hb] at this
        cases this
  · rw [if_neg (fun z => h9 z.1), if_neg (by rw [decide_eq_true_eq]; exact fun z => h9 z.1)]
/-- a code's terms as a number -/
def nv (T F : Nat → Int32) (w c : Nat) : Nat := (tcode T F w c).toNatClampNeg
theorem nv_at (h : RuR A T F) {w c : Nat} (hw : w < 3) (hc : c < 144) : tcode T F w c = nI (nv T F w c) ∧ nv T F w c ≤ 256 ∧
    ((mlift A w c = true ∧ nv T F w c = 0) ∨ (mlift A w c = false ∧ A 5 (3 * (c / 9) + w) = 2 ∧ nv T F w c = 256) ∨ (mlift A w c = false ∧ ¬ A 5 (3 * (c / 9) + w) = 2 ∧ nv T F w c ≤ 255 ∧ A 6 (3 * (c / 9) + w) = nI (nv T F w c))) := by
  have e := tcode_l h hw hc
  cases hl : mlift A w c with
  | true =>
    rw [hl, if_pos rfl] at e
    have e2 : nv T F w c = 0 := by unfold nv; rw [e]; rfl
    rw [e2]
    exact ⟨e, by omega, Or.inl ⟨rfl, rfl⟩⟩
  | false =>
    rw [hl, if_neg (by simp)] at e
    rcases h.1 (3 * (c / 9) + w) (by omega) with ⟨a1, a2, a3⟩ | ⟨d, d1, d2, a1, a2, a3⟩ | ⟨a1, a2, a3⟩
    · have e2 : nv T F w c = 0 := by unfold nv; rw [e, a3]; rfl
      rw [e2]
      exact ⟨e.trans a3, by omega, Or.inr (Or.inr ⟨rfl, by rw [a1]; decide, by omega, a2⟩)⟩
    · have e2 : nv T F w c = d := by unfold nv; rw [e, a3, nI_clamp (by omega)]
      rw [e2]
      exact ⟨e.trans a3, by omega, Or.inr (Or.inr ⟨rfl, by rw [a1]; decide, by omega, a2⟩)⟩
    · have e2 : nv T F w c = 256 := by unfold nv; rw [e, a3]; rfl
      rw [e2]
      exact ⟨e.trans a3, by omega, Or.inr (Or.inl ⟨rfl, a1, rfl⟩)⟩
theorem nI_or (a b : Nat) : nI a ||| nI b = nI (a ||| b) := by
  apply Int32.toBitVec_inj.mp
  rw [Int32.toBitVec_or]
  show BitVec.ofNat 32 a ||| BitVec.ofNat 32 b = BitVec.ofNat 32 (a ||| b)
  apply BitVec.eq_of_toNat_eq
  rw [BitVec.toNat_or, BitVec.toNat_ofNat, BitVec.toNat_ofNat, BitVec.toNat_ofNat]
  exact (Nat.or_mod_two_pow (n := 32)).symm
def kj (T F : Nat → Int32) (w : Nat) (x : Int32) (C : Nat → Nat) : Nat → Nat
  | 0 => 0
  | k + 1 => if ib x k then kj T F w x C k ||| nv T F w (C k) else kj T F w x C k
def tjn (T F : Nat → Int32) (w : Nat) (S : Nat → Bool) : Nat → Nat
  | 0 => 0
  | c + 1 => if S c then tjn T F w S c ||| nv T F w c else tjn T F w S c
variable {w : Nat} {x : Int32} {C : Nat → Nat} {n : Nat}
theorem tjoin_n (h : RuR A T F) (hw : w < 3) (S : Nat → Bool) : ∀ m, m ≤ 144 → tjoin S T F w m = nI (tjn T F w S m) ∧ tjn T F w S m < 512 := by
  intro m
  induction m with
  | zero => intro _; exact ⟨rfl, by show 0 < 512; omega⟩
  | succ m ih =>
    intro hm
    obtain ⟨i1, i2⟩ := ih (by omega)
    obtain ⟨a1, a2, -⟩ := nv_at h hw (show m < 144 by omega)
    show (if S m then tjoin S T F w m ||| tcode T F w m else tjoin S T F w m) = nI (if S m then tjn T F w S m ||| nv T F w m else tjn T F w S m) ∧ (if S m then tjn T F w S m ||| nv T F w m else tjn T F w S m) < 512
    cases S m with
    | true =>
      rw [if_pos rfl, if_pos rfl, i1, a1, nI_or]
      exact ⟨rfl, Nat.or_lt_two_pow (n := 9) i2 (by omega)⟩
    | false => rw [if_neg (by simp), if_neg (by simp)]; exact ⟨i1, i2⟩
theorem tjn_bit (S : Nat → Bool) (b : Nat) : ∀ m, (tjn T F w S m).testBit b = true ↔ ∃ c, c < m ∧ S c = true ∧ (nv T F w c).testBit b = true := by
  intro m
  induction m with
  | zero =>
    constructor
    · intro h; rw [show tjn T F w S 0 = 0 from rfl, Nat.zero_testBit] at h; cases h
    · rintro ⟨c, h, -⟩; omega
  | succ m ih =>
    show (if S m then tjn T F w S m ||| nv T F w m else tjn T F w S m).testBit b = true ↔ _
    cases hS : S m with
    | true =>
      rw [if_pos rfl, Nat.testBit_or, Bool.or_eq_true, ih]
      constructor
      · rintro (⟨c, h1, h2, h3⟩ | h)
        · exact ⟨c, by omega, h2, h3⟩
        · exact ⟨m, by omega, hS, h⟩
      · rintro ⟨c, h1, h2, h3⟩
        by_cases e : c = m
        · subst e; exact Or.inr h3
        · exact Or.inl ⟨c, by omega, h2, h3⟩
    | false =>
      rw [if_neg (by simp), ih]
      constructor
      · rintro ⟨c, h1, h2, h3⟩; exact ⟨c, by omega, h2, h3⟩
      · rintro ⟨c, h1, h2, h3⟩
        by_cases e : c = m
        · subst e; rw [hS] at h2; cases h2
        · exact ⟨c, by omega, h2, h3⟩
theorem kj_bit (b : Nat) : ∀ m, (kj T F w x C m).testBit b = true ↔ ∃ k, k < m ∧ ib x k = true ∧ (nv T F w (C k)).testBit b = true := by
  intro m
  induction m with
  | zero =>
    constructor
    · intro h; rw [show kj T F w x C 0 = 0 from rfl, Nat.zero_testBit] at h; cases h
    · rintro ⟨c, h, -⟩; omega
  | succ m ih =>
    show (if ib x m then kj T F w x C m ||| nv T F w (C m) else kj T F w x C m).testBit b = true ↔ _
    cases hS : ib x m with
    | true =>
      rw [if_pos rfl, Nat.testBit_or, Bool.or_eq_true, ih]
      constructor
      · rintro (⟨c, h1, h2, h3⟩ | h)
        · exact ⟨c, by omega, h2, h3⟩
        · exact ⟨m, by omega, hS, h⟩
      · rintro ⟨c, h1, h2, h3⟩
        by_cases e : c = m
        · subst e; exact Or.inr h3
        · exact Or.inl ⟨c, by omega, h2, h3⟩
    | false =>
      rw [if_neg (by simp), ih]
      constructor
      · rintro ⟨c, h1, h2, h3⟩; exact ⟨c, by omega, h2, h3⟩
      · rintro ⟨c, h1, h2, h3⟩
        by_cases e : c = m
        · subst e; rw [hS] at h2; cases h2
        · exact ⟨c, by omega, h2, h3⟩
theorem tjn_kj {S : Nat → Bool} (hC : ∀ k, k < n → C k < 144) (hS : ∀ c, c < 144 → (S c = true ↔ ∃ k, k < n ∧ ib x k = true ∧ C k = c)) : tjn T F w S 144 = kj T F w x C n := by
  apply Nat.eq_of_testBit_eq
  intro b
  refine bool_iff ?_
  rw [tjn_bit, kj_bit]
  constructor
  · rintro ⟨c, h1, h2, h3⟩
    obtain ⟨k, k1, k2, rfl⟩ := (hS c h1).mp h2
    exact ⟨k, k1, k2, h3⟩
  · rintro ⟨k, k1, k2, k3⟩
    exact ⟨C k, hC k k1, (hS _ (hC k k1)).mpr ⟨k, k1, k2, rfl⟩, k3⟩
theorem or_256 {a : Nat} (h : a < 512) : 256 ≤ a ||| 256 := Nat.right_le_or
theorem mdut_kj (h : RuR A T F) (hw : w < 3) {p i : Nat} (hx : A 13 (20 * p + i) = x) (hn : n ≤ 30) (hA : ∀ k, k < n → A 11 (30 * p + k) = nI (C k)) (hC : ∀ k, k < n → C k < 144) : ∀ k, k ≤ n → kj T F w x C k < 512 ∧ mdut A p i w k = if kj T F w x C k < 256 then some (nI (kj T F w x C k)) else none := by
  intro k
  induction k with
  | zero => intro _; exact ⟨by show 0 < 512; omega, rfl⟩
  | succ k ih =>
    intro hk
    obtain ⟨i1, i2⟩ := ih (by omega)
    obtain ⟨a1, a2, a3⟩ := nv_at h hw (hC k (by omega))
    have hcl : (A 11 (30 * p + k)).toNatClampNeg = C k := by rw [hA k (by omega), nI_clamp (by have := hC k (by omega); omega)]
    have hm : mdut A p i w (k + 1) = match mdut A p i w k with
      | none => none
      | some a => if (x >>> (nI k &&& 31)) &&& 1 = 0 ∨ mlift A w (C k) = true then some a else if A 5 (3 * (C k / 9) + w) = 2 then none else some (a ||| A 6 (3 * (C k / 9) + w)) := by
      show (match mdut A p i w k with
        | none => none
        | some a => if (A 13 (20 * p + i) >>> (nI k &&& 31)) &&& 1 = 0 ∨ mlift A w (A 11 (30 * p + k)).toNatClampNeg = true then some a else if A 5 (3 * ((A 11 (30 * p + k)).toNatClampNeg / 9) + w) = 2 then none else some (a ||| A 6 (3 * ((A 11 (30 * p + k)).toNatClampNeg / 9) + w))) = _
      rw [hcl, hx]
    have hkj : kj T F w x C (k + 1) = if ib x k then kj T F w x C k ||| nv T F w (C k) else kj T F w x C k := rfl
    rw [hm, i2, hkj, ib_tst (show k < 32 by omega)]
    generalize kj T F w x C k = j at *
    cases hb : ib x k with
    | false =>
      simp only [Bool.false_eq_true, if_false]
      refine ⟨i1, ?_⟩
      by_cases hj : j < 256
      · rw [if_pos hj]
        show (if _ then _ else _) = _
        rw [if_pos (Or.inl trivial)]
      · rw [if_neg hj]
    | true =>
      simp only [if_true]
      have hlt : j ||| nv T F w (C k) < 512 := Nat.or_lt_two_pow (n := 9) i1 (by omega)
      refine ⟨hlt, ?_⟩
      by_cases hj : j < 256
      · rw [if_pos hj]
        show (if _ then _ else _) = _
        rcases a3 with ⟨b1, b2⟩ | ⟨b1, b2, b3⟩ | ⟨b1, b2, b3, b4⟩
        · rw [if_pos (Or.inr b1), b2, Nat.or_zero, if_pos hj]
        · rw [if_neg (fun z => z.elim (by decide) (by rw [b1]; simp)), if_pos b2, b3, if_neg (by have := or_256 i1; omega)]
        · rw [if_neg (fun z => z.elim (by decide) (by rw [b1]; simp)), if_neg b2, b4, nI_or, if_pos (Nat.or_lt_two_pow (n := 8) hj (by omega))]
      · rw [if_neg hj]
        show none = _
        rw [if_neg]
        have : j ≤ j ||| nv T F w (C k) := Nat.left_le_or
        omega
/-- a package's normal form in the class and in the reference -/
def PF (A : Nat → Nat → Int32) (p n' : Nat) (B : Nat → Int64) (C : Nat → Nat) (n : Nat) (R : List Int32) : Prop :=
  n' = R.length ∧ GR n R ∧ n ≤ 30 ∧ (∀ k, k < n → C k < 144 ∧ A 11 (30 * p + k) = nI (C k)) ∧ cinj n C ∧ (∀ i, i < R.length → A 13 (20 * p + i) = gd R i ∧ c3 B i = ph C (gd R i) n) ∧ A 10 p = nI n ∧ A 12 p = nI R.length
variable {p n' : Nat} {B : Nat → Int64} {R : List Int32}
theorem PF_S (h : PF A p n' B C n R) {i c : Nat} (hi : i < R.length) (hc : c < 192) : cs B i c = true ↔ ∃ k, k < n ∧ ib (gd R i) k = true ∧ C k = c := by
  obtain ⟨h1, h2, h3, h4, h5, h6, -⟩ := h
  rw [cs_t3b _ _ hc, (h6 i hi).2]
  exact t3b_ph hc n (fun k hk => by have := (h4 k hk).1; omega)
theorem DJ (h : RuR A T F) (hw : w < 3) (hP : PF A p n' B C n R) {i : Nat} (hi : i < R.length) : (mdut A p i w n = none ∧ ¬ tjoin (cs B i) T F w 144 < 256) ∨ (∃ d, d < 256 ∧ mdut A p i w n = some (nI d) ∧ tjoin (cs B i) T F w 144 = nI d) := by
  obtain ⟨h1, h2, h3, h4, h5, h6, -⟩ := id hP
  obtain ⟨a1, a2⟩ := tjoin_n h hw (cs B i) 144 (Nat.le_refl _)
  have e := tjn_kj (T := T) (F := F) (w := w) (S := cs B i) (x := gd R i) (C := C) (n := n) (fun k hk => (h4 k hk).1) (fun c hc => PF_S hP hi (by omega))
  obtain ⟨b1, b2⟩ := mdut_kj h hw (h6 i hi).1 h3 (fun k hk => (h4 k hk).2) (fun k hk => (h4 k hk).1) n (Nat.le_refl _)
  rw [a1, e]
  rw [b2]
  by_cases hj : kj T F w (gd R i) C n < 256
  · rw [if_pos hj]
    exact Or.inr ⟨_, hj, rfl, rfl⟩
  · rw [if_neg hj]
    exact Or.inl ⟨rfl, fun z => hj ((nI_ltI (by omega) (by omega)).mp (show nI _ < nI 256 from z))⟩
theorem best_eq (h : RuR A T F) (hw : w < 3) (hP : PF A p n' B C n R) : ∀ i, i ≤ R.length → (cbest B T F w i).1 = (mbest A p w n i).1 ∧ ((cbest B T F w i).1 = -1 ∨ ∃ a b, a ≤ 8 ∧ b ≤ 30 ∧ (cbest B T F w i).2 = nI (145 * a + b) ∧ (mbest A p w n i).2 = nI (100 * a + b)) ∧ ((cbest B T F w i).1 = -1 ∨ ∃ j, j < i ∧ (cbest B T F w i).1 = nI j ∧ ∃ d, d < 256 ∧ mdut A p j w n = some (nI d) ∧ tjoin (cs B j) T F w 144 = nI d) := by
  obtain ⟨h1, h2, h3, h4, h5, h6, -⟩ := id hP
  intro i
  induction i with
  | zero => intro _; exact ⟨rfl, Or.inl rfl, Or.inl rfl⟩
  | succ i ih =>
    intro hi
    obtain ⟨i1, i2, i3⟩ := ih (by omega)
    have keep : ((cbest B T F w i).1 = -1 ∨ ∃ j, j < i + 1 ∧ (cbest B T F w i).1 = nI j ∧ ∃ d, d < 256 ∧ mdut A p j w n = some (nI d) ∧ tjoin (cs B j) T F w 144 = nI d) := i3.elim Or.inl (fun ⟨j, j1, j2, j3⟩ => Or.inr ⟨j, by omega, j2, j3⟩)
    rw [cbest_s, mbest_s]
    rcases DJ h hw hP (show i < R.length by omega) with ⟨d1, d2⟩ | ⟨d, d0, d1, d2⟩
    · rw [d1, if_neg (fun z => d2 z.1), if_pos (show mdv none = -1 ∨ _ from Or.inl rfl)]
      exact ⟨i1, i2, keep⟩
    · have hgm : gm n (gd R i) := h2.2.1 _ (gd_mem (by omega))
      obtain ⟨p1, p2⟩ := pcn_cn31 h3 (fun k hk => (h4 k hk).1) h5 hgm
      have hb := sumb_le (ib (gd R i)) n
      have ha := cn31_8 d d0
      have ec : cwt B T F w i = nI (145 * sumb (ib (nI d)) 31 + sumb (ib (gd R i)) n) := by
        unfold cwt
        rw [d2, bci_cn31 d d0, cn31_cnt _ 31 (Nat.le_refl _), (h6 i (by omega)).2, p1, show (145 : Int32) = nI 145 from rfl, pk_mul, nI_add, Nat.mul_comm]
      have em : mwt A p w n i = nI (100 * sumb (ib (nI d)) 31 + sumb (ib (gd R i)) n) := by
        unfold mwt
        rw [d1]
        show 100 * cn31 (nI d) 31 + _ = _
        rw [cn31_cnt _ 31 (Nat.le_refl _), (h6 i (by omega)).1, p2, show (100 : Int32) = nI 100 from rfl, pk_mul, nI_add]
      have hnew : (nI i = (-1 : Int32) ∨ ∃ a b, a ≤ 8 ∧ b ≤ 30 ∧ cwt B T F w i = nI (145 * a + b) ∧ mwt A p w n i = nI (100 * a + b)) ∧ (nI i = (-1 : Int32) ∨ ∃ j, j < i + 1 ∧ nI i = nI j ∧ ∃ d, d < 256 ∧ mdut A p j w n = some (nI d) ∧ tjoin (cs B j) T F w 144 = nI d) := ⟨Or.inr ⟨_, _, ha, by omega, ec, em⟩, Or.inr ⟨i, by omega, rfl, d, d0, d1, d2⟩⟩
      have hl : tjoin (cs B i) T F w 144 < 256 := by rw [d2]; exact (nI_ltI (b := 256) (by omega) (by omega)).mpr d0
      have hm1 : ¬ mdv (mdut A p i w n) = -1 := by rw [d1]; exact nI_nm1 (by omega)
      by_cases hc : (cbest B T F w i).1 = -1
      · rw [if_pos ⟨hl, Or.inl hc⟩, if_neg (fun z => z.elim hm1 (fun y => y.1 (by rw [← i1]; exact hc)))]
        exact ⟨rfl, hnew⟩
      · obtain ⟨a, b, l1, l2, e1, e2⟩ := i2.resolve_left hc
        by_cases hlt : 145 * sumb (ib (nI d)) 31 + sumb (ib (gd R i)) n < 145 * a + b
        · rw [if_pos ⟨hl, Or.inr (by rw [ec, e1]; exact nI_lt hlt (by omega))⟩, if_neg (fun z => z.elim hm1 (fun y => by
            have := y.2
            rw [em, e2, nI_leI (by omega) (by omega)] at this
            omega))]
          exact ⟨rfl, hnew⟩
        · rw [if_neg (fun z => z.2.elim hc (fun y => hlt (by rw [ec, e1, nI_ltI (by omega) (by omega)] at y; exact y))), if_pos (Or.inr ⟨by rw [← i1]; exact hc, by rw [em, e2]; exact nI_le (by omega) (by omega)⟩)]
          exact ⟨i1, i2, keep⟩
theorem bdut_eq (h : RuR A T F) (hw : w < 3) (hP : PF A p n' B C n R) : bdut B n' T F w = mbd A p w n R.length := by
  have h1 := hP.1
  obtain ⟨i1, i2, i3⟩ := best_eq h hw hP R.length (Nat.le_refl _)
  unfold bdut mbd
  rw [h1]
  by_cases hc : (cbest B T F w R.length).1 = -1
  · rw [if_pos hc, if_pos (by rw [← i1]; exact hc)]
  · obtain ⟨j, j1, j2, d, j3, j4, j5⟩ := i3.resolve_left hc
    have hR := hP.2.1.1
    rw [if_neg hc, if_neg (by rw [← i1]; exact hc), ← i1, j2, nI_clamp (by omega), j4, j5]
    rfl
/-- what a review says of a package -/
theorem jk_eq (h : RuR A T F) (hw : w < 3) (hP : PF A p n' B C n R) {pm cm : Nat → Nat} (e1 : pm p = n) (e2 : cm p = R.length) {ge clk : Int32} (hge : A 17 p = ge) : (if n' = 0 then ((0, 0) : Int32 × Int32) else jk B n' T F w ge clk) = mk2 A clk pm cm p w := by
  have h1 := hP.1
  obtain ⟨i1, i2, i3⟩ := best_eq h hw hP R.length (Nat.le_refl _)
  have hb := bdut_eq h hw hP
  unfold mk2
  rw [e1, e2, hge, ← hb, ← i1]
  unfold bdut jk
  rw [h1]
  by_cases h0 : R.length = 0
  · rw [if_pos h0, h0]
    rfl
  · rw [if_neg h0]
    by_cases hc : (cbest B T F w R.length).1 = -1
    · have h0' : 0 < R.length := by omega
      simp [hc, h0']
    · simp [hc]
end BST
