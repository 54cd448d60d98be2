section B32
/-- bits of an int -/
def ib (x : Int32) (i : Nat) : Bool := x.toBitVec.getLsbD i
theorem ib_ext {x y : Int32} (h : ∀ i, i < 32 → ib x i = ib y i) : x = y := Int32.toBitVec_inj.mp (BitVec.eq_of_getLsbD_eq (fun i hi => h i hi))
theorem ib_or (x y : Int32) (i : Nat) : ib (x ||| y) i = (ib x i || ib y i) := by unfold ib; rw [Int32.toBitVec_or, BitVec.getLsbD_or]
theorem ib_and (x y : Int32) (i : Nat) : ib (x &&& y) i = (ib x i && ib y i) := by unfold ib; rw [Int32.toBitVec_and, BitVec.getLsbD_and]
theorem ib_xor (x y : Int32) (i : Nat) : ib (x ^^^ y) i = (ib x i ^^ ib y i) := by unfold ib; rw [Int32.toBitVec_xor, BitVec.getLsbD_xor]
theorem ib_big {x : Int32} {i : Nat} (h : 32 ≤ i) : ib x i = false := BitVec.getLsbD_of_ge _ _ h
theorem ib_0 (i : Nat) : ib 0 i = false := BitVec.getLsbD_zero
theorem ib_m1 : ∀ i, i < 32 → ib (-1) i = true := by decide +kernel
theorem ib_1 (i : Nat) : ib 1 i = decide (i = 0) := by
  rcases Nat.lt_or_ge i 32 with h | h
  · exact (by decide +kernel : ∀ i, i < 32 → ib 1 i = decide (i = 0)) i h
  · rw [ib_big h, decide_eq_false (by omega)]
theorem sh_i : ∀ k, k < 32 → ((nI k &&& 31).toBitVec.smod 32).toNat = k := by decide +kernel
theorem ib_shl1 {k : Nat} (hk : k < 32) (i : Nat) : ib ((1 : Int32) <<< (nI k &&& 31)) i = decide (i = k) := by
  unfold ib
  rw [Int32.toBitVec_shiftLeft]
  show ((1 : Int32).toBitVec <<< ((nI k &&& 31).toBitVec.smod 32).toNat).getLsbD i = _
  rw [sh_i k hk, BitVec.getLsbD_shiftLeft]
  rcases Nat.lt_or_ge i 32 with h | h
  · by_cases e : i = k
    · subst e
      simp [h]
    · rcases Nat.lt_or_ge i k with h2 | h2
      · simp [h2, e]
      · have : ib 1 (i - k) = false := by rw [ib_1, decide_eq_false (by omega)]
        unfold ib at this
        simp [e, this]
        intro _ _
        omega
  · simp [Nat.not_lt.mpr h]
    omega
theorem ib_shr {k : Nat} (hk : k < 32) (x : Int32) : ib (x >>> (nI k &&& 31)) 0 = ib x k := by
  unfold ib
  rw [Int32.toBitVec_shiftRight]
  show (x.toBitVec.sshiftRight ((nI k &&& 31).toBitVec.smod 32).toNat).getLsbD 0 = _
  rw [sh_i k hk, BitVec.getLsbD_sshiftRight]
  simp [hk]
theorem ib_and1 (x : Int32) : x &&& 1 = if ib x 0 then 1 else 0 := by
  apply ib_ext
  intro i hi
  rw [ib_and, ib_1]
  cases h : ib x 0 with
  | true =>
    rw [if_pos rfl, ib_1]
    by_cases e : i = 0
    · subst e; simp [h]
    · simp [e]
  | false =>
    rw [if_neg (by simp), ib_0]
    by_cases e : i = 0
    · subst e; simp [h]
    · simp [e]
theorem ib_tst {k : Nat} (hk : k < 32) (x : Int32) : (x >>> (nI k &&& 31)) &&& 1 = if ib x k then 1 else 0 := by rw [ib_and1, ib_shr hk]
theorem mb_ib {k : Nat} (hk : k < 32) (x : Int32) : mb x k = ib x k := by
  unfold mb
  rw [ib_tst hk]
  cases ib x k <;> decide
theorem ib_sub {x y : Int32} : (x &&& (y ^^^ (-1))) = 0 ↔ ∀ i, i < 32 → ib x i = true → ib y i = true := by
  constructor
  · intro e i hi hx
    have t := congrArg (fun z => ib z i) e
    simp only [ib_and, ib_xor, ib_m1 i hi, ib_0, hx] at t
    simpa using t
  · intro e
    apply ib_ext
    intro i hi
    rw [ib_and, ib_xor, ib_m1 i hi, ib_0]
    cases hx : ib x i with
    | false => simp
    | true => simp [e i hi hx]
/-- one choice within another, as masks -/
def mle (x y : Int32) : Bool := decide ((x &&& (y ^^^ (-1))) = 0)
theorem mle_iff {x y : Int32} : mle x y = true ↔ ∀ i, i < 32 → ib x i = true → ib y i = true := by unfold mle; rw [decide_eq_true_eq]; exact ib_sub
theorem mle_refl (x : Int32) : mle x x = true := mle_iff.mpr (fun _ _ h => h)
theorem mle_tr {x y z : Int32} (h1 : mle x y = true) (h2 : mle y z = true) : mle x z = true := mle_iff.mpr (fun i hi h => mle_iff.mp h2 i hi (mle_iff.mp h1 i hi h))
theorem mle_as {x y : Int32} (h1 : mle x y = true) (h2 : mle y x = true) : x = y := ib_ext (fun i hi => by
  cases hx : ib x i with
  | true => rw [mle_iff.mp h1 i hi hx]
  | false =>
    cases hy : ib y i with
    | false => rfl
    | true => rw [mle_iff.mp h2 i hi hy] at hx; cases hx)
/-- a row of masks, one more put in -/
def insM (X : List Int32) (x : Int32) : List Int32 := if X.any (fun q => mle q x) then X else X.filter (fun s => !mle x s) ++ [x]
def redM (W : List Int32) : List Int32 := W.foldl insM []
theorem redM_s (W : List Int32) (x : Int32) : redM (W ++ [x]) = insM (redM W) x := by unfold redM; rw [List.foldl_append]; rfl
theorem rev_ind {α : Type} {P : List α → Prop} (h0 : P []) (h1 : ∀ W x, P W → P (W ++ [x])) : ∀ W, P W := by
  intro W
  have : ∀ V : List α, P V.reverse := by
    intro V
    induction V with
    | nil => exact h0
    | cons x V ih => rw [List.reverse_cons]; exact h1 _ _ ih
  have := this W.reverse
  rwa [List.reverse_reverse] at this
theorem redM_any (x : Int32) : ∀ W : List Int32, (redM W).any (fun q => mle q x) = true ↔ ∃ q, q ∈ W ∧ mle q x = true := by
  refine rev_ind ?_ ?_
  · constructor
    · intro h; cases h
    · rintro ⟨q, h, -⟩; cases h
  · intro W y ih
    rw [redM_s]
    unfold insM
    by_cases h : (redM W).any (fun q => mle q y) = true
    · rw [if_pos h]
      constructor
      · intro z
        obtain ⟨q, h1, h2⟩ := ih.mp z
        exact ⟨q, List.mem_append_left _ h1, h2⟩
      · rintro ⟨q, h1, h2⟩
        rcases List.mem_append.mp h1 with h3 | h3
        · exact ih.mpr ⟨q, h3, h2⟩
        · rw [List.mem_singleton] at h3
          subst h3
          obtain ⟨r, h4, h5⟩ := List.any_eq_true.mp h
          exact List.any_eq_true.mpr ⟨r, h4, mle_tr h5 h2⟩
    · rw [if_neg h]
      constructor
      · intro z
        obtain ⟨q, h1, h2⟩ := List.any_eq_true.mp z
        rcases List.mem_append.mp h1 with h3 | h3
        · obtain ⟨r, h4, h5⟩ := ih.mp (List.any_eq_true.mpr ⟨q, (List.mem_filter.mp h3).1, h2⟩)
          exact ⟨r, List.mem_append_left _ h4, h5⟩
        · rw [List.mem_singleton] at h3
          subst h3
          exact ⟨q, List.mem_append_right _ (List.mem_singleton.mpr rfl), h2⟩
      · rintro ⟨q, h1, h2⟩
        rcases List.mem_append.mp h1 with h3 | h3
        · obtain ⟨r, h4, h5⟩ := List.any_eq_true.mp (ih.mpr ⟨q, h3, h2⟩)
          by_cases h6 : mle y r = true
          · exact List.any_eq_true.mpr ⟨y, List.mem_append_right _ (List.mem_singleton.mpr rfl), mle_tr h6 h5⟩
          · exact List.any_eq_true.mpr ⟨r, List.mem_append_left _ (List.mem_filter.mpr ⟨h4, by rw [bn_f h6]; rfl⟩), h5⟩
        · rw [List.mem_singleton] at h3
          subst h3
          exact List.any_eq_true.mpr ⟨q, List.mem_append_right _ (List.mem_singleton.mpr rfl), h2⟩
/-- the reference's test: is another within it, or the same before it? -/
def mout (f : Nat → Int32) (i k : Nat) : Bool := decide (¬ k = i) && (mle (f k) (f i) && (decide (¬ f k = f i) || decide (k < i)))
def mkeep (f : Nat → Int32) (n i : Nat) : List Int32 := ((List.range i).filter (fun j => !(List.range n).any (mout f j))).map f
def gd (W : List Int32) (i : Nat) : Int32 := W.getD i 0
theorem gd_l {W V : List Int32} {i : Nat} (h : i < W.length) : gd (W ++ V) i = gd W i := by unfold gd; rw [List.getD_eq_getElem?_getD, List.getD_eq_getElem?_getD, List.getElem?_append_left h]
theorem gd_e {W : List Int32} {x : Int32} : gd (W ++ [x]) W.length = x := by unfold gd; simp
theorem gd_at {W : List Int32} {i : Nat} (h : i < W.length) : gd W i = W[i] := by unfold gd; rw [List.getD_eq_getElem?_getD, List.getElem?_eq_getElem h]; rfl
theorem gd_mem {W : List Int32} {i : Nat} (h : i < W.length) : gd W i ∈ W := by rw [gd_at h]; exact List.getElem_mem h
theorem mem_gd {W : List Int32} {x : Int32} (h : x ∈ W) : ∃ i, i < W.length ∧ gd W i = x := by
  obtain ⟨i, hi, e⟩ := List.getElem_of_mem h
  exact ⟨i, hi, by rw [gd_at hi]; exact e⟩
theorem filt_cg {p q : Nat → Bool} {n : Nat} (h : ∀ i, i < n → p i = q i) : (List.range n).filter p = (List.range n).filter q := List.filter_congr (fun i hi => h i (List.mem_range.mp hi))
theorem map_cg {f g : Nat → Int32} {L : List Nat} (h : ∀ i, i ∈ L → f i = g i) : L.map f = L.map g := List.map_congr_left h
theorem any_cg {p q : Nat → Bool} {n : Nat} (h : ∀ i, i < n → p i = q i) : (List.range n).any p = (List.range n).any q := by
  induction n with
  | zero => rfl
  | succ n ih => rw [any_s, any_s, ih (fun i hi => h i (by omega)), h n (by omega)]
theorem mkeep_red : ∀ W : List Int32, mkeep (gd W) W.length W.length = redM W := by
  refine rev_ind rfl ?_
  intro W x ih
  rw [redM_s, ← ih]
  have hlen : (W ++ [x]).length = W.length + 1 := by simp
  rw [hlen]
  have ein : ∀ i, i < W.length → (List.range (W.length + 1)).any (mout (gd (W ++ [x])) i) = ((List.range W.length).any (mout (gd W) i) || (mle x (gd W i) && decide (¬ x = gd W i))) := by
    intro i hi
    rw [any_s]
    congr 1
    · exact any_cg (fun k hk => by unfold mout; rw [gd_l hk, gd_l hi])
    · unfold mout
      rw [gd_e, gd_l hi, decide_eq_true (show ¬ W.length = i by omega), decide_eq_false (show ¬ W.length < i by omega), Bool.or_false, Bool.true_and]
  have elast : (List.range (W.length + 1)).any (mout (gd (W ++ [x])) W.length) = (List.range W.length).any (fun k => mle (gd W k) x) := by
    rw [any_s]
    have : mout (gd (W ++ [x])) W.length W.length = false := by unfold mout; simp
    rw [this, Bool.or_false]
    exact any_cg (fun k hk => by
      unfold mout
      rw [gd_l hk, gd_e, decide_eq_true (show ¬ k = W.length by omega), decide_eq_true hk, Bool.or_true, Bool.and_true, Bool.true_and])
  have esplit : mkeep (gd (W ++ [x])) (W.length + 1) (W.length + 1) = ((List.range W.length).filter (fun j => !((List.range W.length).any (mout (gd W) j) || (mle x (gd W j) && decide (¬ x = gd W j))))).map (gd W) ++ (if (List.range W.length).any (fun k => mle (gd W k) x) then [] else [x]) := by
    unfold mkeep
    rw [List.range_succ (n := W.length), List.filter_append, List.map_append, ← List.range_succ]
    congr 1
    · rw [filt_cg (q := fun j => !((List.range W.length).any (mout (gd W) j) || (mle x (gd W j) && decide (¬ x = gd W j)))) (fun i hi => by rw [ein i hi])]
      exact map_cg (fun i hi => gd_l (List.mem_range.mp (List.mem_filter.mp hi).1))
    · rw [List.filter_cons, elast]
      cases (List.range W.length).any (fun k => mle (gd W k) x) <;> simp [gd_e]
  rw [esplit]
  have any_W : (List.range W.length).any (fun k => mle (gd W k) x) = true ↔ ∃ q, q ∈ W ∧ mle q x = true := by
    constructor
    · intro h
      obtain ⟨k, h1, h2⟩ := List.any_eq_true.mp h
      exact ⟨_, gd_mem (List.mem_range.mp h1), h2⟩
    · rintro ⟨q, h1, h2⟩
      obtain ⟨i, hi, rfl⟩ := mem_gd h1
      exact any_at hi h2
  unfold insM
  by_cases h : ∃ q, q ∈ W ∧ mle q x = true
  · rw [if_pos (any_W.mpr h), ih, if_pos ((redM_any x W).mpr h), ← ih, List.append_nil]
    unfold mkeep
    rw [filt_cg (fun i hi => ?_)]
    obtain ⟨q, h1, h2⟩ := h
    obtain ⟨k, hk, rfl⟩ := mem_gd h1
    cases ho : (List.range W.length).any (mout (gd W) i) with
    | true => rfl
    | false =>
      rw [Bool.false_or]
      cases hm : (mle x (gd W i) && decide (¬ x = gd W i)) with
      | false => rfl
      | true =>
        exfalso
        rw [Bool.and_eq_true, decide_eq_true_eq] at hm
        have hne : ¬ gd W k = gd W i := fun e => hm.2 (mle_as hm.1 (by rw [← e]; exact h2))
        have := any_at (f := mout (gd W) i) hk (by
          unfold mout
          rw [decide_eq_true (show ¬ k = i from fun e => hne (by rw [e])), mle_tr h2 hm.1, decide_eq_true hne]
          rfl)
        rw [ho] at this
        cases this
  · rw [if_neg (fun z => h (any_W.mp z)), ih, if_neg (fun z => h ((redM_any x W).mp z)), ← ih]
    congr 1
    unfold mkeep
    rw [List.filter_map, List.filter_filter]
    rw [filt_cg (fun i hi => ?_)]
    show (!((List.range W.length).any (mout (gd W) i) || (mle x (gd W i) && decide (¬ x = gd W i)))) = ((!mle x (gd W i)) && !(List.range W.length).any (mout (gd W) i))
    have : mle x (gd W i) = true → ¬ x = gd W i := fun _ e => h ⟨gd W i, gd_mem hi, by rw [← e]; exact mle_refl x⟩
    cases hm : mle x (gd W i) with
    | true => rw [decide_eq_true (this hm)]; cases (List.range W.length).any (mout (gd W) i) <;> rfl
    | false => cases (List.range W.length).any (mout (gd W) i) <;> rfl
end B32
