section RW
/-- bits of three longs -/
def t3b (t : T3) (c : Nat) : Bool := if c / 64 = 0 then lb t.1 (c % 64) else if c / 64 = 1 then lb t.2.1 (c % 64) else lb t.2.2 (c % 64)
theorem t3b_0 (t : T3) {i : Nat} (h : i < 64) : t3b t i = lb t.1 i := by
  unfold t3b
  rw [if_pos (by omega), Nat.mod_eq_of_lt h]
theorem t3b_1 (t : T3) {i : Nat} (h : i < 64) : t3b t (64 + i) = lb t.2.1 i := by
  unfold t3b
  rw [if_neg (by omega), if_pos (by omega), show (64 + i) % 64 = i by omega]
theorem t3b_2 (t : T3) {i : Nat} (h : i < 64) : t3b t (128 + i) = lb t.2.2 i := by
  unfold t3b
  rw [if_neg (by omega), if_neg (by omega), show (128 + i) % 64 = i by omega]
theorem t3_ext {x y : T3} (h : ∀ c, c < 192 → t3b x c = t3b y c) : x = y := by
  obtain ⟨x1, x2, x3⟩ := x
  obtain ⟨y1, y2, y3⟩ := y
  have a1 : x1 = y1 := lb_ext (fun i hi => by have := h i (by omega); rw [t3b_0 _ hi, t3b_0 _ hi] at this; exact this)
  have a2 : x2 = y2 := lb_ext (fun i hi => by have := h (64 + i) (by omega); rw [t3b_1 _ hi, t3b_1 _ hi] at this; exact this)
  have a3 : x3 = y3 := lb_ext (fun i hi => by have := h (128 + i) (by omega); rw [t3b_2 _ hi, t3b_2 _ hi] at this; exact this)
  rw [a1, a2, a3]
theorem t3b_or (x y : T3) (c : Nat) : t3b (t3or x y) c = (t3b x c || t3b y c) := by
  unfold t3b t3or
  split
  · exact lb_or _ _ _
  · split
    · exact lb_or _ _ _
    · exact lb_or _ _ _
theorem lb_t3p {c i j : Nat} (hj : j < 64) : lb (t3p c i) j = (decide (c / 64 = i) && decide (j = c % 64)) := by
  unfold t3p
  split
  · rename_i e
    rw [lb_shl1 (Nat.mod_lt _ (by omega)), decide_eq_true e, Bool.true_and]
  · rename_i e
    rw [lb_0, decide_eq_false e, Bool.false_and]
theorem t3b_of {c d : Nat} (hc : c < 192) (hd : d < 192) : t3b (t3of c) d = decide (d = c) := by
  unfold t3b t3of
  have h3 : d % 64 < 64 := Nat.mod_lt _ (by omega)
  split
  · rw [lb_t3p h3, ← Bool.decide_and]
    exact decide_eq_decide.mpr (by omega)
  · split
    · rw [lb_t3p h3, ← Bool.decide_and]
      exact decide_eq_decide.mpr (by omega)
    · rw [lb_t3p h3, ← Bool.decide_and]
      exact decide_eq_decide.mpr (by omega)
theorem t3le_iff {x y : T3} : t3le x y = true ↔ ∀ c, c < 192 → t3b x c = true → t3b y c = true := by
  unfold t3le
  rw [Bool.and_eq_true, Bool.and_eq_true, decide_eq_true_eq, decide_eq_true_eq, decide_eq_true_eq, lb_sub, lb_sub, lb_sub]
  constructor
  · rintro ⟨h1, h2, h3⟩ c hc
    have h4 : c % 64 < 64 := Nat.mod_lt _ (by omega)
    unfold t3b
    split
    · exact h1 _ h4
    · split
      · exact h2 _ h4
      · exact h3 _ h4
  · intro h
    refine ⟨fun i hi => ?_, fun i hi => ?_, fun i hi => ?_⟩
    · have := h i (by omega); rw [t3b_0 _ hi, t3b_0 _ hi] at this; exact this
    · have := h (64 + i) (by omega); rw [t3b_1 _ hi, t3b_1 _ hi] at this; exact this
    · have := h (128 + i) (by omega); rw [t3b_2 _ hi, t3b_2 _ hi] at this; exact this
theorem t3or_self (x : T3) : t3or x x = x := t3_ext (fun c _ => by rw [t3b_or, Bool.or_self])
/-- the set of codes that a mask stands for -/
def ph (C : Nat → Nat) (x : Int32) : Nat → T3
  | 0 => (0, 0, 0)
  | k + 1 => if ib x k then t3or (ph C x k) (t3of (C k)) else ph C x k
theorem t3b_ph {C : Nat → Nat} {x : Int32} {c : Nat} (hc : c < 192) : ∀ n, (∀ k, k < n → C k < 192) → (t3b (ph C x n) c = true ↔ ∃ k, k < n ∧ ib x k = true ∧ C k = c) := by
  intro n
  induction n with
  | zero =>
    intro _
    constructor
    · intro h
      exfalso
      have : t3b ((0, 0, 0) : T3) c = false := by unfold t3b; rw [lb_0]; simp
      rw [show ph C x 0 = (0, 0, 0) from rfl, this] at h
      cases h
    · rintro ⟨k, h, -⟩; omega
  | succ n ih =>
    intro hC
    have ih := ih (fun k hk => hC k (by omega))
    show t3b (if ib x n then t3or (ph C x n) (t3of (C n)) else ph C x n) c = true ↔ _
    split
    · rename_i e
      rw [t3b_or, Bool.or_eq_true, ih, t3b_of (hC n (by omega)) hc, decide_eq_true_eq]
      constructor
      · rintro (⟨k, h1, h2, h3⟩ | h)
        · exact ⟨k, by omega, h2, h3⟩
        · exact ⟨n, by omega, e, h.symm⟩
      · rintro ⟨k, h1, h2, h3⟩
        by_cases z : k = n
        · subst z; exact Or.inr h3.symm
        · exact Or.inl ⟨k, by omega, h2, h3⟩
    · rename_i e
      rw [ih]
      constructor
      · rintro ⟨k, h1, h2, h3⟩; exact ⟨k, by omega, h2, h3⟩
      · rintro ⟨k, h1, h2, h3⟩
        by_cases z : k = n
        · subst z; exact absurd h2 e
        · exact ⟨k, by omega, h2, h3⟩
def gm (n : Nat) (x : Int32) : Prop := ∀ k, n ≤ k → ib x k = false
def cinj (n : Nat) (C : Nat → Nat) : Prop := ∀ i j, i < n → j < n → C i = C j → i = j
theorem gm_or {n : Nat} {x y : Int32} (hx : gm n x) (hy : gm n y) : gm n (x ||| y) := fun k hk => by rw [ib_or, hx k hk, hy k hk]; rfl
theorem gm_mono {n n' : Nat} {x : Int32} (h : gm n x) (hn : n ≤ n') : gm n' x := fun k hk => h k (by omega)
theorem bool_iff {a b : Bool} (h : a = true ↔ b = true) : a = b := by cases a <;> cases b <;> simp_all
variable {C : Nat → Nat} {n : Nat}
theorem ph_or (hC : ∀ k, k < n → C k < 192) (x y : Int32) : ph C (x ||| y) n = t3or (ph C x n) (ph C y n) := by
  refine t3_ext (fun c hc => bool_iff ?_)
  rw [t3b_or, Bool.or_eq_true, t3b_ph hc n hC, t3b_ph hc n hC, t3b_ph hc n hC]
  constructor
  · rintro ⟨k, h1, h2, h3⟩
    rw [ib_or, Bool.or_eq_true] at h2
    rcases h2 with h2 | h2
    · exact Or.inl ⟨k, h1, h2, h3⟩
    · exact Or.inr ⟨k, h1, h2, h3⟩
  · rintro (⟨k, h1, h2, h3⟩ | ⟨k, h1, h2, h3⟩)
    · exact ⟨k, h1, by rw [ib_or, h2]; rfl, h3⟩
    · exact ⟨k, h1, by rw [ib_or, h2, Bool.or_true], h3⟩
theorem ph_one (hC : ∀ k, k < n → C k < 192) (hn : n ≤ 32) {k : Nat} (hk : k < n) : ph C ((1 : Int32) <<< (nI k &&& 31)) n = t3of (C k) := by
  refine t3_ext (fun c hc => bool_iff ?_)
  rw [t3b_ph hc n hC, t3b_of (hC k hk) hc, decide_eq_true_eq]
  constructor
  · rintro ⟨j, h1, h2, h3⟩
    rw [ib_shl1 (by omega), decide_eq_true_eq] at h2
    subst h2
    exact h3.symm
  · intro e
    exact ⟨k, hk, by rw [ib_shl1 (by omega), decide_eq_true rfl], e.symm⟩
theorem ph_le (hC : ∀ k, k < n → C k < 192) (hi : cinj n C) {x y : Int32} (hx : gm n x) : t3le (ph C x n) (ph C y n) = mle x y := by
  refine bool_iff ?_
  rw [t3le_iff, mle_iff]
  constructor
  · intro h i hi32 hxi
    have hin : i < n := by
      rcases Nat.lt_or_ge i n with z | z
      · exact z
      · rw [hx i z] at hxi; cases hxi
    obtain ⟨j, h1, h2, h3⟩ := (t3b_ph (hC i hin) n hC).mp (h (C i) (hC i hin) ((t3b_ph (hC i hin) n hC).mpr ⟨i, hin, hxi, rfl⟩))
    have : j = i := hi j i h1 hin h3
    subst this
    exact h2
  · intro h c hc hxc
    obtain ⟨k, h1, h2, h3⟩ := (t3b_ph hc n hC).mp hxc
    refine (t3b_ph hc n hC).mpr ⟨k, h1, ?_, h3⟩
    rcases Nat.lt_or_ge k 32 with z | z
    · exact h k z h2
    · rw [ib_big z] at h2; cases h2
theorem ph_cg {C' : Nat → Nat} {x : Int32} : ∀ n, (∀ k, k < n → C' k = C k) → ph C' x n = ph C x n := by
  intro n
  induction n with
  | zero => exact fun _ => rfl
  | succ n ih =>
    intro h
    show (if ib x n then t3or (ph C' x n) (t3of (C' n)) else ph C' x n) = _
    rw [ih (fun k hk => h k (by omega)), h n (by omega)]
    rfl
theorem ph_s {x : Int32} (hx : gm n x) : ph C x (n + 1) = ph C x n := by
  show (if ib x n then t3or (ph C x n) (t3of (C n)) else ph C x n) = _
  rw [if_neg (by rw [hx n (Nat.le_refl _)]; simp)]
/-- rows in which none is within another -/
abbrev anti (L : List Int32) : Prop := L.Pairwise (fun x y => mle x y = false ∧ mle y x = false)
theorem insM_mem {X : List Int32} {x y : Int32} (h : y ∈ insM X x) : y ∈ X ∨ y = x := by
  unfold insM at h
  split at h
  · exact Or.inl h
  · rcases List.mem_append.mp h with h | h
    · exact Or.inl (List.mem_filter.mp h).1
    · exact Or.inr (List.mem_singleton.mp h)
theorem insM_anti {X : List Int32} {x : Int32} (h : anti X) : anti (insM X x) := by
  unfold insM
  split
  · exact h
  · rename_i hn
    refine List.pairwise_append.mpr ⟨h.filter _, List.pairwise_singleton _ _, fun a ha b hb => ?_⟩
    rw [List.mem_singleton] at hb
    subst hb
    obtain ⟨h1, h2⟩ := List.mem_filter.mp ha
    refine ⟨bn_f (fun z => hn (List.any_eq_true.mpr ⟨a, h1, z⟩)), ?_⟩
    simpa using h2
theorem insM_len (X : List Int32) (x : Int32) : (insM X x).length ≤ X.length + 1 := by
  unfold insM
  split
  · omega
  · rw [List.length_append]
    have := List.length_filter_le (fun s => !mle x s) X
    simp
    exact this
theorem redM_anti : ∀ W : List Int32, anti (redM W) := by
  refine rev_ind List.Pairwise.nil ?_
  intro W x ih
  rw [redM_s]
  exact insM_anti ih
theorem redM_mem {y : Int32} : ∀ W : List Int32, y ∈ redM W → y ∈ W := by
  refine rev_ind (fun h => by cases h) ?_
  intro W x ih h
  rw [redM_s] at h
  rcases insM_mem h with h | h
  · exact List.mem_append_left _ (ih h)
  · exact List.mem_append_right _ (List.mem_singleton.mpr h)
theorem redM_len : ∀ W : List Int32, (redM W).length ≤ W.length := by
  refine rev_ind (Nat.le_refl _) ?_
  intro W x ih
  rw [redM_s, List.length_append]
  have := insM_len (redM W) x
  simp
  omega
theorem redM_id : ∀ W : List Int32, anti W → redM W = W := by
  refine rev_ind (fun _ => rfl) ?_
  intro W x ih h
  obtain ⟨h1, -, h3⟩ := List.pairwise_append.mp h
  rw [redM_s, ih h1]
  unfold insM
  rw [if_neg (fun z => by
    obtain ⟨q, hq, e⟩ := List.any_eq_true.mp z
    rw [(h3 q hq x (List.mem_singleton.mpr rfl)).1] at e
    cases e)]
  congr 1
  refine List.filter_eq_self.mpr (fun a ha => ?_)
  rw [(h3 a ha x (List.mem_singleton.mpr rfl)).2]
  rfl
theorem redM_ne {W : List Int32} (h : W ≠ []) : redM W ≠ [] := by
  intro e
  obtain ⟨x, V, rfl⟩ := List.exists_cons_of_ne_nil h
  have := (redM_any x (x :: V)).mpr ⟨x, List.mem_cons_self, mle_refl x⟩
  rw [e] at this
  cases this
theorem redM_app (E R : List Int32) (h : anti E) : R.foldl insM E = redM (E ++ R) := by
  unfold redM
  rw [List.foldl_append]
  have := redM_id E h
  unfold redM at this
  rw [this]
def GR (n : Nat) (L : List Int32) : Prop := L.length ≤ 20 ∧ (∀ x, x ∈ L → gm n x) ∧ anti L
theorem GR_nil : GR n [] := ⟨Nat.zero_le _, ⟨fun x h => (by cases h), List.Pairwise.nil⟩⟩
theorem GR_mono {n' : Nat} {L : List Int32} (h : GR n L) (hn : n ≤ n') : GR n' L := ⟨h.1, fun x hx => gm_mono (h.2.1 x hx) hn, h.2.2⟩
theorem cutM_GR {W : List Int32} (h : ∀ x, x ∈ W → gm n x) : GR n (cutM W) := by
  unfold cutM
  refine ⟨by rw [List.length_take]; omega, fun x hx => h x (redM_mem W (List.mem_of_mem_take hx)), ?_⟩
  exact (redM_anti W).sublist (List.take_sublist _ _)
theorem cutM_ne {W : List Int32} (h : W ≠ []) : cutM W ≠ [] := by
  unfold cutM
  intro e
  rcases List.take_eq_nil_iff.mp e with h1 | h1
  · omega
  · exact redM_ne h h1
theorem andL_gm {P R : List Int32} (hP : GR n P) (hR : GR n R) : ∀ x, x ∈ andL P R → gm n x := by
  intro x hx
  obtain ⟨a, ha, h2⟩ := List.mem_flatMap.mp hx
  obtain ⟨b, hb, rfl⟩ := List.mem_map.mp h2
  exact gm_or (hP.2.1 a ha) (hR.2.1 b hb)
theorem andL_ne {P R : List Int32} (hP : P ≠ []) (hR : R ≠ []) : andL P R ≠ [] := by
  intro e
  have := andL_len P R
  rw [e] at this
  have h1 := List.length_pos_iff.mpr hP
  have h2 := List.length_pos_iff.mpr hR
  have h3 := Nat.mul_pos h1 h2
  rw [← this] at h3
  simp at h3
theorem jA_GR {P R : List Int32} (hP : GR n P) (hR : GR n R) : GR n (jA P R) := by
  unfold jA
  split
  · exact hR
  · exact cutM_GR (andL_gm hP hR)
theorem jA_ne {P R : List Int32} (hR : R ≠ []) : jA P R ≠ [] := by
  unfold jA
  split
  · exact hR
  · rename_i hP
    exact cutM_ne (andL_ne hP hR)
theorem jE_GR {E R : List Int32} (hE : GR n E) (hR : GR n R) : GR n (jE E R) := by
  unfold jE
  split
  · exact hR
  · exact cutM_GR (fun x hx => (List.mem_append.mp hx).elim (hE.2.1 x) (hR.2.1 x))
theorem jE_ne {E R : List Int32} (hR : R ≠ []) : jE E R ≠ [] := by
  unfold jE
  split
  · exact hR
  · exact cutM_ne (fun e => hR (List.append_eq_nil_iff.mp e).2)
/-- the class's rows against the reference's -/
theorem ins_map (hC : ∀ k, k < n → C k < 192) (hi : cinj n C) {X : List Int32} {x : Int32} (hX : ∀ y, y ∈ X → gm n y) (hx : gm n x) (hl : X.length < 400) : ins3 400 (X.map (fun z => ph C z n)) (ph C x n) = (insM X x).map (fun z => ph C z n) := by
  unfold ins3 insM
  have e1 : (X.map (fun z => ph C z n)).any (fun q => t3le q (ph C x n)) = X.any (fun q => mle q x) := by
    rw [List.any_map]
    refine bool_iff ?_
    rw [List.any_eq_true, List.any_eq_true]
    constructor
    · rintro ⟨q, h1, h2⟩
      exact ⟨q, h1, by rw [← ph_le hC hi (hX q h1)]; exact h2⟩
    · rintro ⟨q, h1, h2⟩
      exact ⟨q, h1, by rw [← ph_le hC hi (hX q h1)] at h2; exact h2⟩
  have e2 : (X.map (fun z => ph C z n)).filter (fun s => !t3le (ph C x n) s) = (X.filter (fun s => !mle x s)).map (fun z => ph C z n) := by
    rw [List.filter_map]
    congr 1
    refine List.filter_congr (fun a ha => ?_)
    show (!t3le (ph C x n) (ph C a n)) = _
    rw [ph_le hC hi hx]
  rw [e1, e2]
  split
  · rfl
  · rw [if_pos]
    · rw [List.map_append]; rfl
    · rw [List.length_map]
      have := List.length_filter_le (fun s => !mle x s) X
      omega
theorem fold_map (hC : ∀ k, k < n → C k < 192) (hi : cinj n C) : ∀ (W X : List Int32), (∀ y, y ∈ X → gm n y) → (∀ y, y ∈ W → gm n y) → X.length + W.length ≤ 400 → (W.map (fun z => ph C z n)).foldl (ins3 400) (X.map (fun z => ph C z n)) = (W.foldl insM X).map (fun z => ph C z n) := by
  intro W
  induction W with
  | nil => intros; rfl
  | cons w W ih =>
    intro X hX hW hl
    rw [List.length_cons] at hl
    rw [List.map_cons, List.foldl_cons, List.foldl_cons, ins_map hC hi hX (hW w List.mem_cons_self) (by omega)]
    have := insM_len X w
    exact ih (insM X w) (fun y hy => (insM_mem hy).elim (hX y) (fun e => e ▸ hW w List.mem_cons_self)) (fun y hy => hW y (List.mem_cons_of_mem _ hy)) (by omega)
theorem jrow_eq (p : T3) (Q : List T3) : ∀ acc, jrow p acc Q = (Q.map (t3or p)).foldl (ins3 400) acc := by
  intro acc
  unfold jrow
  rw [List.foldl_map]
theorem jall_map (hC : ∀ k, k < n → C k < 192) (hi : cinj n C) {P R : List Int32} (hP : GR n P) (hR : GR n R) : jall (P.map (fun z => ph C z n)) (R.map (fun z => ph C z n)) = (redM (andL P R)).map (fun z => ph C z n) := by
  have e : ∀ (P' : List Int32) (acc : List T3), (P'.map (fun z => ph C z n)).foldl (fun acc p => jrow p acc (R.map (fun z => ph C z n))) acc = ((andL P' R).map (fun z => ph C z n)).foldl (ins3 400) acc := by
    intro P'
    induction P' with
    | nil => intro acc; rfl
    | cons p P' ih =>
      intro acc
      rw [List.map_cons, List.foldl_cons, ih, jrow_eq]
      unfold andL
      rw [List.flatMap_cons, List.map_append, List.foldl_append, List.map_map, List.map_map]
      congr 2
      refine List.map_congr_left (fun b _ => ?_)
      show t3or (ph C p n) (ph C b n) = ph C (p ||| b) n
      rw [ph_or hC]
  unfold jall
  rw [e]
  have := fold_map hC hi (andL P R) [] (fun y h => by cases h) (andL_gm hP hR) (by
    rw [andL_len]
    have := Nat.mul_le_mul hP.1 hR.1
    simp
    omega)
  exact this
theorem jone_map (hC : ∀ k, k < n → C k < 192) (hi : cinj n C) {E R : List Int32} (hE : GR n E) (hR : GR n R) : jone (E.map (fun z => ph C z n)) (R.map (fun z => ph C z n)) = (redM (E ++ R)).map (fun z => ph C z n) := by
  unfold jone
  have e : (fun (acc : List T3) (x : T3) => ins3 400 acc (t3or x x)) = ins3 400 := by
    funext acc x
    rw [t3or_self]
  rw [e, fold_map hC hi R E hE.2.1 hR.2.1 (by have := hE.1; have := hR.1; omega), redM_app E R hE.2.2]
theorem atom_map (hC : ∀ k, k < n → C k < 192) (hi : cinj n C) {P R : List Int32} (hP : GR n P) (hR : GR n R) {X : Nat → List T3} {t w : Nat} (e1 : X t = P.map (fun z => ph C z n)) (e2 : X w = R.map (fun z => ph C z n)) (tm : Int32) : xAtom X t w t = (jA P R).map (fun z => ph C z n) ∧ mAtom tm X t w = fA P R tm := by
  unfold xAtom mAtom jA fA
  rw [e1, e2, List.length_map]
  by_cases h : P = []
  · subst h
    rw [if_pos rfl, if_pos rfl, if_pos (show ([] : List Int32).length = 0 from rfl), if_pos (show ([] : List Int32).length = 0 from rfl), va_up_self, List.take_of_length_le (by rw [List.length_map]; exact hR.1)]
    exact ⟨rfl, rfl⟩
  · have : ¬ P.length = 0 := fun z => h (List.length_eq_zero_iff.mp z)
    rw [if_neg this, if_neg this, if_neg h, if_neg h, va_up_self, jall_map hC hi hP hR]
    unfold cutM mny ovM
    rw [List.length_map, List.map_take]
    exact ⟨rfl, rfl⟩
theorem also_map (hC : ∀ k, k < n → C k < 192) (hi : cinj n C) {E R : List Int32} (hE : GR n E) (hR : GR n R) {X : Nat → List T3} {o : Nat} (e1 : X (2 + o) = E.map (fun z => ph C z n)) (e2 : X (13 + o) = R.map (fun z => ph C z n)) (tm : Int32) : xAlso X o (2 + o) = (jE E R).map (fun z => ph C z n) ∧ mAlso tm X o = fE E R tm ∧ xAlso X o (13 + o) = [] := by
  unfold xAlso mAlso jE fE
  rw [e1, e2, va_up_self, va_up_ne _ _ (by omega), va_up_self, jone_map hC hi hE hR]
  by_cases h : E = []
  · subst h
    rw [if_pos rfl, if_pos rfl, List.nil_append, redM_id R hR.2.2, List.take_of_length_le (by rw [List.length_map]; exact hR.1)]
    unfold mny
    rw [if_neg (by rw [List.length_map]; have := hR.1; omega)]
    exact ⟨rfl, rfl, rfl⟩
  · rw [if_neg h, if_neg h]
    unfold cutM mny ovM
    rw [List.length_map, List.map_take]
    exact ⟨rfl, rfl, rfl⟩
end RW
