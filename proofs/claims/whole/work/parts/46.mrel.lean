section RL
/-- the reading from a place on -/
def sFin (len : Nat) (r : Nat ⊕ RS) : Nat ⊕ RS := match r with
  | .inl i => .inl i
  | .inr s1 => if (sName s1).2.1 = 3 ∧ (sName s1).1 = 0 then .inr (0, 3, (sName s1).2.2.1, mAlso (sName s1).2.2.2.1 (sName s1).2.2.2.2 0, xAlso (sName s1).2.2.2.2 0) else .inl len
def SG (lic : Nat) (tc : Nat → Nat) (len i : Nat) (s : RS) : Nat ⊕ RS := sFin len (sRun lic tc (len - i) i s)
variable {lic len : Nat} {tc : Nat → Nat}
theorem SG_0 (s : RS) : sRead lic tc len s = SG lic tc len 0 (sStart s) := rfl
theorem SG_end (s : RS) : SG lic tc len len s = sFin len (.inr s) := by
  unfold SG
  rw [Nat.sub_self]
  rfl
theorem SG_s {i : Nat} (hi : i < len) (s : RS) : SG lic tc len i s = if tc i = 32 then SG lic tc len (i + 1) s else match sTake lic s (tc i) with
    | some s' => SG lic tc len (i + 1) s'
    | none => .inl i := by
  unfold SG
  obtain ⟨k, hk⟩ : ∃ k, len - i = k + 1 := ⟨len - i - 1, by omega⟩
  rw [hk, show len - (i + 1) = k by omega]
  show sFin len (if tc i = 32 then sRun lic tc k (i + 1) s else match sTake lic s (tc i) with
    | some s' => sRun lic tc k (i + 1) s'
    | none => .inl i) = _
  split
  · rfl
  · cases sTake lic s (tc i) <;> rfl
theorem SG_t {i : Nat} {s s' : RS} (hi : i < len) (h32 : ¬ tc i = 32) (ht : sTake lic s (tc i) = some s') : SG lic tc len i s = SG lic tc len (i + 1) s' := by
  rw [SG_s hi, if_neg h32, ht]
theorem SG_n {i : Nat} {s : RS} (hi : i < len) (h32 : ¬ tc i = 32) (ht : sTake lic s (tc i) = none) : SG lic tc len i s = .inl i := by
  rw [SG_s hi, if_neg h32, ht]
theorem SG_sk {s : RS} : ∀ (q i : Nat), i + q ≤ len → (∀ j, i ≤ j → j < i + q → tc j = 32) → SG lic tc len i s = SG lic tc len (i + q) s := by
  intro q
  induction q with
  | zero => intros; rfl
  | succ q ih =>
    intro i hi h
    rw [SG_s (by omega), if_pos (h i (by omega) (by omega)), ih (i + 1) (by omega) (fun j h1 h2 => h j (by omega) (by omega)), show i + 1 + q = i + (q + 1) by omega]
theorem SG_skip {s : RS} {i i' : Nat} (h1 : i ≤ i') (h2 : i' ≤ len) (h : ∀ j, i ≤ j → j < i' → tc j = 32) : SG lic tc len i s = SG lic tc len i' s := by
  have := SG_sk (lic := lic) (len := len) (tc := tc) (s := s) (i' - i) i (by omega) (fun j a b => h j a (by omega))
  rw [show i + (i' - i) = i' by omega] at this
  exact this
theorem SG_bad {i : Nat} {s : RS} (hl : i ≤ len) (h1 : i < len → ¬ tc i = 32 ∧ sTake lic s (tc i) = none) (h2 : ¬ ((sName s).2.1 = 3 ∧ (sName s).1 = 0)) : SG lic tc len i s = .inl i := by
  rcases Nat.lt_or_ge i len with z | z
  · exact SG_n z (h1 z).1 (h1 z).2
  · obtain rfl : i = len := by omega
    rw [SG_end]
    exact if_neg h2
theorem sName_n {s : RS} (h : ¬ s.2.1 = 1) : sName s = s := by unfold sName; rw [if_neg h]
theorem sName_nn (s : RS) : sName (sName s) = sName s := by
  by_cases h : s.2.1 = 1
  · rw [sName_n (s := sName s)]
    unfold sName
    rw [if_pos h]
    exact (show ¬ (3 : Int32) = 1 by decide)
  · rw [sName_n h, sName_n h]
theorem SG_nm {i : Nat} {s : RS} (hl : i ≤ len) (h1 : i < len → ¬ tc i = 32 ∧ ¬ tc i = 94) (hs : s.2.1 = 1) : SG lic tc len i s = SG lic tc len i (sName s) := by
  rcases Nat.lt_or_ge i len with z | z
  · obtain ⟨a, b⟩ := h1 z
    rw [SG_s z, SG_s z, if_neg a, if_neg a]
    have e3 : (sName s).2.1 = 3 := by unfold sName; rw [if_pos hs]
    have : sTake lic s (tc i) = sTake lic (sName s) (tc i) := by
      unfold sTake
      rw [hs, e3, if_neg (by decide), if_neg (by decide), if_neg (fun q => b q.2), if_neg (by decide), if_neg (by decide), if_neg (fun q => b q.2), sName_nn]
    rw [this]
  · obtain rfl : i = len := by omega
    rw [SG_end, SG_end]
    have e := sName_nn s
    show (if (sName s).2.1 = 3 ∧ (sName s).1 = 0 then (Sum.inr (0, 3, (sName s).2.2.1, mAlso (sName s).2.2.2.1 (sName s).2.2.2.2 0, xAlso (sName s).2.2.2.2 0) : Nat ⊕ RS) else .inl i) = (if (sName (sName s)).2.1 = 3 ∧ (sName (sName s)).1 = 0 then .inr (0, 3, (sName (sName s)).2.2.1, mAlso (sName (sName s)).2.2.2.1 (sName (sName s)).2.2.2.2 0, xAlso (sName (sName s)).2.2.2.2 0) else .inl i)
    rw [e]
abbrev mp (C : Nat → Nat) (n : Nat) (L : List Int32) : List T3 := L.map (fun z => ph C z n)
/-- the levels below -/
def bel (C : Nat → Nat) (n : Nat) (X : Nat → List T3) : Nat → List (List Int32) → List Nat → Prop
  | 0, RL, SL => RL = [] ∧ SL = []
  | o + 1, RL, SL => ∃ E P RL1 SL1, GR n E ∧ GR n P ∧ X (2 + o) = mp C n E ∧ X (13 + o) = mp C n P ∧ RL = opL P ++ (opL E ++ RL1) ∧ SL = 40 :: (sgL P 38 ++ (sgL E 124 ++ SL1)) ∧ bel C n X o RL1 SL1
variable {C C' : Nat → Nat} {n : Nat} {X X' : Nat → List T3}
theorem bel_cg : ∀ (o : Nat) (RL : List (List Int32)) (SL : List Nat), (∀ t, t < o → X' (2 + t) = X (2 + t) ∧ X' (13 + t) = X (13 + t)) → bel C n X o RL SL → bel C n X' o RL SL := by
  intro o
  induction o with
  | zero => exact fun _ _ _ h => h
  | succ o ih =>
    rintro RL SL h ⟨E, P, RL1, SL1, g1, g2, g3, g4, g5, g6, g7⟩
    exact ⟨E, P, RL1, SL1, g1, g2, (h o (by omega)).1.trans g3, (h o (by omega)).2.trans g4, g5, g6, ih RL1 SL1 (fun t ht => h t (by omega)) g7⟩
theorem mp_ext {L : List Int32} (h : GR n L) (hC : ∀ k, k < n → C' k = C k) : mp C' (n + 1) L = mp C n L := by
  refine List.map_congr_left (fun x hx => ?_)
  rw [ph_s (h.2.1 x hx), ph_cg n hC]
theorem bel_ext (hC : ∀ k, k < n → C' k = C k) : ∀ (o : Nat) (RL : List (List Int32)) (SL : List Nat), bel C n X o RL SL → bel C' (n + 1) X o RL SL := by
  intro o
  induction o with
  | zero => exact fun _ _ h => h
  | succ o ih =>
    rintro RL SL ⟨E, P, RL1, SL1, g1, g2, g3, g4, g5, g6, g7⟩
    exact ⟨E, P, RL1, SL1, GR_mono g1 (by omega), GR_mono g2 (by omega), g3.trans (mp_ext g1 hC).symm, g4.trans (mp_ext g2 hC).symm, g5, g6, ih RL1 SL1 g7⟩
theorem bel_hd {o : Nat} {RL : List (List Int32)} {SL : List Nat} (h : bel C n X o RL SL) : SL = [] ∨ ∃ t, SL = 40 :: t := by
  cases o with
  | zero => exact Or.inl h.2
  | succ o =>
    obtain ⟨E, P, RL1, SL1, g1, g2, g3, g4, g5, g6, g7⟩ := h
    exact Or.inr ⟨_, g6⟩
/-- an operand is wanted -/
def WT (C : Nat → Nat) (n : Nat) (s : RS) (RL : List (List Int32)) (SL : List Nat) : Prop := s.2.1 = 0 ∧ s.1 ≤ 10 ∧ ∃ E P RL0 SL0, GR n E ∧ GR n P ∧ s.2.2.2.2 (2 + s.1) = mp C n E ∧ s.2.2.2.2 (13 + s.1) = mp C n P ∧ RL = opL P ++ (opL E ++ RL0) ∧ SL = sgL P 38 ++ (sgL E 124 ++ SL0) ∧ bel C n s.2.2.2.2 s.1 RL0 SL0
/-- behind an operand -/
def BH (C : Nat → Nat) (n : Nat) (s : RS) (fl : Int32) (RL : List (List Int32)) (SL : List Nat) : Prop := s.2.1 = 3 ∧ s.1 ≤ 10 ∧ ∃ E P R RL0 SL0, GR n E ∧ GR n P ∧ GR n R ∧ R ≠ [] ∧ s.2.2.2.2 (2 + s.1) = mp C n E ∧ s.2.2.2.2 (13 + s.1) = mp C n (jA P R) ∧ s.2.2.2.1 = fA P R fl ∧ RL = R :: (opL P ++ (opL E ++ RL0)) ∧ SL = sgL P 38 ++ (sgL E 124 ++ SL0) ∧ bel C n s.2.2.2.2 s.1 RL0 SL0
theorem WT_ext {s : RS} {RL : List (List Int32)} {SL : List Nat} (hC : ∀ k, k < n → C' k = C k) (h : WT C n s RL SL) : WT C' (n + 1) s RL SL := by
  obtain ⟨h1, h2, E, P, RL0, SL0, g1, g2, g3, g4, g5, g6, g7⟩ := h
  exact ⟨h1, h2, E, P, RL0, SL0, GR_mono g1 (by omega), GR_mono g2 (by omega), g3.trans (mp_ext g1 hC).symm, g4.trans (mp_ext g2 hC).symm, g5, g6, bel_ext hC _ _ _ g7⟩
theorem WT_open {s : RS} {RL : List (List Int32)} {SL : List Nat} (h : WT C n s RL SL) (h10 : s.1 < 10) : WT C n (s.1 + 1, 0, s.2.2.1, s.2.2.2.1, va_up (va_up s.2.2.2.2 (2 + (s.1 + 1)) []) (13 + (s.1 + 1)) []) RL (40 :: SL) := by
  obtain ⟨h1, h2, E, P, RL0, SL0, g1, g2, g3, g4, g5, g6, g7⟩ := h
  refine ⟨rfl, by show s.1 + 1 ≤ 10; omega, [], [], RL, 40 :: SL, GR_nil, GR_nil, ?_, ?_, rfl, rfl, ?_⟩
  · show va_up (va_up s.2.2.2.2 (2 + (s.1 + 1)) []) (13 + (s.1 + 1)) [] (2 + (s.1 + 1)) = _
    rw [va_up_ne _ _ (by omega), va_up_self]
    rfl
  · show va_up (va_up s.2.2.2.2 (2 + (s.1 + 1)) []) (13 + (s.1 + 1)) [] (13 + (s.1 + 1)) = _
    rw [va_up_self]
    rfl
  · show bel C n (va_up (va_up s.2.2.2.2 (2 + (s.1 + 1)) []) (13 + (s.1 + 1)) []) (s.1 + 1) RL (40 :: SL)
    refine bel_cg (X := s.2.2.2.2) (s.1 + 1) _ _ (fun t ht => ⟨?_, ?_⟩) ⟨E, P, RL0, SL0, g1, g2, g3, g4, g5, by rw [g6], g7⟩
    · rw [va_up_ne _ _ (by omega), va_up_ne _ _ (by omega)]
    · rw [va_up_ne _ _ (by omega), va_up_ne _ _ (by omega)]
theorem WT_atom {s : RS} {RL : List (List Int32)} {SL : List Nat} (hC : ∀ k, k < n → C k < 192) (hi : cinj n C) (hn : n ≤ 32) (h : WT C n s RL SL) {k nm : Nat} (hk : k < n) : BH C n (s.1, 3, nm, mAtom s.2.2.2.1 (xSet s.2.2.2.2 (C k)) (13 + s.1) 0, xAtom (xSet s.2.2.2.2 (C k)) (13 + s.1) 0) s.2.2.2.1 ([(1 : Int32) <<< (nI k &&& 31)] :: RL) SL := by
  obtain ⟨h1, h2, E, P, RL0, SL0, g1, g2, g3, g4, g5, g6, g7⟩ := h
  have gR : GR n [(1 : Int32) <<< (nI k &&& 31)] := by
    refine ⟨Nat.le_of_ble_eq_true rfl, fun x hx => ?_, List.pairwise_singleton _ _⟩
    rw [List.mem_singleton] at hx
    subst hx
    exact fun j hj => by rw [ib_shl1 (by omega), decide_eq_false (by omega)]
  have x0 : ∀ t, t ≠ 0 → xSet s.2.2.2.2 (C k) t = s.2.2.2.2 t := fun t ht => va_up_ne _ _ ht
  obtain ⟨e1, e2⟩ := atom_map hC hi g2 gR (X := xSet s.2.2.2.2 (C k)) (t := 13 + s.1) (w := 0) ((x0 _ (by omega)).trans g4) (by
    show va_up s.2.2.2.2 0 [t3of (C k)] 0 = _
    rw [va_up_self, List.map_cons, ph_one hC hn hk]
    rfl) s.2.2.2.1
  have xo : ∀ t, t ≠ 0 → t ≠ 1 → t ≠ 13 + s.1 → xAtom (xSet s.2.2.2.2 (C k)) (13 + s.1) 0 t = s.2.2.2.2 t := by
    intro t t0 t1 t2
    unfold xAtom
    split
    · rw [va_up_ne _ _ t2, x0 _ t0]
    · rw [va_up_ne _ _ t2, va_up_ne _ _ t1, x0 _ t0]
  refine ⟨rfl, h2, E, P, [(1 : Int32) <<< (nI k &&& 31)], RL0, SL0, g1, g2, gR, by simp, ?_, e1, e2, by rw [g5], g6, ?_⟩
  · exact (xo _ (by omega) (by omega) (by omega)).trans g3
  · exact bel_cg (X := s.2.2.2.2) s.1 _ _ (fun t ht => ⟨xo _ (by omega) (by omega) (by omega), xo _ (by omega) (by omega) (by omega)⟩) g7
theorem BH_and {s : RS} {fl : Int32} {P R E : List Int32} {RL0 : List (List Int32)} {SL0 : List Nat} (h2 : s.1 ≤ 10) (g1 : GR n E) (g2 : GR n P) (g3 : GR n R) (g4 : R ≠ []) (g5 : s.2.2.2.2 (2 + s.1) = mp C n E) (g6 : s.2.2.2.2 (13 + s.1) = mp C n (jA P R)) (g10 : bel C n s.2.2.2.2 s.1 RL0 SL0) : WT C n (s.1, 0, s.2.2.1, s.2.2.2.1, s.2.2.2.2) (jA P R :: (opL E ++ RL0)) (38 :: (sgL E 124 ++ SL0)) := by
  have e1 : opL (jA P R) = [jA P R] := if_neg (jA_ne g4)
  have e2 : sgL (jA P R) 38 = [38] := if_neg (jA_ne g4)
  exact ⟨rfl, h2, E, jA P R, RL0, SL0, g1, jA_GR g2 g3, g5, g6, by rw [e1]; rfl, by rw [e2]; rfl, g10⟩
theorem also_x {X : Nat → List T3} {o t : Nat} (t1 : t ≠ 1) (t2 : t ≠ 2 + o) (t3 : t ≠ 13 + o) : xAlso X o t = X t := by
  unfold xAlso
  rw [va_up_ne _ _ t3, va_up_ne _ _ t2, va_up_ne _ _ t1]
theorem BH_or {s : RS} {P R E : List Int32} {RL0 : List (List Int32)} {SL0 : List Nat} (hC : ∀ k, k < n → C k < 192) (hi : cinj n C) (h2 : s.1 ≤ 10) (g1 : GR n E) (g2 : GR n P) (g3 : GR n R) (g4 : R ≠ []) (g5 : s.2.2.2.2 (2 + s.1) = mp C n E) (g6 : s.2.2.2.2 (13 + s.1) = mp C n (jA P R)) (g10 : bel C n s.2.2.2.2 s.1 RL0 SL0) : WT C n (s.1, 0, s.2.2.1, mAlso s.2.2.2.1 s.2.2.2.2 s.1, xAlso s.2.2.2.2 s.1) (jE E (jA P R) :: RL0) (124 :: SL0) ∧ mAlso s.2.2.2.1 s.2.2.2.2 s.1 = fE E (jA P R) s.2.2.2.1 := by
  have e1 : opL (jE E (jA P R)) = [jE E (jA P R)] := if_neg (jE_ne (jA_ne g4))
  have e2 : sgL (jE E (jA P R)) 124 = [124] := if_neg (jE_ne (jA_ne g4))
  obtain ⟨k1, k2, k3⟩ := also_map hC hi g1 (jA_GR g2 g3) g5 g6 s.2.2.2.1
  refine ⟨⟨rfl, h2, jE E (jA P R), [], RL0, SL0, jE_GR g1 (jA_GR g2 g3), GR_nil, k1, k3, ?_, ?_, ?_⟩, k2⟩
  · rw [e1]; rfl
  · rw [e2]; rfl
  · exact bel_cg (X := s.2.2.2.2) s.1 _ _ (fun t ht => ⟨also_x (by omega) (by omega) (by omega), also_x (by omega) (by omega) (by omega)⟩) g10
theorem BH_close {s : RS} {fl : Int32} {P R E : List Int32} {RL0 : List (List Int32)} {SL0 : List Nat} (hC : ∀ k, k < n → C k < 192) (hi : cinj n C) (h2 : s.1 ≤ 10) (hpos : 0 < s.1) (g1 : GR n E) (g2 : GR n P) (g3 : GR n R) (g4 : R ≠ []) (g5 : s.2.2.2.2 (2 + s.1) = mp C n E) (g6 : s.2.2.2.2 (13 + s.1) = mp C n (jA P R)) (g7 : s.2.2.2.1 = fA P R fl) (g10 : bel C n s.2.2.2.2 s.1 RL0 SL0) :
    ∃ SL1, SL0 = 40 :: SL1 ∧ BH C n (s.1 - 1, 3, s.2.2.1, mAtom (mAlso s.2.2.2.1 s.2.2.2.2 s.1) (xAlso s.2.2.2.2 s.1) (13 + (s.1 - 1)) (2 + s.1), xAtom (xAlso s.2.2.2.2 s.1) (13 + (s.1 - 1)) (2 + s.1)) (fE E (jA P R) (fA P R fl)) (jE E (jA P R) :: RL0) SL1 := by
  obtain ⟨o, ho⟩ : ∃ o, s.1 = o + 1 := ⟨s.1 - 1, by omega⟩
  obtain ⟨k1, k2, k3⟩ := also_map hC hi g1 (jA_GR g2 g3) g5 g6 s.2.2.2.1
  rw [ho] at g10
  obtain ⟨E', P', RL1, SL1, b1, b2, b3, b4, b5, b6, b7⟩ := g10
  have gR' : GR n (jE E (jA P R)) := jE_GR g1 (jA_GR g2 g3)
  refine ⟨_, b6, ?_⟩
  rw [k2, g7, show s.1 - 1 = o by omega]
  obtain ⟨a1, a2⟩ := atom_map hC hi b2 gR' (X := xAlso s.2.2.2.2 s.1) (t := 13 + o) (w := 2 + s.1) ((also_x (by omega) (by omega) (by omega)).trans b4) k1 (fE E (jA P R) (fA P R fl))
  have xo : ∀ t, t ≠ 1 → t ≠ 13 + o → t ≠ 2 + s.1 → t ≠ 13 + s.1 → xAtom (xAlso s.2.2.2.2 s.1) (13 + o) (2 + s.1) t = s.2.2.2.2 t := by
    intro t t1 t2 t3 t4
    unfold xAtom
    split
    · rw [va_up_ne _ _ t2, also_x t1 t3 t4]
    · rw [va_up_ne _ _ t2, va_up_ne _ _ t1, also_x t1 t3 t4]
  refine ⟨rfl, by show o ≤ 10; omega, E', P', jE E (jA P R), RL1, SL1, b1, b2, gR', jE_ne (jA_ne g4), ?_, a1, a2, by rw [b5], rfl, ?_⟩
  · exact (xo _ (by omega) (by omega) (by omega) (by omega)).trans b3
  · exact bel_cg (X := s.2.2.2.2) o _ _ (fun t ht => ⟨xo _ (by omega) (by omega) (by omega) (by omega), xo _ (by omega) (by omega) (by omega) (by omega)⟩) b7
end RL
