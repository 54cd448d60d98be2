section RV2
variable {G : ev_G} {h : ev_H}
/-- the entries: how many, their packages, their ways, by which they came -/
abbrev rvs : Type := Nat × (Nat → Int32) × (Nat → Int32) × (Nat → Int32)
def rv_hit (s : rvs) (x y : Int32) : Bool := (List.range s.1).any (fun i => decide (s.2.1 i = x) && decide (s.2.2.1 i = y))
def rv_add (s : rvs) (x y o : Int32) : rvs := if rv_hit s x y = true ∨ 48 ≤ s.1 then s else (s.1 + 1, upd s.2.1 s.1 x, upd s.2.2.1 s.1 y, upd s.2.2.2 s.1 o)
abbrev rv_h (G : ev_G) (h : ev_H) (a q1 q2 q3 q4 q5 : Nat) (s : rvs) : ev_H := va_up (va_up (va_up (va_up h q1 (some (aI G 48 s.2.1))) q2 (some (aI G 48 s.2.2.1))) q5 (some (aI G 48 s.2.2.2))) a (some (rv_c q1 q2 q3 q4 q5 s.1))
theorem rv_h_self {a q1 q2 q3 q4 q5 : Nat} {s : rvs} (ha : h a = some (rv_c q1 q2 q3 q4 q5 s.1)) (h1 : h q1 = some (aI G 48 s.2.1)) (h2 : h q2 = some (aI G 48 s.2.2.1)) (h5 : h q5 = some (aI G 48 s.2.2.2)) : rv_h G h a q1 q2 q3 q4 q5 s = h := by
  unfold rv_h
  rw [hu_self h1, hu_self h2, hu_self h5, hu_self ha]
theorem rv_h_h {a q1 q2 q3 q4 q5 : Nat} {s s' : rvs} (hd : rv_d q1 q2 q3 q4 q5) (n1 : a ≠ q1) (n2 : a ≠ q2) (n5 : a ≠ q5) : rv_h G (rv_h G h a q1 q2 q3 q4 q5 s) a q1 q2 q3 q4 q5 s' = rv_h G h a q1 q2 q3 q4 q5 s' := by
  funext j
  unfold rv_h
  simp only [va_up]
  by_cases e1 : j = a
  · simp [e1]
  · by_cases e2 : j = q5
    · simp [e1, e2]
    · by_cases e3 : j = q2
      · simp [e1, e2, e3]
      · by_cases e4 : j = q1
        · simp [e1, e2, e3, e4]
        · simp [e1, e2, e3, e4]
/-- a cell that isn't the review's is as before -/
theorem rv_h_get {a q1 q2 q3 q4 q5 q : Nat} {s s0 : rvs} {e : va_E} (ha : h a = some (rv_c q1 q2 q3 q4 q5 s0.1)) (h1 : h q1 = some (aI G 48 s0.2.1)) (h2 : h q2 = some (aI G 48 s0.2.2.1)) (h5 : h q5 = some (aI G 48 s0.2.2.2)) (hq : h q = some e) (k1 : ∀ f, e ≠ aI G 48 f) (k2 : ∀ n, e ≠ rv_c q1 q2 q3 q4 q5 n) : rv_h G h a q1 q2 q3 q4 q5 s q = some e := by
  unfold rv_h
  rw [va_up_ne _ _ (fun z => k2 s0.1 (by subst z; rw [ha] at hq; exact (Option.some.inj hq).symm)), va_up_ne _ _ (fun z => k1 s0.2.2.2 (by subst z; rw [h5] at hq; exact (Option.some.inj hq).symm)), va_up_ne _ _ (fun z => k1 s0.2.2.1 (by subst z; rw [h2] at hq; exact (Option.some.inj hq).symm)), va_up_ne _ _ (fun z => k1 s0.2.1 (by subst z; rw [h1] at hq; exact (Option.some.inj hq).symm))]
  exact hq
theorem rv_hit_f {n j : Nat} {N W O : Nat → Int32} {x y : Int32} (h1 : rv_hit (n, N, W, O) x y = true) : ∃ i, i < n ∧ N i = x ∧ W i = y := by
  unfold rv_hit at h1
  obtain ⟨i, hi, h2⟩ := List.any_eq_true.mp h1
  simp at h2 hi
  exact ⟨i, hi, h2.1, h2.2⟩
theorem rv_hit_t {s : rvs} {i : Nat} {x y : Int32} (hi : i < s.1) (h1 : s.2.1 i = x) (h2 : s.2.2.1 i = y) : rv_hit s x y = true := by
  unfold rv_hit
  exact List.any_eq_true.mpr ⟨i, List.mem_range.mpr hi, by simp [h1, h2]⟩
theorem r_rv_addOnce {a q1 q2 q3 q4 q5 : Nat} {s : rvs} {x y o : Int32} (hd : rv_d q1 q2 q3 q4 q5) (ha : h a = some (rv_c q1 q2 q3 q4 q5 s.1)) (h1 : h q1 = some (aI G 48 s.2.1)) (h2 : h q2 = some (aI G 48 s.2.2.1)) (h5 : h q5 = some (aI G 48 s.2.2.2)) (hn : s.1 ≤ 48) :
    Rn G M_rv_addOnce 0 0 0 [.ref a, .int x, .int y, .int o] h (ev_qv fun h' => h' = rv_h G h a q1 q2 q3 q4 q5 (rv_add s x y o)) := by
  obtain ⟨n, N, W, O⟩ := s
  have n12 : q1 ≠ q2 := hd.1
  have n15 : q1 ≠ q5 := hd.2.2.2.1
  have n25 : q2 ≠ q5 := hd.2.2.2.2.2.2.1
  have na1 : a ≠ q1 := by intro e; subst e; rw [ha] at h1; cases h1
  have na2 : a ≠ q2 := by intro e; subst e; rw [ha] at h2; cases h2
  have na5 : a ≠ q5 := by intro e; subst e; rw [ha] at h5; cases h5
  refine Rn_of (ls := [some (.ref a), some (.int x), some (.int y), some (.int o), none]) rfl rfl (Nat.le_of_ble_eq_true rfl) rfl ?_
  refine ev_iconst (v := 0) i_rv_addOnce_0 (by decide) ?_
  refine ev_istore_4 i_rv_addOnce_1 rfl ?_
  have loop : ∀ m j : Nat, j + m = n → (∀ i, i < j → ¬ (N i = x ∧ W i = y)) → Ev G M_rv_addOnce 0 0 0 (ev_qv fun h' => h' = rv_h G h a q1 q2 q3 q4 q5 (rv_add (n, N, W, O) x y o)) 3 [some (.ref a), some (.int x), some (.int y), some (.int o), some (.int (nI j))] [] h := by
    intro m
    induction m with
    | zero =>
      intro j hj hi
      obtain rfl : j = n := by omega
      have hf : ¬ rv_hit (j, N, W, O) x y = true := fun z => by
        obtain ⟨i, g1, g2, g3⟩ := rv_hit_f (j := 0) z
        exact hi i g1 ⟨g2, g3⟩
      refine ev_iload_4 i_rv_addOnce_3 ?_
      refine ev_aload_0 i_rv_addOnce_5 ?_
      refine ev_get i_rv_addOnce_6 fl_rv_27 (by repeat (first | assumption | exact va_up_self _ _ _ | refine hu_ne (by first | assumption | exact Ne.symm (by assumption)) ?_)) rfl ?_
      refine ev_icmp_ge i_rv_addOnce_9 (fun c_9 => ?_) (fun c_9 => ?_)
      rotate_left
      · exact absurd (nI_le (Nat.le_refl _) (Nat.lt_of_le_of_lt hn (by decide))) c_9
      refine ev_aload_0 i_rv_addOnce_41 ?_
      refine ev_get i_rv_addOnce_42 fl_rv_27 (by repeat (first | assumption | exact va_up_self _ _ _ | refine hu_ne (by first | assumption | exact Ne.symm (by assumption)) ?_)) rfl ?_
      refine ev_bipush (v := 48) i_rv_addOnce_45 (by decide) ?_
      refine ev_icmp_ge i_rv_addOnce_47 (fun c_47 => ?_) (fun c_47 => ?_)
      · refine ev_return i_rv_addOnce_90 rfl ?_
        refine ⟨rfl, ?_⟩
        unfold rv_add
        rw [if_pos (Or.inr (show 48 ≤ j from (nI_leI (by omega) (Nat.lt_of_le_of_lt hn (by decide))).mp c_47))]
        exact (rv_h_self ha h1 h2 h5).symm
      · have hlt : j < 48 := by
          rcases Nat.lt_or_ge j 48 with z | z
          · exact z
          · exact absurd (show nI 48 ≤ nI j from nI_le z (Nat.lt_of_le_of_lt hn (by decide))) c_47
        refine ev_aload_0 i_rv_addOnce_50 ?_
        refine ev_get i_rv_addOnce_51 fl_rv_11 (by repeat (first | assumption | exact va_up_self _ _ _ | refine hu_ne (by first | assumption | exact Ne.symm (by assumption)) ?_)) rfl ?_
        refine ev_aload_0 i_rv_addOnce_54 ?_
        refine ev_get i_rv_addOnce_55 fl_rv_27 (by repeat (first | assumption | exact va_up_self _ _ _ | refine hu_ne (by first | assumption | exact Ne.symm (by assumption)) ?_)) rfl ?_
        refine ev_iload_1 i_rv_addOnce_58 ?_
        refine ev_iastore i_rv_addOnce_59 ty_int (by repeat (first | assumption | exact va_up_self _ _ _ | refine hu_ne (by first | assumption | exact Ne.symm (by assumption)) ?_)) (j := j) rfl (by omega) (by omega) ?_
        refine ev_aload_0 i_rv_addOnce_60 ?_
        refine ev_get i_rv_addOnce_61 fl_rv_15 (by repeat (first | assumption | exact va_up_self _ _ _ | refine hu_ne (by first | assumption | exact Ne.symm (by assumption)) ?_)) rfl ?_
        refine ev_aload_0 i_rv_addOnce_64 ?_
        refine ev_get i_rv_addOnce_65 fl_rv_27 (by repeat (first | assumption | exact va_up_self _ _ _ | refine hu_ne (by first | assumption | exact Ne.symm (by assumption)) ?_)) rfl ?_
        refine ev_iload_2 i_rv_addOnce_68 ?_
        refine ev_iastore i_rv_addOnce_69 ty_int (by repeat (first | assumption | exact va_up_self _ _ _ | refine hu_ne (by first | assumption | exact Ne.symm (by assumption)) ?_)) (j := j) rfl (by omega) (by omega) ?_
        refine ev_aload_0 i_rv_addOnce_70 ?_
        refine ev_get i_rv_addOnce_71 fl_rv_24 (by repeat (first | assumption | exact va_up_self _ _ _ | refine hu_ne (by first | assumption | exact Ne.symm (by assumption)) ?_)) rfl ?_
        refine ev_aload_0 i_rv_addOnce_74 ?_
        refine ev_get i_rv_addOnce_75 fl_rv_27 (by repeat (first | assumption | exact va_up_self _ _ _ | refine hu_ne (by first | assumption | exact Ne.symm (by assumption)) ?_)) rfl ?_
        refine ev_iload_3 i_rv_addOnce_78 ?_
        refine ev_iastore i_rv_addOnce_79 ty_int (by repeat (first | assumption | exact va_up_self _ _ _ | refine hu_ne (by first | assumption | exact Ne.symm (by assumption)) ?_)) (j := j) rfl (by omega) (by omega) ?_
        refine ev_aload_0 i_rv_addOnce_80 ?_
        refine ev_dup i_rv_addOnce_81 rfl ?_
        refine ev_get i_rv_addOnce_82 fl_rv_27 (by repeat (first | assumption | exact va_up_self _ _ _ | refine hu_ne (by first | assumption | exact Ne.symm (by assumption)) ?_)) rfl ?_
        refine ev_iconst (v := 1) i_rv_addOnce_85 (by decide) ?_
        refine ev_iadd i_rv_addOnce_86 ?_
        refine ev_top (nI_1 j) ?_
        refine ev_put i_rv_addOnce_87 pl_rv_addOnce_27 (by repeat (first | assumption | exact va_up_self _ _ _ | refine hu_ne (by first | assumption | exact Ne.symm (by assumption)) ?_)) rfl rfl (Nat.le_of_ble_eq_true rfl) rfl ?_
        refine ev_return i_rv_addOnce_90 rfl ?_
        refine ⟨rfl, ?_⟩
        unfold rv_add
        rw [if_neg (by rintro (z | z); exact hf z; exact absurd z (Nat.not_le.mpr hlt))]
        rfl
    | succ m ih =>
      intro j hj hi
      have hn' : n ≤ 48 := hn
      have step : ¬ (N j = x ∧ W j = y) → Ev G M_rv_addOnce 0 0 0 (ev_qv fun h' => h' = rv_h G h a q1 q2 q3 q4 q5 (rv_add (n, N, W, O) x y o)) 35 [some (.ref a), some (.int x), some (.int y), some (.int o), some (.int (nI j))] [] h := by
        intro hne
        refine ev_iinc_4 i_rv_addOnce_35 (nI_1 j) rfl ?_
        refine ev_goto i_rv_addOnce_38 ?_
        exact ih (j + 1) (by omega) (lt_s hi hne)
      refine ev_iload_4 i_rv_addOnce_3 ?_
      refine ev_aload_0 i_rv_addOnce_5 ?_
      refine ev_get i_rv_addOnce_6 fl_rv_27 (by repeat (first | assumption | exact va_up_self _ _ _ | refine hu_ne (by first | assumption | exact Ne.symm (by assumption)) ?_)) rfl ?_
      refine ev_icmp_ge i_rv_addOnce_9 (fun c_9 => ?_) (fun c_9 => ?_)
      · exact absurd c_9 (nI_ge (by omega) (by omega))
      refine ev_aload_0 i_rv_addOnce_12 ?_
      refine ev_get i_rv_addOnce_13 fl_rv_11 (by repeat (first | assumption | exact va_up_self _ _ _ | refine hu_ne (by first | assumption | exact Ne.symm (by assumption)) ?_)) rfl ?_
      refine ev_iload_4 i_rv_addOnce_16 ?_
      refine ev_iaload i_rv_addOnce_18 ty_int (by repeat (first | assumption | exact va_up_self _ _ _ | refine hu_ne (by first | assumption | exact Ne.symm (by assumption)) ?_)) (j := j) rfl (by omega) (by omega) ?_
      refine ev_iload_1 i_rv_addOnce_19 ?_
      refine ev_icmp_ne i_rv_addOnce_20 (fun c_20 => ?_) (fun c_20 => ?_)
      · exact step (fun z => c_20 z.1)
      refine ev_aload_0 i_rv_addOnce_23 ?_
      refine ev_get i_rv_addOnce_24 fl_rv_15 (by repeat (first | assumption | exact va_up_self _ _ _ | refine hu_ne (by first | assumption | exact Ne.symm (by assumption)) ?_)) rfl ?_
      refine ev_iload_4 i_rv_addOnce_27 ?_
      refine ev_iaload i_rv_addOnce_29 ty_int (by repeat (first | assumption | exact va_up_self _ _ _ | refine hu_ne (by first | assumption | exact Ne.symm (by assumption)) ?_)) (j := j) rfl (by omega) (by omega) ?_
      refine ev_iload_2 i_rv_addOnce_30 ?_
      refine ev_icmp_ne i_rv_addOnce_31 (fun c_31 => ?_) (fun c_31 => ?_)
      · exact step (fun z => c_31 z.2)
      refine ev_return i_rv_addOnce_34 rfl ?_
      refine ⟨rfl, ?_⟩
      unfold rv_add
      rw [if_pos (Or.inl (rv_hit_t (s := (n, N, W, O)) (show j < n by omega) c_20 c_31))]
      exact (rv_h_self ha h1 h2 h5).symm
  exact loop n 0 (by omega) (fun i hi => absurd hi (Nat.not_lt_zero i))
/-- the entries are packages and ways that there are -/
def rv_ok (np : Nat) (s : rvs) : Prop := s.1 ≤ 48 ∧ ∀ i, i < s.1 → ∃ p w : Nat, p < np ∧ w < 3 ∧ s.2.1 i = nI p ∧ s.2.2.1 i = nI w
theorem rv_add_ok {np p w : Nat} {s : rvs} {o : Int32} (hs : rv_ok np s) (hp : p < np) (hw : w < 3) : rv_ok np (rv_add s (nI p) (nI w) o) := by
  unfold rv_add
  split
  · exact hs
  · next z =>
    refine ⟨by show s.1 + 1 ≤ 48; have := hs.1; have := not_or.mp z; omega, fun i hi => ?_⟩
    show ∃ p' w' : Nat, p' < np ∧ w' < 3 ∧ upd s.2.1 s.1 (nI p) i = nI p' ∧ upd s.2.2.1 s.1 (nI w) i = nI w'
    by_cases e : i = s.1
    · subst e
      exact ⟨p, w, hp, hw, pk_us, pk_us⟩
    · rw [pk_un e, pk_un e]
      have hi' : i < s.1 + 1 := hi
      exact hs.2 i (by omega)
theorem rv_add_mono {s : rvs} {x y o : Int32} : s.1 ≤ (rv_add s x y o).1 ∧ ∀ i, i < s.1 → (rv_add s x y o).2.1 i = s.2.1 i ∧ (rv_add s x y o).2.2.1 i = s.2.2.1 i := by
  unfold rv_add
  split
  · exact ⟨Nat.le_refl _, fun _ _ => ⟨rfl, rfl⟩⟩
  · refine ⟨Nat.le_succ _, fun i hi => ⟨?_, ?_⟩⟩
    · exact pk_un (Nat.ne_of_lt hi)
    · exact pk_un (Nat.ne_of_lt hi)
/-- the uses of a package, one after another -/
def rv_in (U V : Nat → Int32) (at_ : Nat) (s : rvs) : Nat → rvs
  | 0 => s
  | k + 1 => rv_add (rv_in U V at_ s k) (U k) (if (rv_in U V at_ s k).2.2.1 at_ < V k then V k else (rv_in U V at_ s k).2.2.1 at_) (nI at_)
theorem nI_max {a b : Nat} (ha : a < 3) (hb : b < 3) : ∃ c, c < 3 ∧ (if nI a < nI b then nI b else nI a) = nI c := by
  by_cases z : nI a < nI b
  · exact ⟨b, hb, if_pos z⟩
  · exact ⟨a, ha, if_neg z⟩
theorem rv_in_ok {np at_ : Nat} {U V : Nat → Int32} {s : rvs} (hs : rv_ok np s) (hat : at_ < s.1) : ∀ k, (∀ i, i < k → ∃ p w : Nat, p < np ∧ w < 3 ∧ U i = nI p ∧ V i = nI w) → rv_ok np (rv_in U V at_ s k) ∧ s.1 ≤ (rv_in U V at_ s k).1 := by
  intro k
  induction k with
  | zero => exact fun _ => ⟨hs, Nat.le_refl _⟩
  | succ k ih =>
    intro hu
    obtain ⟨h1, h2⟩ := ih (fun i hi => hu i (by omega))
    obtain ⟨p, w, hp, hw, e1, e2⟩ := hu k (by omega)
    obtain ⟨p', w', hp', hw', e3, e4⟩ := h1.2 at_ (by omega)
    obtain ⟨c, hc, ec⟩ := nI_max hw' hw
    have e : rv_in U V at_ s (k + 1) = rv_add (rv_in U V at_ s k) (nI p) (nI c) (nI at_) := by
      show rv_add (rv_in U V at_ s k) (U k) (if (rv_in U V at_ s k).2.2.1 at_ < V k then V k else (rv_in U V at_ s k).2.2.1 at_) (nI at_) = _
      rw [e1, e2, e4, ec]
    rw [e]
    exact ⟨rv_add_ok h1 hp hc, Nat.le_trans h2 rv_add_mono.1⟩
/-- all entries in their turn: US tells of a package how many uses, which, in which ways -/
def rv_out (US : Nat → Nat × (Nat → Int32) × (Nat → Int32)) (s : rvs) : Nat → rvs
  | 0 => s
  | i + 1 => if i < (rv_out US s i).1 then rv_in (US ((rv_out US s i).2.1 i).toNatClampNeg).2.1 (US ((rv_out US s i).2.1 i).toNatClampNeg).2.2 i (rv_out US s i) (US ((rv_out US s i).2.1 i).toNatClampNeg).1 else rv_out US s i
end RV2
