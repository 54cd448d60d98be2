section RV
variable {G : ev_G} {h : ev_H}
abbrev rv_c (q1 q2 q3 q4 q5 n : Nat) : va_E := .inr (3, [.ref q1, .ref q2, .ref q3, .ref q4, .ref q5, .int (nI n)])
/-- the review's arrays are apart -/
def rv_d (q1 q2 q3 q4 q5 : Nat) : Prop := q1 ≠ q2 ∧ q1 ≠ q3 ∧ q1 ≠ q4 ∧ q1 ≠ q5 ∧ q2 ≠ q3 ∧ q2 ≠ q4 ∧ q2 ≠ q5 ∧ q3 ≠ q4 ∧ q3 ≠ q5 ∧ q4 ≠ q5
theorem r_rv_init {a : Nat} (ha : h a = some (.inr (3, [.null, .null, .null, .null, .null, .int 0]))) :
    Rn G M_rv_init 1 5 240 [.ref a] h (ev_qv fun h' => ∃ q1 q2 q3 q4 q5 : Nat, rv_d q1 q2 q3 q4 q5 ∧ (q1 ≠ a ∧ q2 ≠ a ∧ q3 ≠ a ∧ q4 ≠ a ∧ q5 ≠ a) ∧ h q1 = none ∧ h q2 = none ∧ h q3 = none ∧ h q4 = none ∧ h q5 = none ∧
      h' = va_up (va_up (va_up (va_up (va_up (va_up h q1 (some (aI G 48 (fun _ => 0)))) q2 (some (aI G 48 (fun _ => 0)))) q3 (some (aI G 48 (fun _ => 0)))) q4 (some (aI G 48 (fun _ => 0)))) q5 (some (aI G 48 (fun _ => 0)))) a (some (rv_c q1 q2 q3 q4 q5 0))) := by
  refine Rn_of (ls := [some (.ref a)]) rfl rfl (Nat.le_of_ble_eq_true rfl) rfl ?_
  refine ev_aload_0 i_rv_init_0 ?_
  refine ev_obj i_rv_init_1 ob_rv_3 ob_2 ob_3 (by decide) (Nat.le_of_ble_eq_true rfl) ?_
  refine ev_aload_0 i_rv_init_4 ?_
  refine ev_bipush (v := 48) i_rv_init_5 (by decide) ?_
  refine ev_newa (N := 48) (a0 := (48, .inl (fun _ => 0))) (kc' := 4) (ks' := 192) i_rv_init_7 rfl ty_int ac_int (fun _ => rfl) rfl (by omega) rfl rfl (fun q1 h1 => ?_)
  have n1a : q1 ≠ a := by intro e; subst e; rw [ha] at h1; cases h1
  refine ev_put i_rv_init_9 pl_rv_init_11 (by repeat (first | assumption | exact va_up_self _ _ _ | refine hu_ne (by first | assumption | exact Ne.symm (by assumption)) ?_)) rfl rfl (Nat.le_of_ble_eq_true rfl) rfl ?_
  refine ev_aload_0 i_rv_init_12 ?_
  refine ev_bipush (v := 48) i_rv_init_13 (by decide) ?_
  refine ev_newa (N := 48) (a0 := (48, .inl (fun _ => 0))) (kc' := 3) (ks' := 144) i_rv_init_15 rfl ty_int ac_int (fun _ => rfl) rfl (by omega) rfl rfl (fun q2 h2 => ?_)
  have n2a : q2 ≠ a := by intro e; subst e; rw [va_up_self] at h2; cases h2
  rw [va_up_ne _ _ n2a] at h2
  have n21 : q2 ≠ q1 := by intro e; subst e; rw [va_up_self] at h2; cases h2
  rw [va_up_ne _ _ n21] at h2
  refine ev_put i_rv_init_17 pl_rv_init_15 (by repeat (first | assumption | exact va_up_self _ _ _ | refine hu_ne (by first | assumption | exact Ne.symm (by assumption)) ?_)) rfl rfl (Nat.le_of_ble_eq_true rfl) rfl ?_
  refine ev_aload_0 i_rv_init_20 ?_
  refine ev_bipush (v := 48) i_rv_init_21 (by decide) ?_
  rw [hu_comm (Ne.symm n2a), hu_uu]
  refine ev_newa (N := 48) (a0 := (48, .inl (fun _ => 0))) (kc' := 2) (ks' := 96) i_rv_init_23 rfl ty_int ac_int (fun _ => rfl) rfl (by omega) rfl rfl (fun q3 h3 => ?_)
  have n3a : q3 ≠ a := by intro e; subst e; rw [va_up_self] at h3; cases h3
  rw [va_up_ne _ _ n3a] at h3
  have n32 : q3 ≠ q2 := by intro e; subst e; rw [va_up_self] at h3; cases h3
  rw [va_up_ne _ _ n32] at h3
  have n31 : q3 ≠ q1 := by intro e; subst e; rw [va_up_self] at h3; cases h3
  rw [va_up_ne _ _ n31] at h3
  refine ev_put i_rv_init_25 pl_rv_init_18 (by repeat (first | assumption | exact va_up_self _ _ _ | refine hu_ne (by first | assumption | exact Ne.symm (by assumption)) ?_)) rfl rfl (Nat.le_of_ble_eq_true rfl) rfl ?_
  refine ev_aload_0 i_rv_init_28 ?_
  refine ev_bipush (v := 48) i_rv_init_29 (by decide) ?_
  rw [hu_comm (Ne.symm n3a), hu_uu]
  refine ev_newa (N := 48) (a0 := (48, .inl (fun _ => 0))) (kc' := 1) (ks' := 48) i_rv_init_31 rfl ty_int ac_int (fun _ => rfl) rfl (by omega) rfl rfl (fun q4 h4 => ?_)
  have n4a : q4 ≠ a := by intro e; subst e; rw [va_up_self] at h4; cases h4
  rw [va_up_ne _ _ n4a] at h4
  have n43 : q4 ≠ q3 := by intro e; subst e; rw [va_up_self] at h4; cases h4
  rw [va_up_ne _ _ n43] at h4
  have n42 : q4 ≠ q2 := by intro e; subst e; rw [va_up_self] at h4; cases h4
  rw [va_up_ne _ _ n42] at h4
  have n41 : q4 ≠ q1 := by intro e; subst e; rw [va_up_self] at h4; cases h4
  rw [va_up_ne _ _ n41] at h4
  refine ev_put i_rv_init_33 pl_rv_init_21 (by repeat (first | assumption | exact va_up_self _ _ _ | refine hu_ne (by first | assumption | exact Ne.symm (by assumption)) ?_)) rfl rfl (Nat.le_of_ble_eq_true rfl) rfl ?_
  refine ev_aload_0 i_rv_init_36 ?_
  refine ev_bipush (v := 48) i_rv_init_37 (by decide) ?_
  rw [hu_comm (Ne.symm n4a), hu_uu]
  refine ev_newa (N := 48) (a0 := (48, .inl (fun _ => 0))) (kc' := 0) (ks' := 0) i_rv_init_39 rfl ty_int ac_int (fun _ => rfl) rfl (by omega) rfl rfl (fun q5 h5 => ?_)
  have n5a : q5 ≠ a := by intro e; subst e; rw [va_up_self] at h5; cases h5
  rw [va_up_ne _ _ n5a] at h5
  have n54 : q5 ≠ q4 := by intro e; subst e; rw [va_up_self] at h5; cases h5
  rw [va_up_ne _ _ n54] at h5
  have n53 : q5 ≠ q3 := by intro e; subst e; rw [va_up_self] at h5; cases h5
  rw [va_up_ne _ _ n53] at h5
  have n52 : q5 ≠ q2 := by intro e; subst e; rw [va_up_self] at h5; cases h5
  rw [va_up_ne _ _ n52] at h5
  have n51 : q5 ≠ q1 := by intro e; subst e; rw [va_up_self] at h5; cases h5
  rw [va_up_ne _ _ n51] at h5
  refine ev_put i_rv_init_41 pl_rv_init_24 (by repeat (first | assumption | exact va_up_self _ _ _ | refine hu_ne (by first | assumption | exact Ne.symm (by assumption)) ?_)) rfl rfl (Nat.le_of_ble_eq_true rfl) rfl ?_
  refine ev_aload_0 i_rv_init_44 ?_
  refine ev_iconst (v := 0) i_rv_init_45 (by decide) ?_
  refine ev_put i_rv_init_46 pl_rv_init_27 (by repeat (first | assumption | exact va_up_self _ _ _ | refine hu_ne (by first | assumption | exact Ne.symm (by assumption)) ?_)) rfl rfl (Nat.le_of_ble_eq_true rfl) rfl ?_
  refine ev_return i_rv_init_49 rfl ?_
  refine ⟨rfl, q1, q2, q3, q4, q5, ⟨Ne.symm n21, Ne.symm n31, Ne.symm n41, Ne.symm n51, Ne.symm n32, Ne.symm n42, Ne.symm n52, Ne.symm n43, Ne.symm n53, Ne.symm n54⟩, ⟨n1a, n2a, n3a, n4a, n5a⟩, h1, h2, h3, h4, h5, ?_⟩
  rw [hu_uu, hu_comm (Ne.symm n5a), hu_uu]
  rfl
theorem r_rv_tell {a q1 q2 q3 q4 q5 n : Nat} {N W K D O : Nat → Int32} {i what : Int32} (ha : h a = some (rv_c q1 q2 q3 q4 q5 n)) (h1 : h q1 = some (aI G 48 N)) (h2 : h q2 = some (aI G 48 W)) (h3 : h q3 = some (aI G 48 K)) (h4 : h q4 = some (aI G 48 D)) (h5 : h q5 = some (aI G 48 O)) (hn : n ≤ 48) :
    Rn G M_rv_tell 0 0 0 [.ref a, .int i, .int what] h (ev_qi fun v h' => h' = h ∧ ((∃ j, i = nI j ∧ j < n ∧ ((what = 0 ∧ v = N j) ∨ (what = 1 ∧ v = W j) ∨ (what = 2 ∧ v = K j) ∨ (what = 3 ∧ v = D j) ∨ (what = 4 ∧ v = O j) ∨ ((what < 0 ∨ 4 < what) ∧ v = -1))) ∨ ((i < 0 ∨ nI n ≤ i) ∧ v = -1))) := by
  refine Rn_of (ls := [some (.ref a), some (.int i), some (.int what)]) rfl rfl (Nat.le_of_ble_eq_true rfl) rfl ?_
  refine ev_iload_1 i_rv_tell_0 ?_
  refine ev_if_lt i_rv_tell_1 (fun c_1 => ?_) (fun c_1 => ?_)
  · refine ev_iconst (v := (-1)) i_rv_tell_12 (by decide) ?_
    refine ev_ireturn i_rv_tell_13 rfl rfl ?_
    exact ⟨_, rfl, rfl, Or.inr ⟨Or.inl c_1, rfl⟩⟩
  refine ev_iload_1 i_rv_tell_4 ?_
  refine ev_aload_0 i_rv_tell_5 ?_
  refine ev_get i_rv_tell_6 fl_rv_27 (by repeat (first | assumption | exact va_up_self _ _ _ | refine hu_ne (by first | assumption | exact Ne.symm (by assumption)) ?_)) rfl ?_
  refine ev_icmp_lt i_rv_tell_9 (fun c_9 => ?_) (fun c_9 => ?_)
  rotate_left
  · refine ev_iconst (v := (-1)) i_rv_tell_12 (by decide) ?_
    refine ev_ireturn i_rv_tell_13 rfl rfl ?_
    exact ⟨_, rfl, rfl, Or.inr ⟨Or.inr (Int32.not_lt.mp c_9), rfl⟩⟩
  obtain ⟨j, hj, rfl⟩ := nI_of c_1
  have hjn : j < n := (nI_ltI hj (by omega)).mp c_9
  refine ev_iload_2 i_rv_tell_14 ?_
  by_cases w0 : what.toInt < 0
  · refine ev_tableOut (tgt := 83) i_rv_tell_15 (Or.inl w0) (by decide) ?_
    refine ev_iconst (v := (-1)) i_rv_tell_83 (by decide) ?_
    refine ev_ireturn i_rv_tell_84 rfl rfl ?_
    exact ⟨_, rfl, rfl, Or.inl ⟨j, rfl, hjn, Or.inr (Or.inr (Or.inr (Or.inr (Or.inr ⟨Or.inl (by rw [Int32.lt_iff_toInt_lt]; exact w0), rfl⟩))))⟩⟩
  by_cases w4 : 4 < what.toInt
  · refine ev_tableOut (tgt := 83) i_rv_tell_15 (Or.inr w4) (by decide) ?_
    refine ev_iconst (v := (-1)) i_rv_tell_83 (by decide) ?_
    refine ev_ireturn i_rv_tell_84 rfl rfl ?_
    exact ⟨_, rfl, rfl, Or.inl ⟨j, rfl, hjn, Or.inr (Or.inr (Or.inr (Or.inr (Or.inr ⟨Or.inr (by rw [Int32.lt_iff_toInt_lt]; exact w4), rfl⟩))))⟩⟩
  obtain ⟨k, hk, rfl⟩ := nI_of (x := what) (by rw [Int32.lt_iff_toInt_lt]; exact w0)
  rw [nI_toInt hk] at w0 w4
  rcases (show k = 0 ∨ k = 1 ∨ k = 2 ∨ k = 3 ∨ k = 4 by omega) with rfl | rfl | rfl | rfl | rfl
  · refine ev_tableIn (off := 33) (tgt := 48) i_rv_tell_15 (by decide) (by decide) (by decide) (by decide) ?_
    refine ev_aload_0 i_rv_tell_48 ?_
    refine ev_get i_rv_tell_49 fl_rv_11 (by repeat (first | assumption | exact va_up_self _ _ _ | refine hu_ne (by first | assumption | exact Ne.symm (by assumption)) ?_)) rfl ?_
    refine ev_iload_1 i_rv_tell_52 ?_
    refine ev_iaload i_rv_tell_53 ty_int (by repeat (first | assumption | exact va_up_self _ _ _ | refine hu_ne (by first | assumption | exact Ne.symm (by assumption)) ?_)) (j := j) rfl (by omega) (by omega) ?_
    refine ev_ireturn i_rv_tell_54 rfl rfl ?_
    exact ⟨_, rfl, rfl, Or.inl ⟨j, rfl, hjn, Or.inl ⟨rfl, rfl⟩⟩⟩
  · refine ev_tableIn (off := 40) (tgt := 55) i_rv_tell_15 (by decide) (by decide) (by decide) (by decide) ?_
    refine ev_aload_0 i_rv_tell_55 ?_
    refine ev_get i_rv_tell_56 fl_rv_15 (by repeat (first | assumption | exact va_up_self _ _ _ | refine hu_ne (by first | assumption | exact Ne.symm (by assumption)) ?_)) rfl ?_
    refine ev_iload_1 i_rv_tell_59 ?_
    refine ev_iaload i_rv_tell_60 ty_int (by repeat (first | assumption | exact va_up_self _ _ _ | refine hu_ne (by first | assumption | exact Ne.symm (by assumption)) ?_)) (j := j) rfl (by omega) (by omega) ?_
    refine ev_ireturn i_rv_tell_61 rfl rfl ?_
    exact ⟨_, rfl, rfl, Or.inl ⟨j, rfl, hjn, Or.inr (Or.inl ⟨rfl, rfl⟩)⟩⟩
  · refine ev_tableIn (off := 47) (tgt := 62) i_rv_tell_15 (by decide) (by decide) (by decide) (by decide) ?_
    refine ev_aload_0 i_rv_tell_62 ?_
    refine ev_get i_rv_tell_63 fl_rv_18 (by repeat (first | assumption | exact va_up_self _ _ _ | refine hu_ne (by first | assumption | exact Ne.symm (by assumption)) ?_)) rfl ?_
    refine ev_iload_1 i_rv_tell_66 ?_
    refine ev_iaload i_rv_tell_67 ty_int (by repeat (first | assumption | exact va_up_self _ _ _ | refine hu_ne (by first | assumption | exact Ne.symm (by assumption)) ?_)) (j := j) rfl (by omega) (by omega) ?_
    refine ev_ireturn i_rv_tell_68 rfl rfl ?_
    exact ⟨_, rfl, rfl, Or.inl ⟨j, rfl, hjn, Or.inr (Or.inr (Or.inl ⟨rfl, rfl⟩))⟩⟩
  · refine ev_tableIn (off := 54) (tgt := 69) i_rv_tell_15 (by decide) (by decide) (by decide) (by decide) ?_
    refine ev_aload_0 i_rv_tell_69 ?_
    refine ev_get i_rv_tell_70 fl_rv_21 (by repeat (first | assumption | exact va_up_self _ _ _ | refine hu_ne (by first | assumption | exact Ne.symm (by assumption)) ?_)) rfl ?_
    refine ev_iload_1 i_rv_tell_73 ?_
    refine ev_iaload i_rv_tell_74 ty_int (by repeat (first | assumption | exact va_up_self _ _ _ | refine hu_ne (by first | assumption | exact Ne.symm (by assumption)) ?_)) (j := j) rfl (by omega) (by omega) ?_
    refine ev_ireturn i_rv_tell_75 rfl rfl ?_
    exact ⟨_, rfl, rfl, Or.inl ⟨j, rfl, hjn, Or.inr (Or.inr (Or.inr (Or.inl ⟨rfl, rfl⟩)))⟩⟩
  · refine ev_tableIn (off := 61) (tgt := 76) i_rv_tell_15 (by decide) (by decide) (by decide) (by decide) ?_
    refine ev_aload_0 i_rv_tell_76 ?_
    refine ev_get i_rv_tell_77 fl_rv_24 (by repeat (first | assumption | exact va_up_self _ _ _ | refine hu_ne (by first | assumption | exact Ne.symm (by assumption)) ?_)) rfl ?_
    refine ev_iload_1 i_rv_tell_80 ?_
    refine ev_iaload i_rv_tell_81 ty_int (by repeat (first | assumption | exact va_up_self _ _ _ | refine hu_ne (by first | assumption | exact Ne.symm (by assumption)) ?_)) (j := j) rfl (by omega) (by omega) ?_
    refine ev_ireturn i_rv_tell_82 rfl rfl ?_
    exact ⟨_, rfl, rfl, Or.inl ⟨j, rfl, hjn, Or.inr (Or.inr (Or.inr (Or.inr (Or.inl ⟨rfl, rfl⟩))))⟩⟩
/-- all joined -/
def orf (D : Nat → Int32) : Nat → Int32
  | 0 => 0
  | n + 1 => orf D n ||| D n
theorem r_rv_joinedDuties {a q1 q2 q3 q4 q5 n : Nat} {D : Nat → Int32} (ha : h a = some (rv_c q1 q2 q3 q4 q5 n)) (h4 : h q4 = some (aI G 48 D)) (hn : n ≤ 48) :
    Rn G M_rv_joinedDuties 0 0 0 [.ref a] h (ev_qi fun v h' => v = orf D n ∧ h' = h) := by
  refine Rn_of (ls := [some (.ref a), none, none]) rfl rfl (Nat.le_of_ble_eq_true rfl) rfl ?_
  refine ev_iconst (v := 0) i_rv_joinedDuties_0 (by decide) ?_
  refine ev_istore_1 i_rv_joinedDuties_1 rfl ?_
  refine ev_iconst (v := 0) i_rv_joinedDuties_2 (by decide) ?_
  refine ev_istore_2 i_rv_joinedDuties_3 rfl ?_
  have loop : ∀ m j : Nat, j + m = n → Ev G M_rv_joinedDuties 0 0 0 (ev_qi fun v h' => v = orf D n ∧ h' = h) 4 [some (.ref a), some (.int (orf D j)), some (.int (nI j))] [] h := by
    intro m
    induction m with
    | zero =>
      intro j hj
      obtain rfl : j = n := by omega
      refine ev_iload_2 i_rv_joinedDuties_4 ?_
      refine ev_aload_0 i_rv_joinedDuties_5 ?_
      refine ev_get i_rv_joinedDuties_6 fl_rv_27 (by repeat (first | assumption | exact va_up_self _ _ _ | refine hu_ne (by first | assumption | exact Ne.symm (by assumption)) ?_)) rfl ?_
      refine ev_icmp_ge i_rv_joinedDuties_9 (fun c_9 => ?_) (fun c_9 => ?_)
      · refine ev_iload_1 i_rv_joinedDuties_27 ?_
        refine ev_ireturn i_rv_joinedDuties_28 rfl rfl ?_
        exact ⟨_, rfl, rfl, rfl⟩
      · exact absurd (nI_le (Nat.le_refl _) (by omega)) c_9
    | succ m ih =>
      intro j hj
      refine ev_iload_2 i_rv_joinedDuties_4 ?_
      refine ev_aload_0 i_rv_joinedDuties_5 ?_
      refine ev_get i_rv_joinedDuties_6 fl_rv_27 (by repeat (first | assumption | exact va_up_self _ _ _ | refine hu_ne (by first | assumption | exact Ne.symm (by assumption)) ?_)) rfl ?_
      refine ev_icmp_ge i_rv_joinedDuties_9 (fun c_9 => ?_) (fun c_9 => ?_)
      · exact absurd c_9 (nI_ge (by omega) (by omega))
      refine ev_iload_1 i_rv_joinedDuties_12 ?_
      refine ev_aload_0 i_rv_joinedDuties_13 ?_
      refine ev_get i_rv_joinedDuties_14 fl_rv_21 (by repeat (first | assumption | exact va_up_self _ _ _ | refine hu_ne (by first | assumption | exact Ne.symm (by assumption)) ?_)) rfl ?_
      refine ev_iload_2 i_rv_joinedDuties_17 ?_
      refine ev_iaload i_rv_joinedDuties_18 ty_int (by repeat (first | assumption | exact va_up_self _ _ _ | refine hu_ne (by first | assumption | exact Ne.symm (by assumption)) ?_)) (j := j) rfl (by omega) (by omega) ?_
      refine ev_ior i_rv_joinedDuties_19 ?_
      refine ev_istore_1 i_rv_joinedDuties_20 rfl ?_
      refine ev_iinc_2 i_rv_joinedDuties_21 (nI_1 j) rfl ?_
      refine ev_goto i_rv_joinedDuties_24 ?_
      exact ih (j + 1) (by omega)
  exact loop n 0 (by omega)
/-- a place is the first of its number -/
def isf (N : Nat → Int32) (k : Nat) : Bool := decide (∀ i, i < k → ¬ N i = N k)
theorem r_rv_isFirstOfItsPack {a q1 q2 q3 q4 q5 n k : Nat} {N : Nat → Int32} (ha : h a = some (rv_c q1 q2 q3 q4 q5 n)) (h1 : h q1 = some (aI G 48 N)) (hk : k < 48) :
    Rn G M_rv_isFirstOfItsPack 0 0 0 [.ref a, .int (nI k)] h (ev_qi fun v h' => v = (if isf N k then 1 else 0) ∧ h' = h) := by
  refine Rn_of (ls := [some (.ref a), some (.int (nI k)), none]) rfl rfl (Nat.le_of_ble_eq_true rfl) rfl ?_
  refine ev_iconst (v := 0) i_rv_isFirstOfItsPack_0 (by decide) ?_
  refine ev_istore_2 i_rv_isFirstOfItsPack_1 rfl ?_
  have loop : ∀ m j : Nat, j + m = k → (∀ i, i < j → ¬ N i = N k) → Ev G M_rv_isFirstOfItsPack 0 0 0 (ev_qi fun v h' => v = (if isf N k then 1 else 0) ∧ h' = h) 2 [some (.ref a), some (.int (nI k)), some (.int (nI j))] [] h := by
    intro m
    induction m with
    | zero =>
      intro j hj hi
      obtain rfl : j = k := by omega
      refine ev_iload_2 i_rv_isFirstOfItsPack_2 ?_
      refine ev_iload_1 i_rv_isFirstOfItsPack_3 ?_
      refine ev_icmp_ge i_rv_isFirstOfItsPack_4 (fun c_4 => ?_) (fun c_4 => ?_)
      · refine ev_iconst (v := 1) i_rv_isFirstOfItsPack_30 (by decide) ?_
        refine ev_ireturn i_rv_isFirstOfItsPack_31 rfl rfl ?_
        have hT : isf N j = true := decide_eq_true hi
        exact ⟨_, rfl, by rw [if_pos hT], rfl⟩
      · exact absurd (nI_le (Nat.le_refl _) (by omega)) c_4
    | succ m ih =>
      intro j hj hi
      refine ev_iload_2 i_rv_isFirstOfItsPack_2 ?_
      refine ev_iload_1 i_rv_isFirstOfItsPack_3 ?_
      refine ev_icmp_ge i_rv_isFirstOfItsPack_4 (fun c_4 => ?_) (fun c_4 => ?_)
      · exact absurd c_4 (nI_ge (by omega) (by omega))
      refine ev_aload_0 i_rv_isFirstOfItsPack_7 ?_
      refine ev_get i_rv_isFirstOfItsPack_8 fl_rv_11 (by repeat (first | assumption | exact va_up_self _ _ _ | refine hu_ne (by first | assumption | exact Ne.symm (by assumption)) ?_)) rfl ?_
      refine ev_iload_2 i_rv_isFirstOfItsPack_11 ?_
      refine ev_iaload i_rv_isFirstOfItsPack_12 ty_int (by repeat (first | assumption | exact va_up_self _ _ _ | refine hu_ne (by first | assumption | exact Ne.symm (by assumption)) ?_)) (j := j) rfl (by omega) (by omega) ?_
      refine ev_aload_0 i_rv_isFirstOfItsPack_13 ?_
      refine ev_get i_rv_isFirstOfItsPack_14 fl_rv_11 (by repeat (first | assumption | exact va_up_self _ _ _ | refine hu_ne (by first | assumption | exact Ne.symm (by assumption)) ?_)) rfl ?_
      refine ev_iload_1 i_rv_isFirstOfItsPack_17 ?_
      refine ev_iaload i_rv_isFirstOfItsPack_18 ty_int (by repeat (first | assumption | exact va_up_self _ _ _ | refine hu_ne (by first | assumption | exact Ne.symm (by assumption)) ?_)) (j := k) rfl (by omega) (by omega) ?_
      refine ev_icmp_ne i_rv_isFirstOfItsPack_19 (fun c_19 => ?_) (fun c_19 => ?_)
      · refine ev_iinc_2 i_rv_isFirstOfItsPack_24 (nI_1 j) rfl ?_
        refine ev_goto i_rv_isFirstOfItsPack_27 ?_
        exact ih (j + 1) (by omega) (lt_s hi c_19)
      · refine ev_iconst (v := 0) i_rv_isFirstOfItsPack_22 (by decide) ?_
        refine ev_ireturn i_rv_isFirstOfItsPack_23 rfl rfl ?_
        exact ⟨_, rfl, by rw [if_neg]; exact fun z => of_decide_eq_true z j (by omega) c_19, rfl⟩
  exact loop k 0 (by omega) (fun i hi => absurd hi (Nat.not_lt_zero i))
/-- the i-th number, each once -/
def dnum (N : Nat → Int32) (i : Int32) (n : Nat) : Int32 := match (List.range n).find? (fun k => isf N k && decide (nI (sumb (isf N) k) = i)) with
  | some k => N k
  | none => -1
theorem r_rv_distinctPack {a q1 q2 q3 q4 q5 n : Nat} {N : Nat → Int32} {i : Int32} (ha : h a = some (rv_c q1 q2 q3 q4 q5 n)) (h1 : h q1 = some (aI G 48 N)) (hn : n ≤ 48) :
    Rn G M_rv_distinctPack 1 0 0 [.ref a, .int i] h (ev_qi fun v h' => v = dnum N i n ∧ h' = h) := by
  refine Rn_of (ls := [some (.ref a), some (.int i), none, none]) rfl rfl (Nat.le_of_ble_eq_true rfl) rfl ?_
  refine ev_iconst (v := 0) i_rv_distinctPack_0 (by decide) ?_
  refine ev_istore_2 i_rv_distinctPack_1 rfl ?_
  refine ev_iconst (v := 0) i_rv_distinctPack_2 (by decide) ?_
  refine ev_istore_3 i_rv_distinctPack_3 rfl ?_
  have loop : ∀ m j : Nat, j + m = n → (List.range j).find? (fun k => isf N k && decide (nI (sumb (isf N) k) = i)) = none → Ev G M_rv_distinctPack 1 0 0 (ev_qi fun v h' => v = dnum N i n ∧ h' = h) 4 [some (.ref a), some (.int i), some (.int (nI (sumb (isf N) j))), some (.int (nI j))] [] h := by
    intro m
    induction m with
    | zero =>
      intro j hj hf
      obtain rfl : j = n := by omega
      refine ev_iload_3 i_rv_distinctPack_4 ?_
      refine ev_aload_0 i_rv_distinctPack_5 ?_
      refine ev_get i_rv_distinctPack_6 fl_rv_27 (by repeat (first | assumption | exact va_up_self _ _ _ | refine hu_ne (by first | assumption | exact Ne.symm (by assumption)) ?_)) rfl ?_
      refine ev_icmp_ge i_rv_distinctPack_9 (fun c_9 => ?_) (fun c_9 => ?_)
      · refine ev_iconst (v := (-1)) i_rv_distinctPack_41 (by decide) ?_
        refine ev_ireturn i_rv_distinctPack_42 rfl rfl ?_
        exact ⟨_, rfl, by unfold dnum; rw [hf], rfl⟩
      · exact absurd (nI_le (Nat.le_refl _) (by omega)) c_9
    | succ m ih =>
      intro j hj hf
      have hnext : (isf N j && decide (nI (sumb (isf N) j) = i)) = false → (List.range (j + 1)).find? (fun k => isf N k && decide (nI (sumb (isf N) k) = i)) = none := by
        intro e
        rw [List.range_succ, List.find?_append, hf]
        simp only [Option.none_or, List.find?_cons, e, List.find?_nil]
      refine ev_iload_3 i_rv_distinctPack_4 ?_
      refine ev_aload_0 i_rv_distinctPack_5 ?_
      refine ev_get i_rv_distinctPack_6 fl_rv_27 (by repeat (first | assumption | exact va_up_self _ _ _ | refine hu_ne (by first | assumption | exact Ne.symm (by assumption)) ?_)) rfl ?_
      refine ev_icmp_ge i_rv_distinctPack_9 (fun c_9 => ?_) (fun c_9 => ?_)
      · exact absurd c_9 (nI_ge (by omega) (by omega))
      refine ev_aload_0 i_rv_distinctPack_12 ?_
      refine ev_iload_3 i_rv_distinctPack_13 ?_
      refine ev_vi1 i_rv_distinctPack_14 lk_rv_79 cb_rv_isFirstOfItsPack iv_rv_isFirstOfItsPack (r_rv_isFirstOfItsPack ha h1 (show j < 48 by omega)) (by repeat (first | assumption | exact va_up_self _ _ _ | refine hu_ne (by first | assumption | exact Ne.symm (by assumption)) ?_)) rfl (by decide) (Nat.le_of_ble_eq_true rfl) rfl rfl (fun v h2 hq => ?_)
      obtain ⟨rfl, rfl⟩ := hq
      refine ev_if_eq i_rv_distinctPack_17 (fun c_17 => ?_) (fun c_17 => ?_)
      · have hS := bn_f (if_10 c_17)
        refine ev_iinc_3 i_rv_distinctPack_35 (nI_1 j) rfl ?_
        refine ev_goto i_rv_distinctPack_38 ?_
        have := ih (j + 1) (by omega) (hnext (by rw [hS]; rfl))
        unfold sumb at this
        rw [hS] at this
        exact this
      · have hS := if_11 c_17
        refine ev_iload_2 i_rv_distinctPack_20 ?_
        refine ev_iload_1 i_rv_distinctPack_21 ?_
        refine ev_icmp_ne i_rv_distinctPack_22 (fun c_22 => ?_) (fun c_22 => ?_)
        · refine ev_iinc_2 i_rv_distinctPack_32 (nI_1 _) rfl ?_
          refine ev_iinc_3 i_rv_distinctPack_35 (nI_1 j) rfl ?_
          refine ev_goto i_rv_distinctPack_38 ?_
          have := ih (j + 1) (by omega) (hnext (by rw [hS, decide_eq_false c_22]; rfl))
          unfold sumb at this
          rw [hS] at this
          exact this
        · refine ev_aload_0 i_rv_distinctPack_25 ?_
          refine ev_get i_rv_distinctPack_26 fl_rv_11 (by repeat (first | assumption | exact va_up_self _ _ _ | refine hu_ne (by first | assumption | exact Ne.symm (by assumption)) ?_)) rfl ?_
          refine ev_iload_3 i_rv_distinctPack_29 ?_
          refine ev_iaload i_rv_distinctPack_30 ty_int (by repeat (first | assumption | exact va_up_self _ _ _ | refine hu_ne (by first | assumption | exact Ne.symm (by assumption)) ?_)) (j := j) rfl (by omega) (by omega) ?_
          refine ev_ireturn i_rv_distinctPack_31 rfl rfl ?_
          refine ⟨_, rfl, ?_, rfl⟩
          have : (List.range n).find? (fun k => isf N k && decide (nI (sumb (isf N) k) = i)) = some j := by
            rw [show n = j + (m + 1) by omega, List.range_add, List.find?_append, hf]
            simp only [Option.none_or, List.range_succ_eq_map, List.map_cons, List.find?_cons, Nat.add_zero, hS, decide_eq_true c_22, Bool.and_self]
          unfold dnum
          rw [this]
  exact loop n 0 (by omega) rfl
end RV
