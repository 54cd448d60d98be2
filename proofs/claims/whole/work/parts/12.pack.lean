section PK
variable {G : ev_G} {h : ev_H}
abbrev pk_c (f u v n : Nat) (e : Int32) : va_E := .inr (1, [.ref f, .ref u, .ref v, .int (nI n), .int e])
theorem r_pk_init {a : Nat} (ha : h a = some (.inr (1, [.null, .null, .null, .int 0, .int 0]))) :
    Rn G M_pk_init 2 4 75 [.ref a] h (ev_qv fun h' => ∃ f b u v : Nat, (f ≠ a ∧ b ≠ a ∧ u ≠ a ∧ v ≠ a ∧ b ≠ f ∧ u ≠ f ∧ v ≠ f ∧ u ≠ b ∧ v ≠ b ∧ v ≠ u) ∧ h f = none ∧ h b = none ∧ h u = none ∧ h v = none ∧
      h' = va_up (va_up (va_up (va_up (va_up h f (some (fo_c b 20 0))) b (some (fo_b G 20 (fun _ => 0)))) u (some (aI G 6 (fun _ => 0)))) v (some (aI G 6 (fun _ => 0)))) a (some (pk_c f u v 0 (-1)))) := by
  refine Rn_of (ls := [some (.ref a)]) rfl rfl (Nat.le_of_ble_eq_true rfl) rfl ?_
  refine ev_aload_0 i_pk_init_0 ?_
  refine ev_obj i_pk_init_1 ob_pk_3 ob_2 ob_3 (by decide) (Nat.le_of_ble_eq_true rfl) ?_
  refine ev_aload_0 i_pk_init_4 ?_
  refine ev_new (fs := [.int 0, .null, .int 0]) (kc' := 3) (ks' := 72) i_pk_init_5 k_fo cl_pk_9 ns_fo in_fo (fun j hj => by rcases (show j = 0 ∨ j = 1 ∨ j = 2 by omega) with rfl | rfl | rfl <;> rfl) rfl rfl (fun f hf => ?_)
  have hfa : f ≠ a := by intro e; subst e; rw [ha] at hf; cases hf
  refine ev_dup i_pk_init_8 rfl ?_
  refine ev_bipush (v := 20) i_pk_init_9 (by decide) ?_
  refine ev_sv1 (kc' := 2) (ks' := 12) i_pk_init_11 lk_pk_11 cb_fo_init iv_fo_init (r_fo_init (r := 20) (va_up_self _ _ _) (by omega) (by omega)) (by decide) (Nat.le_of_ble_eq_true rfl) rfl rfl (fun h1 hq => ?_)
  obtain ⟨b, hbf, hb, rfl⟩ := hq
  rw [va_up_ne _ _ hbf] at hb
  have hba : b ≠ a := by intro e; subst e; rw [ha] at hb; cases hb
  rw [hu_comm hbf, hu_uu]
  refine ev_put i_pk_init_14 pl_pk_init_14 (by repeat (first | assumption | exact va_up_self _ _ _ | refine hu_ne (by first | assumption | exact Ne.symm (by assumption)) ?_)) rfl rfl (Nat.le_of_ble_eq_true rfl) rfl ?_
  refine ev_aload_0 i_pk_init_17 ?_
  refine ev_bipush (v := 6) i_pk_init_18 (by decide) ?_
  refine ev_newa (N := 6) (a0 := (6, .inl (fun _ => 0))) (kc' := 1) (ks' := 6) i_pk_init_20 rfl ty_int ac_int (fun _ => rfl) rfl (by omega) rfl rfl (fun u hu => ?_)
  have hua : u ≠ a := by intro e; subst e; rw [va_up_self] at hu; cases hu
  rw [va_up_ne _ _ hua] at hu
  have hub : u ≠ b := by intro e; subst e; rw [va_up_self] at hu; cases hu
  rw [va_up_ne _ _ hub] at hu
  have huf : u ≠ f := by intro e; subst e; rw [va_up_self] at hu; cases hu
  rw [va_up_ne _ _ huf] at hu
  refine ev_put i_pk_init_22 pl_pk_init_20 (by repeat (first | assumption | exact va_up_self _ _ _ | refine hu_ne (by first | assumption | exact Ne.symm (by assumption)) ?_)) rfl rfl (Nat.le_of_ble_eq_true rfl) rfl ?_
  refine ev_aload_0 i_pk_init_25 ?_
  refine ev_bipush (v := 6) i_pk_init_26 (by decide) ?_
  refine ev_newa (N := 6) (a0 := (6, .inl (fun _ => 0))) (kc' := 0) (ks' := 0) i_pk_init_28 rfl ty_int ac_int (fun _ => rfl) rfl (by omega) rfl rfl (fun v hv => ?_)
  have hva : v ≠ a := by intro e; subst e; rw [va_up_self] at hv; cases hv
  rw [va_up_ne _ _ hva] at hv
  have hvu : v ≠ u := by intro e; subst e; rw [va_up_self] at hv; cases hv
  rw [va_up_ne _ _ hvu, va_up_ne _ _ hva] at hv
  have hvb : v ≠ b := by intro e; subst e; rw [va_up_self] at hv; cases hv
  rw [va_up_ne _ _ hvb] at hv
  have hvf : v ≠ f := by intro e; subst e; rw [va_up_self] at hv; cases hv
  rw [va_up_ne _ _ hvf] at hv
  refine ev_put i_pk_init_30 pl_pk_init_24 (by repeat (first | assumption | exact va_up_self _ _ _ | refine hu_ne (by first | assumption | exact Ne.symm (by assumption)) ?_)) rfl rfl (Nat.le_of_ble_eq_true rfl) rfl ?_
  refine ev_aload_0 i_pk_init_33 ?_
  refine ev_iconst (v := 0) i_pk_init_34 (by decide) ?_
  refine ev_put i_pk_init_35 pl_pk_init_27 (by repeat (first | assumption | exact va_up_self _ _ _ | refine hu_ne (by first | assumption | exact Ne.symm (by assumption)) ?_)) rfl rfl (Nat.le_of_ble_eq_true rfl) rfl ?_
  refine ev_aload_0 i_pk_init_38 ?_
  refine ev_iconst (v := (-1)) i_pk_init_39 (by decide) ?_
  refine ev_put i_pk_init_40 pl_pk_init_31 (by repeat (first | assumption | exact va_up_self _ _ _ | refine hu_ne (by first | assumption | exact Ne.symm (by assumption)) ?_)) rfl rfl (Nat.le_of_ble_eq_true rfl) rfl ?_
  refine ev_return i_pk_init_43 rfl ?_
  refine ⟨rfl, f, b, u, v, ⟨hfa, hba, hua, hva, hbf, huf, hvf, hub, hvb, hvu⟩, hf, hb, hu, hv, ?_⟩
  simp only [hu_uu]
  rw [hu_comm (Ne.symm hua)]
  simp only [hu_uu]
  rw [hu_comm (Ne.symm hva)]
  simp only [hu_uu]
  rfl
theorem upd_ne {f : Nat → Int32} {k j : Nat} {x : Int32} (h : j ≠ k) : upd f k x j = f j := pk_un h
theorem r_pk_addUse {a f u v n : Nat} {e x y : Int32} {U V : Nat → Int32} (ha : h a = some (pk_c f u v n e)) (hu : h u = some (aI G 6 U)) (hv : h v = some (aI G 6 V)) (huv : u ≠ v) (hn : n ≤ 6) :
    Rn G M_pk_addUse 0 0 0 [.ref a, .int x, .int y] h (ev_qi fun r h' => (n < 6 ∧ (∀ i, i < n → ¬ (U i = x ∧ V i = y)) ∧ r = 1 ∧ h' = va_up (va_up (va_up h u (some (aI G 6 (upd U n x)))) v (some (aI G 6 (upd V n y)))) a (some (pk_c f u v (n + 1) e))) ∨ ((6 ≤ n ∨ ∃ i, i < n ∧ U i = x ∧ V i = y) ∧ r = 0 ∧ h' = h)) := by
  have hau : a ≠ u := by intro e; subst e; rw [ha] at hu; cases hu
  have hav : a ≠ v := by intro e; subst e; rw [ha] at hv; cases hv
  refine Rn_of (ls := [some (.ref a), some (.int x), some (.int y), none]) rfl rfl (Nat.le_of_ble_eq_true rfl) rfl ?_
  refine ev_aload_0 i_pk_addUse_0 ?_
  refine ev_get i_pk_addUse_1 fl_pk_27 (by repeat (first | assumption | exact va_up_self _ _ _ | refine hu_ne (by first | assumption | exact Ne.symm (by assumption)) ?_)) rfl ?_
  refine ev_bipush (v := 6) i_pk_addUse_4 (by decide) ?_
  refine ev_icmp_lt i_pk_addUse_6 (fun c_6 => ?_) (fun c_6 => ?_)
  rotate_left
  · have h6 : 6 ≤ n := by
      rcases Nat.lt_or_ge n 6 with z | z
      · exact absurd (show nI n < nI 6 from nI_lt z (by omega)) c_6
      · exact z
    refine ev_iconst (v := 0) i_pk_addUse_9 (by decide) ?_
    refine ev_ireturn i_pk_addUse_10 rfl rfl ?_
    exact ⟨_, rfl, Or.inr ⟨Or.inl h6, rfl, rfl⟩⟩
  have h6 : n < 6 := by
    rcases Nat.lt_or_ge n 6 with z | z
    · exact z
    · exact absurd c_6 (show ¬ nI n < nI 6 from nI_nlt z (by omega))
  refine ev_iconst (v := 0) i_pk_addUse_11 (by decide) ?_
  refine ev_istore_3 i_pk_addUse_12 rfl ?_
  have loop : ∀ m j : Nat, j + m = n → (∀ i, i < j → ¬ (U i = x ∧ V i = y)) → Ev G M_pk_addUse 0 0 0 (ev_qi fun r h' => (n < 6 ∧ (∀ i, i < n → ¬ (U i = x ∧ V i = y)) ∧ r = 1 ∧ h' = va_up (va_up (va_up h u (some (aI G 6 (upd U n x)))) v (some (aI G 6 (upd V n y)))) a (some (pk_c f u v (n + 1) e))) ∨ ((6 ≤ n ∨ ∃ i, i < n ∧ U i = x ∧ V i = y) ∧ r = 0 ∧ h' = h)) 13 [some (.ref a), some (.int x), some (.int y), some (.int (nI j))] [] h := by
    intro m
    induction m with
    | zero =>
      intro j hj hi
      obtain rfl : j = n := by omega
      refine ev_iload_3 i_pk_addUse_13 ?_
      refine ev_aload_0 i_pk_addUse_14 ?_
      refine ev_get i_pk_addUse_15 fl_pk_27 (by repeat (first | assumption | exact va_up_self _ _ _ | refine hu_ne (by first | assumption | exact Ne.symm (by assumption)) ?_)) rfl ?_
      refine ev_icmp_ge i_pk_addUse_18 (fun c_18 => ?_) (fun c_18 => ?_)
      · refine ev_aload_0 i_pk_addUse_49 ?_
        refine ev_get i_pk_addUse_50 fl_pk_20 (by repeat (first | assumption | exact va_up_self _ _ _ | refine hu_ne (by first | assumption | exact Ne.symm (by assumption)) ?_)) rfl ?_
        refine ev_aload_0 i_pk_addUse_53 ?_
        refine ev_get i_pk_addUse_54 fl_pk_27 (by repeat (first | assumption | exact va_up_self _ _ _ | refine hu_ne (by first | assumption | exact Ne.symm (by assumption)) ?_)) rfl ?_
        refine ev_iload_1 i_pk_addUse_57 ?_
        refine ev_iastore i_pk_addUse_58 ty_int (by repeat (first | assumption | exact va_up_self _ _ _ | refine hu_ne (by first | assumption | exact Ne.symm (by assumption)) ?_)) (j := j) rfl (by omega) (by omega) ?_
        refine ev_aload_0 i_pk_addUse_59 ?_
        refine ev_get i_pk_addUse_60 fl_pk_24 (by repeat (first | assumption | exact va_up_self _ _ _ | refine hu_ne (by first | assumption | exact Ne.symm (by assumption)) ?_)) rfl ?_
        refine ev_aload_0 i_pk_addUse_63 ?_
        refine ev_get i_pk_addUse_64 fl_pk_27 (by repeat (first | assumption | exact va_up_self _ _ _ | refine hu_ne (by first | assumption | exact Ne.symm (by assumption)) ?_)) rfl ?_
        refine ev_iload_2 i_pk_addUse_67 ?_
        refine ev_iastore i_pk_addUse_68 ty_int (by repeat (first | assumption | exact va_up_self _ _ _ | refine hu_ne (by first | assumption | exact Ne.symm (by assumption)) ?_)) (j := j) rfl (by omega) (by omega) ?_
        refine ev_aload_0 i_pk_addUse_69 ?_
        refine ev_dup i_pk_addUse_70 rfl ?_
        refine ev_get i_pk_addUse_71 fl_pk_27 (by repeat (first | assumption | exact va_up_self _ _ _ | refine hu_ne (by first | assumption | exact Ne.symm (by assumption)) ?_)) rfl ?_
        refine ev_iconst (v := 1) i_pk_addUse_74 (by decide) ?_
        refine ev_iadd i_pk_addUse_75 ?_
        refine ev_top (nI_1 j) ?_
        refine ev_put i_pk_addUse_76 pl_pk_addUse_27 (by repeat (first | assumption | exact va_up_self _ _ _ | refine hu_ne (by first | assumption | exact Ne.symm (by assumption)) ?_)) rfl rfl (Nat.le_of_ble_eq_true rfl) rfl ?_
        refine ev_iconst (v := 1) i_pk_addUse_79 (by decide) ?_
        refine ev_ireturn i_pk_addUse_80 rfl rfl ?_
        exact ⟨_, rfl, Or.inl ⟨h6, hi, rfl, rfl⟩⟩
      · exact absurd (nI_le (Nat.le_refl _) (by omega)) c_18
    | succ m ih =>
      intro j hj hi
      have step : ¬ (U j = x ∧ V j = y) → Ev G M_pk_addUse 0 0 0 (ev_qi fun r h' => (n < 6 ∧ (∀ i, i < n → ¬ (U i = x ∧ V i = y)) ∧ r = 1 ∧ h' = va_up (va_up (va_up h u (some (aI G 6 (upd U n x)))) v (some (aI G 6 (upd V n y)))) a (some (pk_c f u v (n + 1) e))) ∨ ((6 ≤ n ∨ ∃ i, i < n ∧ U i = x ∧ V i = y) ∧ r = 0 ∧ h' = h)) 43 [some (.ref a), some (.int x), some (.int y), some (.int (nI j))] [] h := by
        intro hne
        refine ev_iinc_3 i_pk_addUse_43 (nI_1 j) rfl ?_
        refine ev_goto i_pk_addUse_46 ?_
        exact ih (j + 1) (by omega) (lt_s hi hne)
      refine ev_iload_3 i_pk_addUse_13 ?_
      refine ev_aload_0 i_pk_addUse_14 ?_
      refine ev_get i_pk_addUse_15 fl_pk_27 (by repeat (first | assumption | exact va_up_self _ _ _ | refine hu_ne (by first | assumption | exact Ne.symm (by assumption)) ?_)) rfl ?_
      refine ev_icmp_ge i_pk_addUse_18 (fun c_18 => ?_) (fun c_18 => ?_)
      · exact absurd c_18 (nI_ge (by omega) (by omega))
      refine ev_aload_0 i_pk_addUse_21 ?_
      refine ev_get i_pk_addUse_22 fl_pk_20 (by repeat (first | assumption | exact va_up_self _ _ _ | refine hu_ne (by first | assumption | exact Ne.symm (by assumption)) ?_)) rfl ?_
      refine ev_iload_3 i_pk_addUse_25 ?_
      refine ev_iaload i_pk_addUse_26 ty_int (by repeat (first | assumption | exact va_up_self _ _ _ | refine hu_ne (by first | assumption | exact Ne.symm (by assumption)) ?_)) (j := j) rfl (by omega) (by omega) ?_
      refine ev_iload_1 i_pk_addUse_27 ?_
      refine ev_icmp_ne i_pk_addUse_28 (fun c_28 => ?_) (fun c_28 => ?_)
      · exact step (fun z => c_28 z.1)
      refine ev_aload_0 i_pk_addUse_31 ?_
      refine ev_get i_pk_addUse_32 fl_pk_24 (by repeat (first | assumption | exact va_up_self _ _ _ | refine hu_ne (by first | assumption | exact Ne.symm (by assumption)) ?_)) rfl ?_
      refine ev_iload_3 i_pk_addUse_35 ?_
      refine ev_iaload i_pk_addUse_36 ty_int (by repeat (first | assumption | exact va_up_self _ _ _ | refine hu_ne (by first | assumption | exact Ne.symm (by assumption)) ?_)) (j := j) rfl (by omega) (by omega) ?_
      refine ev_iload_2 i_pk_addUse_37 ?_
      refine ev_icmp_ne i_pk_addUse_38 (fun c_38 => ?_) (fun c_38 => ?_)
      · exact step (fun z => c_38 z.2)
      refine ev_iconst (v := 0) i_pk_addUse_41 (by decide) ?_
      refine ev_ireturn i_pk_addUse_42 rfl rfl ?_
      exact ⟨_, rfl, Or.inr ⟨Or.inr ⟨j, by omega, c_28, c_38⟩, rfl, rfl⟩⟩
  exact loop n 0 (by omega) (fun i hi => absurd hi (Nat.not_lt_zero i))
end PK
