section OPS3
variable {G : ev_G} {h : ev_H}
variable {τ : Nat → Nat} {x ru w t l rd tx ea aa pp rv q1 q2 q3 q4 q5 : Nat} {fa fb : Nat → Nat} {n : Nat} {W : Nat → Int64} {T F : Nat → Int32} {len : Nat} {s : RS} {TX : Nat → Int32} {tc : Nat → Nat} {np : Nat} {P : Nat → Option Nat} {I : Nat → pkT} {rs : rvs} {K D : Nat → Int32} {c : Nat}
/-- a tick that may be -/
def tickV (y : Int32) (c : Nat) : Option Nat := if 0 ≤ y ∧ y ≤ 100000 ∧ c + y.toNatClampNeg ≤ 1000000000 then some y.toNatClampNeg else none
theorem r_lr_tick {y : Int32} (H : CI G h τ x ru w t l rd tx ea aa pp rv q1 q2 q3 q4 q5 fa fb n W T F len s TX tc np P I rs K D c) : Rn G M_lr_tick 0 0 0 [.ref x, .int y] h (ev_qi fun v h' => fo99 τ h h' ∧ ((∃ m, tickV y c = some m ∧ v = nI (c + m) ∧ CI G h' τ x ru w t l rd tx ea aa pp rv q1 q2 q3 q4 q5 fa fb n W T F len s TX tc np P I rs K D (c + m)) ∨ (tickV y c = none ∧ v = -1 ∧ CI G h' τ x ru w t l rd tx ea aa pp rv q1 q2 q3 q4 q5 fa fb n W T F len s TX tc np P I rs K D c))) := by
  obtain ⟨⟨x1, x2, x3⟩, -, -, -, -, z0, -⟩ := id H
  refine Rn_of (ls := [some (.ref x), some (.int y)]) rfl rfl (Nat.le_of_ble_eq_true rfl) rfl ?_
  refine ev_iload_1 i_lr_tick_0 ?_
  refine ev_if_lt i_lr_tick_1 (fun c_1 => ?_) (fun c_1 => ?_)
  · refine ev_iconst (v := (-1)) i_lr_tick_21 (by decide) ?_
    refine ev_ireturn i_lr_tick_22 rfl rfl ?_
    exact ⟨_, rfl, fo_rf, Or.inr ⟨by unfold tickV; rw [if_neg (fun q => absurd q.1 (Int32.not_le.mpr c_1))], rfl, H⟩⟩
  obtain ⟨m, hm, rfl⟩ := nI_of c_1
  refine ev_iload_1 i_lr_tick_4 ?_
  refine ev_ldc i_lr_tick_5 kc_lr_125 ?_
  refine ev_icmp_gt i_lr_tick_7 (fun c_7 => ?_) (fun c_7 => ?_)
  · refine ev_iconst (v := (-1)) i_lr_tick_21 (by decide) ?_
    refine ev_ireturn i_lr_tick_22 rfl rfl ?_
    exact ⟨_, rfl, fo_rf, Or.inr ⟨by unfold tickV; rw [if_neg (fun q => absurd q.2.1 (Int32.not_le.mpr c_7))], rfl, H⟩⟩
  have hm5 : m ≤ 100000 := by
    rcases Nat.lt_or_ge 100000 m with z | z
    · exact absurd (show nI 100000 < nI m from nI_lt z hm) c_7
    · exact z
  have sub : (1000000000 : Int32) - nI c = nI (1000000000 - c) := pk_sub (a := 1000000000) x2
  refine ev_iload_1 i_lr_tick_10 ?_
  refine ev_ldc i_lr_tick_11 kc_lr_126 ?_
  refine ev_aload_0 i_lr_tick_13 ?_
  refine ev_get i_lr_tick_14 fl_lr_40 (by repeat (first | assumption | exact va_up_self _ _ _ | refine hu_ne (by first | assumption | exact Ne.symm (by assumption)) ?_)) rfl ?_
  refine ev_isub i_lr_tick_17 ?_
  refine ev_top sub ?_
  refine ev_icmp_le i_lr_tick_18 (fun c_18 => ?_) (fun c_18 => ?_)
  rotate_left
  · have : ¬ c + m ≤ 1000000000 := fun z => c_18 (nI_le (by omega) (by omega))
    refine ev_iconst (v := (-1)) i_lr_tick_21 (by decide) ?_
    refine ev_ireturn i_lr_tick_22 rfl rfl ?_
    exact ⟨_, rfl, fo_rf, Or.inr ⟨by unfold tickV; rw [nI_clamp hm, if_neg (fun q => this q.2.2)], rfl, H⟩⟩
  have hle : m ≤ 1000000000 - c := (nI_leI (by omega) (by omega)).mp c_18
  refine ev_aload_0 i_lr_tick_23 ?_
  refine ev_dup i_lr_tick_24 rfl ?_
  refine ev_get i_lr_tick_25 fl_lr_40 (by repeat (first | assumption | exact va_up_self _ _ _ | refine hu_ne (by first | assumption | exact Ne.symm (by assumption)) ?_)) rfl ?_
  refine ev_iload_1 i_lr_tick_28 ?_
  refine ev_iadd i_lr_tick_29 ?_
  refine ev_top (nI_add c m) ?_
  refine ev_put i_lr_tick_30 pl_lr_tick_40 (by repeat (first | assumption | exact va_up_self _ _ _ | refine hu_ne (by first | assumption | exact Ne.symm (by assumption)) ?_)) rfl rfl (Nat.le_of_ble_eq_true rfl) rfl ?_
  refine ev_aload_0 i_lr_tick_33 ?_
  refine ev_get i_lr_tick_34 fl_lr_40 (by repeat (first | assumption | exact va_up_self _ _ _ | refine hu_ne (by first | assumption | exact Ne.symm (by assumption)) ?_)) rfl ?_
  refine ev_ireturn i_lr_tick_37 rfl rfl ?_
  refine ⟨_, rfl, fo_ag (ag_up z0) (by omega), Or.inl ⟨m, ?_, rfl, CI_X H (ag_up z0) (va_up_self _ _ _) (by omega)⟩⟩
  unfold tickV
  rw [nI_clamp hm, if_pos ⟨nI_pos' hm, show nI m ≤ nI 100000 from nI_le hm5 (by omega), by omega⟩]
/-- a use that is there already -/
def hasUse (u : Nat × (Nat → Int32) × (Nat → Int32)) (a b : Int32) : Bool := (List.range u.1).any (fun i => decide (u.2.1 i = a) && decide (u.2.2 i = b))
theorem r_lr_uses {i j y : Int32} (H : CI G h τ x ru w t l rd tx ea aa pp rv q1 q2 q3 q4 q5 fa fb n W T F len s TX tc np P I rs K D c) : Rn G M_lr_uses 1 0 0 [.ref x, .int i, .int j, .int y] h (ev_qi fun v h' => fo99 τ h h' ∧ ((∃ p p' k, p < np ∧ p' < np ∧ k < 3 ∧ ixv i np = some p ∧ ixv j np = some p' ∧ ixv y 3 = some k ∧ (I p).2.2.1.1 < 6 ∧ hasUse (I p).2.2.1 j y = false ∧ v = 1 ∧ CI G h' τ x ru w t l rd tx ea aa pp rv q1 q2 q3 q4 q5 fa fb n W T F len s TX tc np P (va_up I p ((I p).1, (I p).2.1, ((I p).2.2.1.1 + 1, upd (I p).2.2.1.2.1 (I p).2.2.1.1 j, upd (I p).2.2.1.2.2 (I p).2.2.1.1 y), (I p).2.2.2)) rs K D c) ∨ ((ixv i np = none ∨ ixv j np = none ∨ ixv y 3 = none ∨ ∃ p, p < np ∧ ixv i np = some p ∧ (6 ≤ (I p).2.2.1.1 ∨ hasUse (I p).2.2.1 j y = true)) ∧ v = 0 ∧ CI G h' τ x ru w t l rd tx ea aa pp rv q1 q2 q3 q4 q5 fa fb n W T F len s TX tc np P I rs K D c))) := by
  obtain ⟨⟨x1, x2, x3⟩, -, -, ⟨p1, p2⟩, -, z⟩ := id H
  obtain ⟨-, -, -, -, -, b1⟩ := z
  refine Rn_of (ls := [some (.ref x), some (.int i), some (.int j), some (.int y), none]) rfl rfl (Nat.le_of_ble_eq_true rfl) rfl ?_
  refine ev_aload_0 i_lr_uses_0 ?_
  refine ev_iload_1 i_lr_uses_1 ?_
  refine ev_vq1 i_lr_uses_2 lk_lr_67 cb_lr_packAt iv_lr_packAt (r_lr_packAt H) (by repeat (first | assumption | exact va_up_self _ _ _ | refine hu_ne (by first | assumption | exact Ne.symm (by assumption)) ?_)) rfl (by decide) (Nat.le_of_ble_eq_true rfl) rfl rfl (fun v h' hq => ?_)
  obtain ⟨rfl, ⟨p, hp, rfl, e, rfl⟩ | ⟨e, rfl⟩⟩ := hq
  rotate_left
  · refine ev_astoreN_4 i_lr_uses_5 rfl ?_
    refine ev_aloadN_4 i_lr_uses_7 ?_
    refine ev_ifnullN i_lr_uses_9 ?_
    refine ev_iconst (v := 0) i_lr_uses_27 (by decide) ?_
    refine ev_ireturn i_lr_uses_28 rfl rfl ?_
    exact ⟨_, rfl, fo_rf, Or.inr ⟨Or.inl e, rfl, H⟩⟩
  refine ev_astore_4 i_lr_uses_5 rfl ?_
  refine ev_aload_4 i_lr_uses_7 ?_
  refine ev_ifnull i_lr_uses_9 ?_
  refine ev_aload_0 i_lr_uses_12 ?_
  refine ev_iload_2 i_lr_uses_13 ?_
  refine ev_vq1 i_lr_uses_14 lk_lr_67 cb_lr_packAt iv_lr_packAt (r_lr_packAt H) (by repeat (first | assumption | exact va_up_self _ _ _ | refine hu_ne (by first | assumption | exact Ne.symm (by assumption)) ?_)) rfl (by decide) (Nat.le_of_ble_eq_true rfl) rfl rfl (fun v h' hq => ?_)
  obtain ⟨rfl, ⟨p', hp', rfl, e', rfl⟩ | ⟨e', rfl⟩⟩ := hq
  rotate_left
  · refine ev_ifnullN i_lr_uses_17 ?_
    refine ev_iconst (v := 0) i_lr_uses_27 (by decide) ?_
    refine ev_ireturn i_lr_uses_28 rfl rfl ?_
    exact ⟨_, rfl, fo_rf, Or.inr ⟨Or.inr (Or.inl e'), rfl, H⟩⟩
  refine ev_ifnull i_lr_uses_17 ?_
  refine ev_iload_3 i_lr_uses_20 ?_
  refine ev_ti1 i_lr_uses_21 lk_lr_51 cb_lr_isWay sv_lr_isWay (r_lr_isWay (y := y)) (by decide) (Nat.le_of_ble_eq_true rfl) rfl rfl (fun v h' hq => ?_)
  obtain ⟨rfl, rfl⟩ := hq
  rcases ix_cases y (show 3 < 2 ^ 31 by omega) with ⟨k, hk, rfl, ek⟩ | ⟨zz, ek⟩
  rotate_left
  · rw [show (if (ixv y 3).isSome = true then (1 : Int32) else 0) = 0 from by rw [ek]; rfl]
    refine ev_if_ne i_lr_uses_24 (fun c_24 => ?_) (fun c_24 => ?_)
    · exact absurd rfl c_24
    refine ev_iconst (v := 0) i_lr_uses_27 (by decide) ?_
    refine ev_ireturn i_lr_uses_28 rfl rfl ?_
    exact ⟨_, rfl, fo_rf, Or.inr ⟨Or.inr (Or.inr (Or.inl ek)), rfl, H⟩⟩
  rw [show (if (ixv (nI k) 3).isSome = true then (1 : Int32) else 0) = 1 from by rw [ek]; rfl]
  refine ev_if_ne i_lr_uses_24 (fun c_24 => ?_) (fun c_24 => ?_)
  rotate_left
  · exact absurd c_24 (by decide)
  obtain ⟨k1, k2, k3, k4, k5, k6, k7, k8, k9⟩ := (p2 p hp).2
  have tg := b1 p hp
  have n1 : (I p).1.1 ≠ (I p).1.2.2.2.1 := hne_of k1 k4 (fun z => by cases z)
  have n2 : (I p).1.1 ≠ (I p).1.2.2.2.2 := hne_of k1 k5 (fun z => by cases z)
  refine ev_aload_4 i_lr_uses_29 ?_
  refine ev_iload_2 i_lr_uses_31 ?_
  refine ev_iload_3 i_lr_uses_32 ?_
  refine ev_vi2 i_lr_uses_33 lk_lr_118 cb_pk_addUse iv_pk_addUse (r_pk_addUse (x := nI p') (y := nI k) k1 k4 k5 k6 k8) (by repeat (first | assumption | exact va_up_self _ _ _ | refine hu_ne (by first | assumption | exact Ne.symm (by assumption)) ?_)) rfl (by decide) (Nat.le_of_ble_eq_true rfl) rfl rfl (fun v h2 hq => ?_)
  rcases hq with ⟨g1, g2, rfl, rfl⟩ | ⟨g1, rfl, rfl⟩
  · have A : ag τ (5 + p) h' (va_up (va_up (va_up h' (I p).1.2.2.2.1 (some (aI G 6 (upd (I p).2.2.1.2.1 (I p).2.2.1.1 (nI p'))))) (I p).1.2.2.2.2 (some (aI G 6 (upd (I p).2.2.1.2.2 (I p).2.2.1.1 (nI k))))) (I p).1.1 (some (pk_c (I p).1.2.1 (I p).1.2.2.2.1 (I p).1.2.2.2.2 ((I p).2.2.1.1 + 1) (I p).2.2.2))) := ag_tr (ag_up tg.2.2.2.1) (ag_tr (ag_up tg.2.2.2.2) (ag_up tg.1))
    refine ev_ireturn i_lr_uses_36 rfl rfl ?_
    refine ⟨_, rfl, fo_ag A (by omega), Or.inl ⟨p, p', k, hp, hp', hk, e, e', ek, g1, ?_, rfl, CI_P H hp A rfl ?_⟩⟩
    · refine bn_f (fun z => ?_)
      obtain ⟨q, hq, z⟩ := List.any_eq_true.mp z
      simp only [Bool.and_eq_true, decide_eq_true_eq] at z
      exact g2 q (List.mem_range.mp hq) z
    · refine ⟨va_up_self _ _ _, hu_ne (hne_of k2 k1 (fun z => by cases z)) (hu_ne (hne_of k2 k5 (fun z => by cases z)) (hu_ne (hne_of k2 k4 (fun z => by cases z)) k2)), hu_ne (hne_of k3 k1 (fun z => by cases z)) (hu_ne (hne_of k3 k5 (al_ne2 (fun z => by cases z))) (hu_ne (hne_of k3 k4 (al_ne2 (fun z => by cases z))) k3)), hu_ne (Ne.symm n1) (hu_ne k6 (va_up_self _ _ _)), hu_ne (Ne.symm n2) (va_up_self _ _ _), k6, k7, by show (I p).2.2.1.1 + 1 ≤ 6; omega, fun q hq => ?_⟩
      show ∃ a b : Nat, a < np ∧ b < 3 ∧ upd (I p).2.2.1.2.1 (I p).2.2.1.1 (nI p') q = nI a ∧ upd (I p).2.2.1.2.2 (I p).2.2.1.1 (nI k) q = nI b
      by_cases ez : q = (I p).2.2.1.1
      · rw [ez, pk_us, pk_us]
        exact ⟨p', k, hp', hk, rfl, rfl⟩
      · rw [pk_un ez, pk_un ez]
        have hq' : q < (I p).2.2.1.1 + 1 := hq
        exact k9 q (by omega)
  · refine ev_ireturn i_lr_uses_36 rfl rfl ?_
    refine ⟨_, rfl, fo_rf, Or.inr ⟨Or.inr (Or.inr (Or.inr ⟨p, hp, e, ?_⟩)), rfl, H⟩⟩
    rcases g1 with g1 | ⟨q, hq, ga, gb⟩
    · exact Or.inl g1
    · exact Or.inr (List.any_eq_true.mpr ⟨q, List.mem_range.mpr hq, by simp [ga, gb]⟩)
theorem r_lr_entry {i what : Int32} (H : CI G h τ x ru w t l rd tx ea aa pp rv q1 q2 q3 q4 q5 fa fb n W T F len s TX tc np P I rs K D c) : Rn G M_lr_entry 1 0 0 [.ref x, .int i, .int what] h (ev_qi fun v h' => h' = h ∧ ((∃ j, i = nI j ∧ j < rs.1 ∧ ((what = 0 ∧ v = rs.2.1 j) ∨ (what = 1 ∧ v = rs.2.2.1 j) ∨ (what = 2 ∧ v = K j) ∨ (what = 3 ∧ v = D j) ∨ (what = 4 ∧ v = rs.2.2.2 j) ∨ ((what < 0 ∨ 4 < what) ∧ v = -1))) ∨ ((i < 0 ∨ nI rs.1 ≤ i) ∧ v = -1))) := by
  obtain ⟨⟨x1, x2, x3⟩, -, -, -, ⟨v1, v2, v3, v4, v5, v6, v7, v8⟩, -⟩ := id H
  refine Rn_of (ls := [some (.ref x), some (.int i), some (.int what)]) rfl rfl (Nat.le_of_ble_eq_true rfl) rfl ?_
  refine ev_aload_0 i_lr_entry_0 ?_
  refine ev_get i_lr_entry_1 fl_lr_32 (by repeat (first | assumption | exact va_up_self _ _ _ | refine hu_ne (by first | assumption | exact Ne.symm (by assumption)) ?_)) rfl ?_
  refine ev_iload_1 i_lr_entry_4 ?_
  refine ev_iload_2 i_lr_entry_5 ?_
  refine ev_vi2 i_lr_entry_6 lk_lr_135 cb_rv_tell iv_rv_tell (r_rv_tell (i := i) (what := what) v1 v2 v3 v4 v5 v6 v8.1) (by repeat (first | assumption | exact va_up_self _ _ _ | refine hu_ne (by first | assumption | exact Ne.symm (by assumption)) ?_)) rfl (by decide) (Nat.le_of_ble_eq_true rfl) rfl rfl (fun v h' hq => ?_)
  obtain ⟨rfl, hq⟩ := hq
  refine ev_ireturn i_lr_entry_9 rfl rfl ?_
  exact ⟨_, rfl, rfl, hq⟩
theorem r_lr_all (H : CI G h τ x ru w t l rd tx ea aa pp rv q1 q2 q3 q4 q5 fa fb n W T F len s TX tc np P I rs K D c) : Rn G M_lr_all 1 0 0 [.ref x] h (ev_qi fun v h' => h' = h ∧ v = orf D rs.1) := by
  obtain ⟨⟨x1, x2, x3⟩, -, -, -, ⟨v1, v2, v3, v4, v5, v6, v7, v8⟩, -⟩ := id H
  refine Rn_of (ls := [some (.ref x)]) rfl rfl (Nat.le_of_ble_eq_true rfl) rfl ?_
  refine ev_aload_0 i_lr_all_0 ?_
  refine ev_get i_lr_all_1 fl_lr_32 (by repeat (first | assumption | exact va_up_self _ _ _ | refine hu_ne (by first | assumption | exact Ne.symm (by assumption)) ?_)) rfl ?_
  refine ev_vi0 i_lr_all_4 lk_lr_138 cb_rv_joinedDuties iv_rv_joinedDuties (r_rv_joinedDuties v1 v5 v8.1) (by repeat (first | assumption | exact va_up_self _ _ _ | refine hu_ne (by first | assumption | exact Ne.symm (by assumption)) ?_)) rfl (by decide) (Nat.le_of_ble_eq_true rfl) rfl rfl (fun v h' hq => ?_)
  obtain ⟨rfl, rfl⟩ := hq
  refine ev_ireturn i_lr_all_7 rfl rfl ?_
  exact ⟨_, rfl, rfl, rfl⟩
theorem r_lr_material {i : Int32} (H : CI G h τ x ru w t l rd tx ea aa pp rv q1 q2 q3 q4 q5 fa fb n W T F len s TX tc np P I rs K D c) : Rn G M_lr_material 2 0 0 [.ref x, .int i] h (ev_qi fun v h' => h' = h ∧ v = dnum rs.2.1 i rs.1) := by
  obtain ⟨⟨x1, x2, x3⟩, -, -, -, ⟨v1, v2, v3, v4, v5, v6, v7, v8⟩, -⟩ := id H
  refine Rn_of (ls := [some (.ref x), some (.int i)]) rfl rfl (Nat.le_of_ble_eq_true rfl) rfl ?_
  refine ev_aload_0 i_lr_material_0 ?_
  refine ev_get i_lr_material_1 fl_lr_32 (by repeat (first | assumption | exact va_up_self _ _ _ | refine hu_ne (by first | assumption | exact Ne.symm (by assumption)) ?_)) rfl ?_
  refine ev_iload_1 i_lr_material_4 ?_
  refine ev_vi1 i_lr_material_5 lk_lr_141 cb_rv_distinctPack iv_rv_distinctPack (r_rv_distinctPack v1 v2 v8.1) (by repeat (first | assumption | exact va_up_self _ _ _ | refine hu_ne (by first | assumption | exact Ne.symm (by assumption)) ?_)) rfl (by decide) (Nat.le_of_ble_eq_true rfl) rfl rfl (fun v h' hq => ?_)
  obtain ⟨rfl, rfl⟩ := hq
  refine ev_ireturn i_lr_material_8 rfl rfl ?_
  exact ⟨_, rfl, rfl, rfl⟩
theorem r_lr_score {y : Int64} {i : Int32} (H : CI G h τ x ru w t l rd tx ea aa pp rv q1 q2 q3 q4 q5 fa fb n W T F len s TX tc np P I rs K D c) : Rn G M_lr_score 2 0 0 [.ref x, .long y, .int i] h (ev_qi fun v h' => h' = h ∧ ((∃ j, j < n ∧ ixv i n = some j ∧ v = cscore y (W j)) ∨ (ixv i n = none ∧ v = -1))) := by
  obtain ⟨⟨x1, x2, x3⟩, ⟨u1, u2, u3, u4, u5⟩, -⟩ := id H
  refine Rn_of (ls := [some (.ref x), some (.long y), none, some (.int i)]) rfl rfl (Nat.le_of_ble_eq_true rfl) rfl ?_
  refine ev_aload_0 i_lr_score_0 ?_
  refine ev_get i_lr_score_1 fl_lr_12 (by repeat (first | assumption | exact va_up_self _ _ _ | refine hu_ne (by first | assumption | exact Ne.symm (by assumption)) ?_)) rfl ?_
  refine ev_iload_3 i_lr_score_4 ?_
  refine ev_vi1 i_lr_score_5 lk_lr_47 cb_ru_hasLicence iv_ru_hasLicence (r_ru_hasLicence (x := i) u1) (by repeat (first | assumption | exact va_up_self _ _ _ | refine hu_ne (by first | assumption | exact Ne.symm (by assumption)) ?_)) rfl (by decide) (Nat.le_of_ble_eq_true rfl) rfl rfl (fun v h' hq => ?_)
  obtain ⟨rfl, rfl⟩ := hq
  rcases ix_cases i (show n < 2 ^ 31 by omega) with ⟨j, hj, rfl, ej⟩ | ⟨zz, ej⟩
  · rw [if_pos ⟨nI_pos' (by omega), nI_lt hj (by omega)⟩]
    refine ev_if_eq i_lr_score_8 (fun c_8 => ?_) (fun c_8 => ?_)
    · exact absurd c_8 (by decide)
    refine ev_aload_0 i_lr_score_11 ?_
    refine ev_get i_lr_score_12 fl_lr_12 (by repeat (first | assumption | exact va_up_self _ _ _ | refine hu_ne (by first | assumption | exact Ne.symm (by assumption)) ?_)) rfl ?_
    refine ev_lload_1 i_lr_score_15 ?_
    refine ev_iload_3 i_lr_score_16 ?_
    refine ev_vi2 i_lr_score_17 lk_lr_144 cb_ru_scoreOf iv_ru_scoreOf (r_ru_scoreOf (x := y) u1 u2 (show j < 16 by omega)) (by repeat (first | assumption | exact va_up_self _ _ _ | refine hu_ne (by first | assumption | exact Ne.symm (by assumption)) ?_)) rfl (by decide) (Nat.le_of_ble_eq_true rfl) rfl rfl (fun v h' hq => ?_)
    obtain ⟨rfl, rfl⟩ := hq
    refine ev_goto i_lr_score_20 ?_
    refine ev_ireturn i_lr_score_24 rfl rfl ?_
    exact ⟨_, rfl, rfl, Or.inl ⟨j, hj, ej, rfl⟩⟩
  · rw [if_neg (by rintro ⟨g1, g2⟩; rcases zz with q | q; exact absurd g1 (Int32.not_le.mpr q); exact absurd g2 (Int32.not_lt.mpr q))]
    refine ev_if_eq i_lr_score_8 (fun c_8 => ?_) (fun c_8 => ?_)
    · refine ev_iconst (v := (-1)) i_lr_score_23 (by decide) ?_
      refine ev_ireturn i_lr_score_24 rfl rfl ?_
      exact ⟨_, rfl, rfl, Or.inr ⟨ej, rfl⟩⟩
    · exact absurd rfl c_8
/-- the first and the second one found, and their score, among the first licences -/
def fnd (W : Nat → Int64) (y : Int64) : Nat → Int32 × Int32 × Int32
  | 0 => (-1, -1, 59)
  | i + 1 => if (fnd W y i).2.2 < cscore y (W i) then (nI i, -1, cscore y (W i)) else if cscore y (W i) = (fnd W y i).2.2 ∧ ¬ (fnd W y i).1 = -1 ∧ (fnd W y i).2.1 = -1 then ((fnd W y i).1, nI i, (fnd W y i).2.2) else fnd W y i
theorem fnd_s (W : Nat → Int64) (y : Int64) (i : Nat) : fnd W y (i + 1) = if (fnd W y i).2.2 < cscore y (W i) then (nI i, -1, cscore y (W i)) else if cscore y (W i) = (fnd W y i).2.2 ∧ ¬ (fnd W y i).1 = -1 ∧ (fnd W y i).2.1 = -1 then ((fnd W y i).1, nI i, (fnd W y i).2.2) else fnd W y i := rfl
theorem r_lr_found {y : Int64} {o : Int32} (H : CI G h τ x ru w t l rd tx ea aa pp rv q1 q2 q3 q4 q5 fa fb n W T F len s TX tc np P I rs K D c) : Rn G M_lr_found 2 0 0 [.ref x, .long y, .int o] h (ev_qi fun v h' => h' = h ∧ v = (if o = 0 then (fnd W y n).1 else if o = 1 then (fnd W y n).2.1 else -1)) := by
  obtain ⟨⟨x1, x2, x3⟩, ⟨u1, u2, u3, u4, u5⟩, -⟩ := id H
  have main : (o = 0 ∨ o = 1) → Ev G M_lr_found 2 0 0 (ev_qi fun v h' => h' = h ∧ v = (if o = 0 then (fnd W y n).1 else if o = 1 then (fnd W y n).2.1 else -1)) 11 [some (.ref x), some (.long y), none, some (.int o), none, none, none, none, none] [] h := by
    intro ho
    refine ev_iconst (v := (-1)) i_lr_found_11 (by decide) ?_
    refine ev_istore_4 i_lr_found_12 rfl ?_
    refine ev_iconst (v := (-1)) i_lr_found_14 (by decide) ?_
    refine ev_istore_5 i_lr_found_15 rfl ?_
    refine ev_bipush (v := 59) i_lr_found_17 (by decide) ?_
    refine ev_istore_6 i_lr_found_19 rfl ?_
    refine ev_iconst (v := 0) i_lr_found_21 (by decide) ?_
    refine ev_istore_7 i_lr_found_22 rfl ?_
    have loop : ∀ (m i : Nat) (w8 : Option Value), ev_nl w8 = true → i + m = n → Ev G M_lr_found 2 0 0 (ev_qi fun v h' => h' = h ∧ v = (if o = 0 then (fnd W y n).1 else if o = 1 then (fnd W y n).2.1 else -1)) 24 [some (.ref x), some (.long y), none, some (.int o), some (.int (fnd W y i).1), some (.int (fnd W y i).2.1), some (.int (fnd W y i).2.2), some (.int (nI i)), w8] [] h := by
      intro m
      induction m with
      | zero =>
        intro i w8 hw8 hi
        obtain rfl : i = n := by omega
        refine ev_iload_7 i_lr_found_24 ?_
        refine ev_aload_0 i_lr_found_26 ?_
        refine ev_get i_lr_found_27 fl_lr_12 (by repeat (first | assumption | exact va_up_self _ _ _ | refine hu_ne (by first | assumption | exact Ne.symm (by assumption)) ?_)) rfl ?_
        refine ev_vi0 i_lr_found_30 lk_lr_71 cb_ru_licenceCount iv_ru_licenceCount (r_ru_licenceCount u1) (by repeat (first | assumption | exact va_up_self _ _ _ | refine hu_ne (by first | assumption | exact Ne.symm (by assumption)) ?_)) rfl (by decide) (Nat.le_of_ble_eq_true rfl) rfl rfl (fun v h' hq => ?_)
        obtain ⟨rfl, rfl⟩ := hq
        refine ev_icmp_ge i_lr_found_33 (fun c_33 => ?_) (fun c_33 => ?_)
        rotate_left
        · exact absurd (nI_le (Nat.le_refl _) (by omega)) c_33
        refine ev_iload_3 i_lr_found_98 ?_
        refine ev_if_ne i_lr_found_99 (fun c_99 => ?_) (fun c_99 => ?_)
        · refine ev_iload_5 i_lr_found_107 ?_
          refine ev_ireturn i_lr_found_109 rfl rfl ?_
          exact ⟨_, rfl, rfl, by rw [if_neg c_99, if_pos (ho.resolve_left c_99)]⟩
        · refine ev_iload_4 i_lr_found_102 ?_
          refine ev_goto i_lr_found_104 ?_
          refine ev_ireturn i_lr_found_109 rfl rfl ?_
          exact ⟨_, rfl, rfl, by rw [if_pos c_99]⟩
      | succ m ih =>
        intro i w8 hw8 hi
        have nx := ih (i + 1) (some (.int (cscore y (W i)))) rfl (by omega)
        refine ev_iload_7 i_lr_found_24 ?_
        refine ev_aload_0 i_lr_found_26 ?_
        refine ev_get i_lr_found_27 fl_lr_12 (by repeat (first | assumption | exact va_up_self _ _ _ | refine hu_ne (by first | assumption | exact Ne.symm (by assumption)) ?_)) rfl ?_
        refine ev_vi0 i_lr_found_30 lk_lr_71 cb_ru_licenceCount iv_ru_licenceCount (r_ru_licenceCount u1) (by repeat (first | assumption | exact va_up_self _ _ _ | refine hu_ne (by first | assumption | exact Ne.symm (by assumption)) ?_)) rfl (by decide) (Nat.le_of_ble_eq_true rfl) rfl rfl (fun v h' hq => ?_)
        obtain ⟨rfl, rfl⟩ := hq
        refine ev_icmp_ge i_lr_found_33 (fun c_33 => ?_) (fun c_33 => ?_)
        · exact absurd c_33 (nI_ge (by omega) (by omega))
        refine ev_aload_0 i_lr_found_36 ?_
        refine ev_get i_lr_found_37 fl_lr_12 (by repeat (first | assumption | exact va_up_self _ _ _ | refine hu_ne (by first | assumption | exact Ne.symm (by assumption)) ?_)) rfl ?_
        refine ev_lload_1 i_lr_found_40 ?_
        refine ev_iload_7 i_lr_found_41 ?_
        refine ev_vi2 i_lr_found_43 lk_lr_144 cb_ru_scoreOf iv_ru_scoreOf (r_ru_scoreOf (x := y) u1 u2 (show i < 16 by omega)) (by repeat (first | assumption | exact va_up_self _ _ _ | refine hu_ne (by first | assumption | exact Ne.symm (by assumption)) ?_)) rfl (by decide) (Nat.le_of_ble_eq_true rfl) rfl rfl (fun v h2 hq => ?_)
        obtain ⟨rfl, rfl⟩ := hq
        refine ev_istore_8 i_lr_found_46 rfl ?_
        refine ev_iload_8 i_lr_found_48 ?_
        refine ev_iload_6 i_lr_found_50 ?_
        refine ev_icmp_le i_lr_found_52 (fun c_52 => ?_) (fun c_52 => ?_)
        rotate_left
        · rw [show fnd W y (i + 1) = (nI i, -1, cscore y (W i)) from by rw [fnd_s, if_pos (Int32.not_le.mp c_52)]] at nx
          refine ev_iload_8 i_lr_found_55 ?_
          refine ev_istore_6 i_lr_found_57 rfl ?_
          refine ev_iload_7 i_lr_found_59 ?_
          refine ev_istore_4 i_lr_found_61 rfl ?_
          refine ev_iconst (v := (-1)) i_lr_found_63 (by decide) ?_
          refine ev_istore_5 i_lr_found_64 rfl ?_
          refine ev_goto i_lr_found_66 ?_
          refine ev_iinc_7 i_lr_found_92 (nI_1 i) rfl ?_
          refine ev_goto i_lr_found_95 ?_
          exact nx
        have c52 := Int32.not_lt.mpr c_52
        refine ev_iload_8 i_lr_found_69 ?_
        refine ev_iload_6 i_lr_found_71 ?_
        refine ev_icmp_ne i_lr_found_73 (fun c_73 => ?_) (fun c_73 => ?_)
        · rw [show fnd W y (i + 1) = fnd W y i from by rw [fnd_s, if_neg c52, if_neg (fun z => c_73 z.1)]] at nx
          refine ev_iinc_7 i_lr_found_92 (nI_1 i) rfl ?_
          refine ev_goto i_lr_found_95 ?_
          exact nx
        refine ev_iload_4 i_lr_found_76 ?_
        refine ev_iconst (v := (-1)) i_lr_found_78 (by decide) ?_
        refine ev_icmp_eq i_lr_found_79 (fun c_79 => ?_) (fun c_79 => ?_)
        · rw [show fnd W y (i + 1) = fnd W y i from by rw [fnd_s, if_neg c52, if_neg (fun z => z.2.1 c_79)]] at nx
          refine ev_iinc_7 i_lr_found_92 (nI_1 i) rfl ?_
          refine ev_goto i_lr_found_95 ?_
          exact nx
        refine ev_iload_5 i_lr_found_82 ?_
        refine ev_iconst (v := (-1)) i_lr_found_84 (by decide) ?_
        refine ev_icmp_ne i_lr_found_85 (fun c_85 => ?_) (fun c_85 => ?_)
        · rw [show fnd W y (i + 1) = fnd W y i from by rw [fnd_s, if_neg c52, if_neg (fun z => c_85 z.2.2)]] at nx
          refine ev_iinc_7 i_lr_found_92 (nI_1 i) rfl ?_
          refine ev_goto i_lr_found_95 ?_
          exact nx
        · rw [show fnd W y (i + 1) = ((fnd W y i).1, nI i, (fnd W y i).2.2) from by rw [fnd_s, if_neg c52, if_pos ⟨c_73, c_79, c_85⟩]] at nx
          refine ev_iload_7 i_lr_found_88 ?_
          refine ev_istore_5 i_lr_found_90 rfl ?_
          refine ev_iinc_7 i_lr_found_92 (nI_1 i) rfl ?_
          refine ev_goto i_lr_found_95 ?_
          exact nx
    exact loop n 0 none rfl (by omega)
  refine Rn_of (ls := [some (.ref x), some (.long y), none, some (.int o), none, none, none, none, none]) rfl rfl (Nat.le_of_ble_eq_true rfl) rfl ?_
  refine ev_iload_3 i_lr_found_0 ?_
  refine ev_if_eq i_lr_found_1 (fun c_1 => ?_) (fun c_1 => ?_)
  · exact main (Or.inl c_1)
  refine ev_iload_3 i_lr_found_4 ?_
  refine ev_iconst (v := 1) i_lr_found_5 (by decide) ?_
  refine ev_icmp_eq i_lr_found_6 (fun c_6 => ?_) (fun c_6 => ?_)
  · exact main (Or.inr c_6)
  refine ev_iconst (v := (-1)) i_lr_found_9 (by decide) ?_
  refine ev_ireturn i_lr_found_10 rfl rfl ?_
  exact ⟨_, rfl, rfl, by rw [if_neg c_1, if_neg c_6]⟩
theorem r_lr_review {i y : Int32} (H : CI G h τ x ru w t l rd tx ea aa pp rv q1 q2 q3 q4 q5 fa fb n W T F len s TX tc np P I rs K D c) : Rn G M_lr_review 5 0 0 [.ref x, .int i, .int y] h (ev_qi fun v h' => fo99 τ h h' ∧ ((∃ p k rs', p < np ∧ k < 3 ∧ ixv i np = some p ∧ ixv y 3 = some k ∧ rs' = rv_out (fun p => (I p).2.2.1) (rv_add (0, rs.2.1, rs.2.2.1, rs.2.2.2) (nI p) (nI k) (-1)) 48 ∧ v = nI (sumb (fun q => decide ((ent I rs' T F (nI c) q).1 = 2)) rs'.1) ∧ CI G h' τ x ru w t l rd tx ea aa pp rv q1 q2 q3 q4 q5 fa fb n W T F len s TX tc np P I rs' (kf (fun q => (ent I rs' T F (nI c) q).1) K rs'.1) (kf (fun q => (ent I rs' T F (nI c) q).2) D rs'.1) c) ∨ ((ixv i np = none ∨ ixv y 3 = none) ∧ v = -1 ∧ CI G h' τ x ru w t l rd tx ea aa pp rv q1 q2 q3 q4 q5 fa fb n W T F len s TX tc np P I rs K D c))) := by
  obtain ⟨⟨x1, x2, x3⟩, ⟨u1, u2, u3, u4, u5⟩, -, ⟨p1, p2⟩, ⟨v1, v2, v3, v4, v5, v6, v7, v8⟩, z⟩ := id H
  obtain ⟨z0, ⟨z1, z2, z3, z4⟩, -, ⟨a0, a1, a2, a3, a4, a5⟩, -⟩ := z
  refine Rn_of (ls := [some (.ref x), some (.int i), some (.int y)]) rfl rfl (Nat.le_of_ble_eq_true rfl) rfl ?_
  refine ev_aload_0 i_lr_review_0 ?_
  refine ev_iload_1 i_lr_review_1 ?_
  refine ev_vq1 i_lr_review_2 lk_lr_67 cb_lr_packAt iv_lr_packAt (r_lr_packAt H) (by repeat (first | assumption | exact va_up_self _ _ _ | refine hu_ne (by first | assumption | exact Ne.symm (by assumption)) ?_)) rfl (by decide) (Nat.le_of_ble_eq_true rfl) rfl rfl (fun v h' hq => ?_)
  obtain ⟨rfl, ⟨p, hp, rfl, e, rfl⟩ | ⟨e, rfl⟩⟩ := hq
  rotate_left
  · refine ev_ifnullN i_lr_review_5 ?_
    refine ev_iconst (v := (-1)) i_lr_review_15 (by decide) ?_
    refine ev_ireturn i_lr_review_16 rfl rfl ?_
    exact ⟨_, rfl, fo_rf, Or.inr ⟨Or.inl e, rfl, H⟩⟩
  refine ev_ifnull i_lr_review_5 ?_
  refine ev_iload_2 i_lr_review_8 ?_
  refine ev_ti1 i_lr_review_9 lk_lr_51 cb_lr_isWay sv_lr_isWay (r_lr_isWay (y := y)) (by decide) (Nat.le_of_ble_eq_true rfl) rfl rfl (fun v h' hq => ?_)
  obtain ⟨rfl, rfl⟩ := hq
  rcases ix_cases y (show 3 < 2 ^ 31 by omega) with ⟨k, hk, rfl, ek⟩ | ⟨zz, ek⟩
  rotate_left
  · rw [show (if (ixv y 3).isSome = true then (1 : Int32) else 0) = 0 from by rw [ek]; rfl]
    refine ev_if_ne i_lr_review_12 (fun c_12 => ?_) (fun c_12 => ?_)
    · exact absurd rfl c_12
    refine ev_iconst (v := (-1)) i_lr_review_15 (by decide) ?_
    refine ev_ireturn i_lr_review_16 rfl rfl ?_
    exact ⟨_, rfl, fo_rf, Or.inr ⟨Or.inr ek, rfl, H⟩⟩
  rw [show (if (ixv (nI k) 3).isSome = true then (1 : Int32) else 0) = 1 from by rw [ek]; rfl]
  refine ev_if_ne i_lr_review_12 (fun c_12 => ?_) (fun c_12 => ?_)
  rotate_left
  · exact absurd c_12 (by decide)
  refine ev_aload_0 i_lr_review_17 ?_
  refine ev_get i_lr_review_18 fl_lr_32 (by repeat (first | assumption | exact va_up_self _ _ _ | refine hu_ne (by first | assumption | exact Ne.symm (by assumption)) ?_)) rfl ?_
  refine ev_aload_0 i_lr_review_21 ?_
  refine ev_get i_lr_review_22 fl_lr_25 (by repeat (first | assumption | exact va_up_self _ _ _ | refine hu_ne (by first | assumption | exact Ne.symm (by assumption)) ?_)) rfl ?_
  refine ev_iload_1 i_lr_review_25 ?_
  refine ev_iload_2 i_lr_review_26 ?_
  refine ev_vv3 i_lr_review_27 lk_lr_127 cb_rv_walk iv_rv_walk (r_rv_walk v7 v1 v2 v3 v6 p1 p2 x3 hp hk) (by repeat (first | assumption | exact va_up_self _ _ _ | refine hu_ne (by first | assumption | exact Ne.symm (by assumption)) ?_)) rfl (by decide) (Nat.le_of_ble_eq_true rfl) rfl rfl (fun h2 hq => ?_)
  obtain ⟨rfl, hok⟩ := hq
  generalize ers : rv_out (fun p => (I p).2.2.1) (rv_add (0, rs.2.1, rs.2.2.1, rs.2.2.2) (nI p) (nI k) (-1)) 48 = rs' at hok ⊢
  have na1 : rv ≠ q1 := hne_of v1 v2 (fun z => by cases z)
  have na2 : rv ≠ q2 := hne_of v1 v3 (fun z => by cases z)
  have na3 : rv ≠ q3 := hne_of v1 v4 (fun z => by cases z)
  have na4 : rv ≠ q4 := hne_of v1 v5 (fun z => by cases z)
  have na5 : rv ≠ q5 := hne_of v1 v6 (fun z => by cases z)
  have A1 : ag τ 3 h' (rv_h G h' rv q1 q2 q3 q4 q5 rs') := ag_tr (ag_up a1) (ag_tr (ag_up a2) (ag_tr (ag_up a5) (ag_up a0)))
  obtain ⟨f0, f1, f2, f5⟩ := rv_h_facts (G := G) (h := h') (s := rs') (q3 := q3) (q4 := q4) v7 na1 na2 na5
  have f3 : rv_h G h' rv q1 q2 q3 q4 q5 rs' q3 = some (aI G 48 K) := hu_ne (Ne.symm na3) (hu_ne v7.2.2.2.2.2.2.2.2.1 (hu_ne (Ne.symm v7.2.2.2.2.1) (hu_ne (Ne.symm v7.2.1) v4)))
  have f4 : rv_h G h' rv q1 q2 q3 q4 q5 rs' q4 = some (aI G 48 D) := hu_ne (Ne.symm na4) (hu_ne v7.2.2.2.2.2.2.2.2.2 (hu_ne (Ne.symm v7.2.2.2.2.2.1) (hu_ne (Ne.symm v7.2.2.1) v5)))
  have H2 := CI_V H A1 f0 f1 f2 f3 f4 f5 hok
  generalize rv_h G h' rv q1 q2 q3 q4 q5 rs' = g at A1 f0 f1 f2 f3 f4 f5 H2 ⊢
  obtain ⟨⟨x1', x2', x3'⟩, ⟨u1', u2', u3', u4', u5'⟩, -, ⟨p1', p2'⟩, -⟩ := id H2
  refine ev_aload_0 i_lr_review_30 ?_
  refine ev_get i_lr_review_31 fl_lr_32 (by repeat (first | assumption | exact va_up_self _ _ _ | refine hu_ne (by first | assumption | exact Ne.symm (by assumption)) ?_)) rfl ?_
  refine ev_aload_0 i_lr_review_34 ?_
  refine ev_get i_lr_review_35 fl_lr_25 (by repeat (first | assumption | exact va_up_self _ _ _ | refine hu_ne (by first | assumption | exact Ne.symm (by assumption)) ?_)) rfl ?_
  refine ev_aload_0 i_lr_review_38 ?_
  refine ev_get i_lr_review_39 fl_lr_12 (by repeat (first | assumption | exact va_up_self _ _ _ | refine hu_ne (by first | assumption | exact Ne.symm (by assumption)) ?_)) rfl ?_
  refine ev_aload_0 i_lr_review_42 ?_
  refine ev_get i_lr_review_43 fl_lr_40 (by repeat (first | assumption | exact va_up_self _ _ _ | refine hu_ne (by first | assumption | exact Ne.symm (by assumption)) ?_)) rfl ?_
  refine ev_vi3 i_lr_review_46 lk_lr_131 cb_rv_judge iv_rv_judge (r_rv_judge (clock := nI c) v7 f0 f1 f2 f3 f4 hok p1' p2' x3 u1' u3' u4' ⟨fun z => by subst z; omega, fun z => by subst z; omega⟩) (by repeat (first | assumption | exact va_up_self _ _ _ | refine hu_ne (by first | assumption | exact Ne.symm (by assumption)) ?_)) rfl (by decide) (Nat.le_of_ble_eq_true rfl) rfl rfl (fun v h3 hq => ?_)
  obtain ⟨rfl, rfl⟩ := hq
  have A2 : ag τ 3 g (jh G g q3 q4 (kf (fun q => (ent I rs' T F (nI c) q).1) K rs'.1) (kf (fun q => (ent I rs' T F (nI c) q).2) D rs'.1)) := ag_tr (ag_up a4) (ag_up a3)
  refine ev_ireturn i_lr_review_49 rfl rfl ?_
  refine ⟨_, rfl, fo_ag (ag_tr A1 A2) (by omega), Or.inl ⟨p, k, rs', hp, hk, e, ek, ers.symm, rfl, CI_V H2 A2 ?_ ?_ ?_ (va_up_self _ _ _) ?_ ?_ hok⟩⟩
  · exact hu_ne na3 (hu_ne na4 f0)
  · exact hu_ne v7.2.1 (hu_ne v7.2.2.1 f1)
  · exact hu_ne v7.2.2.2.2.1 (hu_ne v7.2.2.2.2.2.1 f2)
  · exact hu_ne (Ne.symm v7.2.2.2.2.2.2.2.1) (va_up_self _ _ _)
  · exact hu_ne (Ne.symm v7.2.2.2.2.2.2.2.2.1) (hu_ne (Ne.symm v7.2.2.2.2.2.2.2.2.2) f5)
end OPS3
