section MO2
variable {G : ev_G} {h h0 : ev_H} {m : Nat} {ad : Nat → Nat} {sc : Nat → Int32} {A : Nat → Nat → Int32} {Wd : Nat → Int64}
theorem isw_1 {o : Option Nat} {j : Nat} (e : o = some j) : (if o.isSome = true then (1 : Int32) else 0) = 1 := by rw [e]; rfl
theorem isw_0 {o : Option Nat} (e : o = none) : (if o.isSome = true then (1 : Int32) else 0) = 0 := by rw [e]; rfl
/-- the two arrays of rules -/
def mrule (A : Nat → Nat → Int32) (j : Nat) (kd du : Int32) : Nat → Nat → Int32 := va_up (va_up A 5 (upd (A 5) j kd)) 6 (upd (A 6) j (if kd = 1 then du &&& 255 else 0))
theorem r_mo_rule {y1 y2 kd du : Int32} {n : Nat} (H : MI G h0 h m ad sc A Wd) (hn : sc 2 = nI n) (hn2 : n ≤ 16) : Rn G M_mo_rule 1 0 0 [.ref m, .int y1, .int y2, .int kd, .int du] h (ev_qi fun v h' => (∃ j k, ixv y1 n = some j ∧ ixv y2 3 = some k ∧ 0 ≤ kd ∧ kd ≤ 2 ∧ ¬ (kd = 1 ∧ du &&& 255 = 0) ∧ v = 1 ∧ MI G h0 h' m ad (va_up sc 0 0) (mrule A (3 * j + k) kd du) Wd) ∨ ((ixv y1 n = none ∨ ixv y2 3 = none ∨ ¬ (0 ≤ kd ∧ kd ≤ 2 ∧ ¬ (kd = 1 ∧ du &&& 255 = 0))) ∧ v = 0 ∧ MI G h0 h' m ad (va_up sc 0 0) A Wd)) := by
  refine Rn_of (ls := [some (.ref m), some (.int y1), some (.int y2), some (.int kd), some (.int du)]) rfl rfl (Nat.le_of_ble_eq_true rfl) rfl ?_
  refine ev_aload_0 i_mo_rule_0 ?_
  refine ev_iconst (v := 0) i_mo_rule_1 (by decide) ?_
  refine ev_p0 i_mo_rule_2 pl_mo_rule_81 H (fun h H => ?_)
  refine ev_aload_0 i_mo_rule_5 ?_
  refine ev_iload_1 i_mo_rule_6 ?_
  refine ev_vi1 i_mo_rule_7 lk_mo_91 cb_mo_isLicence iv_mo_isLicence (r_mo_isLicence (y := y1) (n := n) H hn (by omega)) H.1 rfl (by decide) (Nat.le_of_ble_eq_true rfl) rfl rfl (fun v h' hq => ?_)
  obtain ⟨rfl, rfl⟩ := hq
  rcases ix_cases y1 (show n < 2 ^ 31 by omega) with ⟨j, hj, rfl, ej⟩ | ⟨-, ej⟩
  rotate_left
  · rw [isw_0 ej]
    refine ev_if_eq i_mo_rule_10 (fun c_10 => ?_) (fun c_10 => ?_)
    · refine ev_iconst (v := 0) i_mo_rule_43 (by decide) ?_
      refine ev_ireturn i_mo_rule_44 rfl rfl ?_
      exact ⟨_, rfl, Or.inr ⟨Or.inl ej, rfl, H⟩⟩
    · exact absurd rfl c_10
  rw [isw_1 ej]
  refine ev_if_eq i_mo_rule_10 (fun c_10 => ?_) (fun c_10 => ?_)
  · exact absurd c_10 (by decide)
  refine ev_iload_2 i_mo_rule_13 ?_
  refine ev_ti1 i_mo_rule_14 lk_mo_95 cb_mo_isWay sv_mo_isWay (r_mo_isWay (y := y2)) (by decide) (Nat.le_of_ble_eq_true rfl) rfl rfl (fun v h'' hq => ?_)
  obtain ⟨rfl, rfl⟩ := hq
  rcases ix_cases y2 (show 3 < 2 ^ 31 by omega) with ⟨k, hk, rfl, ek⟩ | ⟨-, ek⟩
  rotate_left
  · rw [isw_0 ek]
    refine ev_if_eq i_mo_rule_17 (fun c_17 => ?_) (fun c_17 => ?_)
    · refine ev_iconst (v := 0) i_mo_rule_43 (by decide) ?_
      refine ev_ireturn i_mo_rule_44 rfl rfl ?_
      exact ⟨_, rfl, Or.inr ⟨Or.inr (Or.inl ek), rfl, H⟩⟩
    · exact absurd rfl c_17
  rw [isw_1 ek]
  refine ev_if_eq i_mo_rule_17 (fun c_17 => ?_) (fun c_17 => ?_)
  · exact absurd c_17 (by decide)
  refine ev_iload_3 i_mo_rule_20 ?_
  refine ev_if_lt i_mo_rule_21 (fun c_21 => ?_) (fun c_21 => ?_)
  · refine ev_iconst (v := 0) i_mo_rule_43 (by decide) ?_
    refine ev_ireturn i_mo_rule_44 rfl rfl ?_
    exact ⟨_, rfl, Or.inr ⟨Or.inr (Or.inr (fun z => absurd z.1 (Int32.not_le.mpr c_21))), rfl, H⟩⟩
  refine ev_iload_3 i_mo_rule_24 ?_
  refine ev_iconst (v := 2) i_mo_rule_25 (by decide) ?_
  refine ev_icmp_gt i_mo_rule_26 (fun c_26 => ?_) (fun c_26 => ?_)
  · refine ev_iconst (v := 0) i_mo_rule_43 (by decide) ?_
    refine ev_ireturn i_mo_rule_44 rfl rfl ?_
    exact ⟨_, rfl, Or.inr ⟨Or.inr (Or.inr (fun z => absurd z.2.1 (Int32.not_le.mpr c_26))), rfl, H⟩⟩
  have e3 : ∀ v : Nat, (3 : Int32) * nI j + nI k = nI (3 * j + k) := fun _ => by rw [nI_3, pk_mul, nI_add]
  have fin : ¬ (kd = 1 ∧ du &&& 255 = 0) → Ev G M_mo_rule 1 0 0 (ev_qi fun v h' => (∃ j' k', ixv (nI j) n = some j' ∧ ixv (nI k) 3 = some k' ∧ 0 ≤ kd ∧ kd ≤ 2 ∧ ¬ (kd = 1 ∧ du &&& 255 = 0) ∧ v = 1 ∧ MI G h0 h' m ad (va_up sc 0 0) (mrule A (3 * j' + k') kd du) Wd) ∨ ((ixv (nI j) n = none ∨ ixv (nI k) 3 = none ∨ ¬ (0 ≤ kd ∧ kd ≤ 2 ∧ ¬ (kd = 1 ∧ du &&& 255 = 0))) ∧ v = 0 ∧ MI G h0 h' m ad (va_up sc 0 0) A Wd)) 45 [some (.ref m), some (.int (nI j)), some (.int (nI k)), some (.int kd), some (.int du)] [] h'' := by
    intro hok
    refine ev_aload_0 i_mo_rule_45 ?_
    refine ev_get i_mo_rule_46 fl_mo_13 H.1 rfl ?_
    refine ev_iconst (v := 3) i_mo_rule_49 (by decide) ?_
    refine ev_iload_1 i_mo_rule_50 ?_
    refine ev_imul i_mo_rule_51 ?_
    refine ev_iload_2 i_mo_rule_52 ?_
    refine ev_iadd i_mo_rule_53 ?_
    refine ev_iload_3 i_mo_rule_54 ?_
    refine ev_is (L := 48) i_mo_rule_55 H rfl rfl (j := 3 * j + k) (e3 0) (by omega) (by omega) (fun h H => ?_)
    refine ev_aload_0 i_mo_rule_56 ?_
    refine ev_get i_mo_rule_57 fl_mo_17 H.1 rfl ?_
    refine ev_iconst (v := 3) i_mo_rule_60 (by decide) ?_
    refine ev_iload_1 i_mo_rule_61 ?_
    refine ev_imul i_mo_rule_62 ?_
    refine ev_iload_2 i_mo_rule_63 ?_
    refine ev_iadd i_mo_rule_64 ?_
    refine ev_iload_3 i_mo_rule_65 ?_
    refine ev_iconst (v := 1) i_mo_rule_66 (by decide) ?_
    refine ev_icmp_ne i_mo_rule_67 (fun c_67 => ?_) (fun c_67 => ?_)
    · refine ev_iconst (v := 0) i_mo_rule_79 (by decide) ?_
      refine ev_is (L := 48) i_mo_rule_80 H rfl rfl (j := 3 * j + k) (e3 0) (by omega) (by omega) (fun h H => ?_)
      refine ev_iconst (v := 1) i_mo_rule_81 (by decide) ?_
      refine ev_ireturn i_mo_rule_82 rfl rfl ?_
      refine ⟨_, rfl, Or.inl ⟨j, k, ej, ek, Int32.not_lt.mp c_21, Int32.not_lt.mp c_26, hok, rfl, ?_⟩⟩
      unfold mrule
      rw [if_neg c_67]
      exact H
    · refine ev_iload_4 i_mo_rule_70 ?_
      refine ev_sipush (v := 255) i_mo_rule_72 (by decide) ?_
      refine ev_iand i_mo_rule_75 ?_
      refine ev_goto i_mo_rule_76 ?_
      refine ev_is (L := 48) i_mo_rule_80 H rfl rfl (j := 3 * j + k) (e3 0) (by omega) (by omega) (fun h H => ?_)
      refine ev_iconst (v := 1) i_mo_rule_81 (by decide) ?_
      refine ev_ireturn i_mo_rule_82 rfl rfl ?_
      refine ⟨_, rfl, Or.inl ⟨j, k, ej, ek, Int32.not_lt.mp c_21, Int32.not_lt.mp c_26, hok, rfl, ?_⟩⟩
      unfold mrule
      rw [if_pos c_67]
      exact H
  refine ev_iload_3 i_mo_rule_29 ?_
  refine ev_iconst (v := 1) i_mo_rule_30 (by decide) ?_
  refine ev_icmp_ne i_mo_rule_31 (fun c_31 => ?_) (fun c_31 => ?_)
  · exact fin (fun z => c_31 z.1)
  refine ev_iload_4 i_mo_rule_34 ?_
  refine ev_sipush (v := 255) i_mo_rule_36 (by decide) ?_
  refine ev_iand i_mo_rule_39 ?_
  refine ev_if_ne i_mo_rule_40 (fun c_40 => ?_) (fun c_40 => ?_)
  · exact fin (fun z => c_40 z.2)
  refine ev_iconst (v := 0) i_mo_rule_43 (by decide) ?_
  refine ev_ireturn i_mo_rule_44 rfl rfl ?_
  exact ⟨_, rfl, Or.inr ⟨Or.inr (Or.inr (fun z => z.2.2 ⟨c_31, c_40⟩)), rfl, H⟩⟩
theorem r_mo_lifts {y1 y2 on : Int32} (H : MI G h0 h m ad sc A Wd) (hon : on = 0 ∨ on = 1) : Rn G M_mo_lifts 1 0 0 [.ref m, .int y1, .int y2, .int on] h (ev_qi fun v h' => (∃ j k, ixv y1 8 = some j ∧ ixv y2 3 = some k ∧ v = 1 ∧ MI G h0 h' m ad (va_up sc 0 0) (va_up A 7 (upd (A 7) (3 * j + k) on)) Wd) ∨ ((ixv y1 8 = none ∨ ixv y2 3 = none) ∧ v = 0 ∧ MI G h0 h' m ad (va_up sc 0 0) A Wd)) := by
  refine Rn_of (ls := [some (.ref m), some (.int y1), some (.int y2), some (.int on)]) rfl rfl (Nat.le_of_ble_eq_true rfl) rfl ?_
  refine ev_aload_0 i_mo_lifts_0 ?_
  refine ev_iconst (v := 0) i_mo_lifts_1 (by decide) ?_
  refine ev_p0 i_mo_lifts_2 pl_mo_lifts_81 H (fun h H => ?_)
  refine ev_iload_1 i_mo_lifts_5 ?_
  refine ev_if_lt i_mo_lifts_6 (fun c_6 => ?_) (fun c_6 => ?_)
  · refine ev_iconst (v := 0) i_mo_lifts_22 (by decide) ?_
    refine ev_ireturn i_mo_lifts_23 rfl rfl ?_
    rcases ix_cases y1 (show 8 < 2 ^ 31 by omega) with ⟨j, hj, rfl, ej⟩ | ⟨-, ej⟩
    · exact absurd c_6 (nI_pos (by omega))
    exact ⟨_, rfl, Or.inr ⟨Or.inl ej, rfl, H⟩⟩
  refine ev_iload_1 i_mo_lifts_9 ?_
  refine ev_bipush (v := 7) i_mo_lifts_10 (by decide) ?_
  refine ev_icmp_gt i_mo_lifts_12 (fun c_12 => ?_) (fun c_12 => ?_)
  · refine ev_iconst (v := 0) i_mo_lifts_22 (by decide) ?_
    refine ev_ireturn i_mo_lifts_23 rfl rfl ?_
    rcases ix_cases y1 (show 8 < 2 ^ 31 by omega) with ⟨j, hj, rfl, ej⟩ | ⟨-, ej⟩
    · exact absurd c_12 (show ¬ nI 7 < nI j from nI_nlt (by omega) (by omega))
    exact ⟨_, rfl, Or.inr ⟨Or.inl ej, rfl, H⟩⟩
  rcases ix_cases y1 (show 8 < 2 ^ 31 by omega) with ⟨j, hj, rfl, ej⟩ | ⟨zz, ej⟩
  rotate_left
  · obtain ⟨j, hj, rfl⟩ := nI_of c_6
    refine absurd zz (by
      rintro (q | q)
      · exact c_6 q
      · have := (nI_leI (by omega) hj).mp (show nI 8 ≤ nI j from q)
        exact c_12 (show nI 7 < nI j from nI_lt (by omega) hj))
  refine ev_iload_2 i_mo_lifts_15 ?_
  refine ev_ti1 i_mo_lifts_16 lk_mo_95 cb_mo_isWay sv_mo_isWay (r_mo_isWay (y := y2)) (by decide) (Nat.le_of_ble_eq_true rfl) rfl rfl (fun v h' hq => ?_)
  obtain ⟨rfl, rfl⟩ := hq
  rcases ix_cases y2 (show 3 < 2 ^ 31 by omega) with ⟨k, hk, rfl, ek⟩ | ⟨-, ek⟩
  rotate_left
  · rw [isw_0 ek]
    refine ev_if_ne i_mo_lifts_19 (fun c_19 => ?_) (fun c_19 => ?_)
    · exact absurd rfl c_19
    refine ev_iconst (v := 0) i_mo_lifts_22 (by decide) ?_
    refine ev_ireturn i_mo_lifts_23 rfl rfl ?_
    exact ⟨_, rfl, Or.inr ⟨Or.inr ek, rfl, H⟩⟩
  rw [isw_1 ek]
  refine ev_if_ne i_mo_lifts_19 (fun c_19 => ?_) (fun c_19 => ?_)
  rotate_left
  · exact absurd c_19 (by decide)
  refine ev_aload_0 i_mo_lifts_24 ?_
  refine ev_get i_mo_lifts_25 fl_mo_20 H.1 rfl ?_
  refine ev_iconst (v := 3) i_mo_lifts_28 (by decide) ?_
  refine ev_iload_1 i_mo_lifts_29 ?_
  refine ev_imul i_mo_lifts_30 ?_
  refine ev_iload_2 i_mo_lifts_31 ?_
  refine ev_iadd i_mo_lifts_32 ?_
  refine ev_iload_3 i_mo_lifts_33 ?_
  refine ev_zastore i_mo_lifts_34 ty_boolean H.2.2.2.1 (j := 3 * j + k) (by rw [nI_3, pk_mul, nI_add]) (by omega) (by omega) ?_
  have hz : vp_nar .boolean on = on := by rcases hon with rfl | rfl <;> rfl
  rw [hz]
  have H := MI_set7 (f := upd (A 7) (3 * j + k) on) H
  refine ev_iconst (v := 1) i_mo_lifts_35 (by decide) ?_
  refine ev_ireturn i_mo_lifts_36 rfl rfl ?_
  exact ⟨_, rfl, Or.inl ⟨j, k, ej, ek, rfl, H⟩⟩
theorem r_mo_type {ch len : Nat} (H : MI G h0 h m ad sc A Wd) (hl : sc 9 = nI len) (hl2 : len ≤ 60) (hc : ch < 65536) : Rn G M_mo_type 0 0 0 [.ref m, .int (nI ch)] h (ev_qi fun v h' => (32 ≤ ch ∧ ch ≤ 126 ∧ len < 60 ∧ v = 1 ∧ MI G h0 h' m ad (va_up (va_up sc 0 0) 9 (nI (len + 1))) (va_up A 8 (upd (A 8) len (nI ch))) Wd) ∨ (¬ (32 ≤ ch ∧ ch ≤ 126 ∧ len < 60) ∧ v = 0 ∧ MI G h0 h' m ad (va_up sc 0 0) A Wd)) := by
  refine Rn_of (ls := [some (.ref m), some (.int (nI ch))]) rfl rfl (Nat.le_of_ble_eq_true rfl) rfl ?_
  refine ev_aload_0 i_mo_type_0 ?_
  refine ev_iconst (v := 0) i_mo_type_1 (by decide) ?_
  refine ev_p0 i_mo_type_2 pl_mo_type_81 H (fun h H => ?_)
  refine ev_iload_1 i_mo_type_5 ?_
  refine ev_bipush (v := 32) i_mo_type_6 (by decide) ?_
  refine ev_icmp_lt i_mo_type_8 (fun c_8 => ?_) (fun c_8 => ?_)
  · have : ch < 32 := (nI_ltI (by omega) (by omega)).mp (show nI ch < nI 32 from c_8)
    refine ev_iconst (v := 0) i_mo_type_26 (by decide) ?_
    refine ev_ireturn i_mo_type_27 rfl rfl ?_
    exact ⟨_, rfl, Or.inr ⟨by omega, rfl, H⟩⟩
  have k1 : 32 ≤ ch := by
    rcases Nat.lt_or_ge ch 32 with z | z
    · exact absurd (show nI ch < nI 32 from nI_lt z (by omega)) c_8
    · exact z
  refine ev_iload_1 i_mo_type_11 ?_
  refine ev_bipush (v := 126) i_mo_type_12 (by decide) ?_
  refine ev_icmp_gt i_mo_type_14 (fun c_14 => ?_) (fun c_14 => ?_)
  · have : 126 < ch := (nI_ltI (by omega) (by omega)).mp (show nI 126 < nI ch from c_14)
    refine ev_iconst (v := 0) i_mo_type_26 (by decide) ?_
    refine ev_ireturn i_mo_type_27 rfl rfl ?_
    exact ⟨_, rfl, Or.inr ⟨by omega, rfl, H⟩⟩
  have k2 : ch ≤ 126 := by
    rcases Nat.lt_or_ge 126 ch with z | z
    · exact absurd (show nI 126 < nI ch from nI_lt z (by omega)) c_14
    · exact z
  refine ev_aload_0 i_mo_type_17 ?_
  refine ev_get i_mo_type_18 fl_mo_98 H.1 rfl ?_
  refine ev_bipush (v := 60) i_mo_type_21 (by decide) ?_
  refine ev_icmp_ne i_mo_type_23 (fun c_23 => ?_) (fun c_23 => ?_)
  rotate_left
  · have e : nI len = nI 60 := hl.symm.trans c_23
    rw [nI_eq (by omega) (by omega)] at e
    refine ev_iconst (v := 0) i_mo_type_26 (by decide) ?_
    refine ev_ireturn i_mo_type_27 rfl rfl ?_
    exact ⟨_, rfl, Or.inr ⟨by omega, rfl, H⟩⟩
  have k3 : len < 60 := by
    rcases Nat.lt_or_ge len 60 with z | z
    · exact z
    · exact absurd (show sc 9 = 60 from by rw [hl, show len = 60 by omega]; rfl) c_23
  refine ev_aload_0 i_mo_type_28 ?_
  refine ev_get i_mo_type_29 fl_mo_24 H.1 rfl ?_
  refine ev_aload_0 i_mo_type_32 ?_
  refine ev_get i_mo_type_33 fl_mo_98 H.1 rfl ?_
  refine ev_iload_1 i_mo_type_36 ?_
  refine ev_is (L := 60) i_mo_type_37 H rfl rfl (j := len) hl k3 (by omega) (fun h H => ?_)
  refine ev_aload_0 i_mo_type_38 ?_
  refine ev_dup i_mo_type_39 rfl ?_
  refine ev_get i_mo_type_40 fl_mo_98 H.1 rfl ?_
  refine ev_iconst (v := 1) i_mo_type_43 (by decide) ?_
  refine ev_iadd i_mo_type_44 ?_
  refine ev_top (y := nI (len + 1)) (by rw [← nI_1, ← hl]; rfl) ?_
  refine ev_p9 i_mo_type_45 pl_mo_type_98 H (fun h H => ?_)
  refine ev_iconst (v := 1) i_mo_type_48 (by decide) ?_
  refine ev_ireturn i_mo_type_49 rfl rfl ?_
  exact ⟨_, rfl, Or.inl ⟨k1, k2, k3, rfl, H⟩⟩
theorem r_mo_pack {np : Nat} (H : MI G h0 h m ad sc A Wd) (hn : sc 3 = nI np) (hn2 : np ≤ 16) : Rn G M_mo_pack 0 0 0 [.ref m] h (ev_qi fun v h' => (np < 16 ∧ v = nI np ∧ MI G h0 h' m ad (va_up (va_up sc 0 0) 3 (nI (np + 1))) A Wd) ∨ (¬ np < 16 ∧ v = -1 ∧ MI G h0 h' m ad (va_up sc 0 0) A Wd)) := by
  refine Rn_of (ls := [some (.ref m)]) rfl rfl (Nat.le_of_ble_eq_true rfl) rfl ?_
  refine ev_aload_0 i_mo_pack_0 ?_
  refine ev_iconst (v := 0) i_mo_pack_1 (by decide) ?_
  refine ev_p0 i_mo_pack_2 pl_mo_pack_81 H (fun h H => ?_)
  refine ev_aload_0 i_mo_pack_5 ?_
  refine ev_get i_mo_pack_6 fl_mo_88 H.1 rfl ?_
  refine ev_bipush (v := 16) i_mo_pack_9 (by decide) ?_
  refine ev_icmp_ne i_mo_pack_11 (fun c_11 => ?_) (fun c_11 => ?_)
  · have hlt : np < 16 := by
      rcases Nat.lt_or_ge np 16 with z | z
      · exact z
      · exact absurd (show sc 3 = 16 from by rw [hn, show np = 16 by omega]; rfl) c_11
    refine ev_aload_0 i_mo_pack_16 ?_
    refine ev_dup i_mo_pack_17 rfl ?_
    refine ev_get i_mo_pack_18 fl_mo_88 H.1 rfl ?_
    refine ev_iconst (v := 1) i_mo_pack_21 (by decide) ?_
    refine ev_iadd i_mo_pack_22 ?_
    refine ev_top (y := nI (np + 1)) (by rw [← nI_1, ← hn]; rfl) ?_
    refine ev_p3 i_mo_pack_23 pl_mo_pack_88 H (fun h H => ?_)
    refine ev_aload_0 i_mo_pack_26 ?_
    refine ev_get i_mo_pack_27 fl_mo_88 H.1 rfl ?_
    refine ev_iconst (v := 1) i_mo_pack_30 (by decide) ?_
    refine ev_isub i_mo_pack_31 ?_
    refine ev_ireturn i_mo_pack_32 rfl rfl ?_
    refine ⟨_, rfl, Or.inl ⟨hlt, ?_, H⟩⟩
    show nI (np + 1) - 1 = nI np
    exact nI_pred np
  · have e : nI np = nI 16 := hn.symm.trans c_11
    rw [nI_eq (by omega) (by omega)] at e
    refine ev_iconst (v := (-1)) i_mo_pack_14 (by decide) ?_
    refine ev_ireturn i_mo_pack_15 rfl rfl ?_
    exact ⟨_, rfl, Or.inr ⟨by omega, rfl, H⟩⟩
theorem r_mo_choices {i : Int32} {np : Nat} (H : MI G h0 h m ad sc A Wd) (hn : sc 3 = nI np) (hn2 : np ≤ 16) : Rn G M_mo_choices 1 0 0 [.ref m, .int i] h (ev_qi fun v h' => MI G h0 h' m ad (va_up sc 0 0) A Wd ∧ ((∃ p, ixv i np = some p ∧ v = A 12 p) ∨ (ixv i np = none ∧ v = -1))) := by
  refine Rn_of (ls := [some (.ref m), some (.int i)]) rfl rfl (Nat.le_of_ble_eq_true rfl) rfl ?_
  refine ev_aload_0 i_mo_choices_0 ?_
  refine ev_iconst (v := 0) i_mo_choices_1 (by decide) ?_
  refine ev_p0 i_mo_choices_2 pl_mo_choices_81 H (fun h H => ?_)
  refine ev_aload_0 i_mo_choices_5 ?_
  refine ev_iload_1 i_mo_choices_6 ?_
  refine ev_vi1 i_mo_choices_7 lk_mo_143 cb_mo_isPack iv_mo_isPack (r_mo_isPack (y := i) (n := np) H hn (by omega)) H.1 rfl (by decide) (Nat.le_of_ble_eq_true rfl) rfl rfl (fun v h' hq => ?_)
  obtain ⟨rfl, rfl⟩ := hq
  rcases ix_cases i (show np < 2 ^ 31 by omega) with ⟨p, hp, rfl, e⟩ | ⟨-, e⟩
  · rw [isw_1 e]
    refine ev_if_eq i_mo_choices_10 (fun c_10 => ?_) (fun c_10 => ?_)
    · exact absurd c_10 (by decide)
    refine ev_aload_0 i_mo_choices_13 ?_
    refine ev_get i_mo_choices_14 fl_mo_33 H.1 rfl ?_
    refine ev_iload_1 i_mo_choices_17 ?_
    refine ev_ia (L := 16) i_mo_choices_18 H rfl rfl (j := p) rfl (by omega) (by omega) ?_
    refine ev_goto i_mo_choices_19 ?_
    refine ev_ireturn i_mo_choices_23 rfl rfl ?_
    exact ⟨_, rfl, H, Or.inl ⟨p, e, rfl⟩⟩
  · rw [isw_0 e]
    refine ev_if_eq i_mo_choices_10 (fun c_10 => ?_) (fun c_10 => ?_)
    · refine ev_iconst (v := (-1)) i_mo_choices_22 (by decide) ?_
      refine ev_ireturn i_mo_choices_23 rfl rfl ?_
      exact ⟨_, rfl, H, Or.inr ⟨e, rfl⟩⟩
    · exact absurd rfl c_10
theorem r_mo_grant {i y : Int32} {np : Nat} (H : MI G h0 h m ad sc A Wd) (hn : sc 3 = nI np) (hn2 : np ≤ 16) : Rn G M_mo_grant 1 0 0 [.ref m, .int i, .int y] h (ev_qi fun v h' => (∃ p, ixv i np = some p ∧ 0 ≤ y ∧ v = 1 ∧ MI G h0 h' m ad (va_up sc 0 0) (va_up A 17 (upd (A 17) p y)) Wd) ∨ ((ixv i np = none ∨ y < 0) ∧ v = 0 ∧ MI G h0 h' m ad (va_up sc 0 0) A Wd)) := by
  refine Rn_of (ls := [some (.ref m), some (.int i), some (.int y)]) rfl rfl (Nat.le_of_ble_eq_true rfl) rfl ?_
  refine ev_aload_0 i_mo_grant_0 ?_
  refine ev_iconst (v := 0) i_mo_grant_1 (by decide) ?_
  refine ev_p0 i_mo_grant_2 pl_mo_grant_81 H (fun h H => ?_)
  refine ev_aload_0 i_mo_grant_5 ?_
  refine ev_iload_1 i_mo_grant_6 ?_
  refine ev_vi1 i_mo_grant_7 lk_mo_143 cb_mo_isPack iv_mo_isPack (r_mo_isPack (y := i) (n := np) H hn (by omega)) H.1 rfl (by decide) (Nat.le_of_ble_eq_true rfl) rfl rfl (fun v h' hq => ?_)
  obtain ⟨rfl, rfl⟩ := hq
  rcases ix_cases i (show np < 2 ^ 31 by omega) with ⟨p, hp, rfl, e⟩ | ⟨-, e⟩
  · rw [isw_1 e]
    refine ev_if_eq i_mo_grant_10 (fun c_10 => ?_) (fun c_10 => ?_)
    · exact absurd c_10 (by decide)
    refine ev_iload_2 i_mo_grant_13 ?_
    refine ev_if_ge i_mo_grant_14 (fun c_14 => ?_) (fun c_14 => ?_)
    · refine ev_aload_0 i_mo_grant_19 ?_
      refine ev_get i_mo_grant_20 fl_mo_48 H.1 rfl ?_
      refine ev_iload_1 i_mo_grant_23 ?_
      refine ev_iload_2 i_mo_grant_24 ?_
      refine ev_is (L := 16) i_mo_grant_25 H rfl rfl (j := p) rfl (by omega) (by omega) (fun h H => ?_)
      refine ev_iconst (v := 1) i_mo_grant_26 (by decide) ?_
      refine ev_ireturn i_mo_grant_27 rfl rfl ?_
      exact ⟨_, rfl, Or.inl ⟨p, e, c_14, rfl, H⟩⟩
    · refine ev_iconst (v := 0) i_mo_grant_17 (by decide) ?_
      refine ev_ireturn i_mo_grant_18 rfl rfl ?_
      exact ⟨_, rfl, Or.inr ⟨Or.inr (Int32.not_le.mp c_14), rfl, H⟩⟩
  · rw [isw_0 e]
    refine ev_if_eq i_mo_grant_10 (fun c_10 => ?_) (fun c_10 => ?_)
    · refine ev_iconst (v := 0) i_mo_grant_17 (by decide) ?_
      refine ev_ireturn i_mo_grant_18 rfl rfl ?_
      exact ⟨_, rfl, Or.inr ⟨Or.inl e, rfl, H⟩⟩
    · exact absurd rfl c_10
theorem r_mo_tick {y : Int32} {c : Nat} (H : MI G h0 h m ad sc A Wd) (hc : sc 1 = nI c) (hc2 : c ≤ 1000000000) : Rn G M_mo_tick 0 0 0 [.ref m, .int y] h (ev_qi fun v h' => (∃ k, tickV y c = some k ∧ v = nI (c + k) ∧ MI G h0 h' m ad (va_up (va_up sc 0 0) 1 (nI (c + k))) A Wd) ∨ (tickV y c = none ∧ v = -1 ∧ MI G h0 h' m ad (va_up sc 0 0) A Wd)) := by
  refine Rn_of (ls := [some (.ref m), some (.int y)]) rfl rfl (Nat.le_of_ble_eq_true rfl) rfl ?_
  refine ev_aload_0 i_mo_tick_0 ?_
  refine ev_iconst (v := 0) i_mo_tick_1 (by decide) ?_
  refine ev_p0 i_mo_tick_2 pl_mo_tick_81 H (fun h H => ?_)
  refine ev_iload_1 i_mo_tick_5 ?_
  refine ev_if_lt i_mo_tick_6 (fun c_6 => ?_) (fun c_6 => ?_)
  · refine ev_iconst (v := (-1)) i_mo_tick_26 (by decide) ?_
    refine ev_ireturn i_mo_tick_27 rfl rfl ?_
    exact ⟨_, rfl, Or.inr ⟨by unfold tickV; rw [if_neg (fun q => absurd q.1 (Int32.not_le.mpr c_6))], rfl, H⟩⟩
  obtain ⟨k, hk, rfl⟩ := nI_of c_6
  refine ev_iload_1 i_mo_tick_9 ?_
  refine ev_ldc i_mo_tick_10 kc_mo_164 ?_
  refine ev_icmp_gt i_mo_tick_12 (fun c_12 => ?_) (fun c_12 => ?_)
  · refine ev_iconst (v := (-1)) i_mo_tick_26 (by decide) ?_
    refine ev_ireturn i_mo_tick_27 rfl rfl ?_
    exact ⟨_, rfl, Or.inr ⟨by unfold tickV; rw [if_neg (fun q => absurd q.2.1 (Int32.not_le.mpr c_12))], rfl, H⟩⟩
  have hk5 : k ≤ 100000 := by
    rcases Nat.lt_or_ge 100000 k with z | z
    · exact absurd (show nI 100000 < nI k from nI_lt z hk) c_12
    · exact z
  have es : va_up sc 0 0 1 + nI k = nI (c + k) := by
    rw [← nI_add, ← hc]
    rfl
  refine ev_aload_0 i_mo_tick_15 ?_
  refine ev_get i_mo_tick_16 fl_mo_165 H.1 rfl ?_
  refine ev_iload_1 i_mo_tick_19 ?_
  refine ev_iadd i_mo_tick_20 ?_
  refine ev_top es ?_
  refine ev_ldc i_mo_tick_21 kc_mo_168 ?_
  refine ev_icmp_le i_mo_tick_23 (fun c_23 => ?_) (fun c_23 => ?_)
  rotate_left
  · have : ¬ c + k ≤ 1000000000 := fun z => c_23 (show nI (c + k) ≤ nI 1000000000 from nI_le z (by omega))
    refine ev_iconst (v := (-1)) i_mo_tick_26 (by decide) ?_
    refine ev_ireturn i_mo_tick_27 rfl rfl ?_
    exact ⟨_, rfl, Or.inr ⟨by unfold tickV; rw [nI_clamp hk, if_neg (fun q => this q.2.2)], rfl, H⟩⟩
  have hle : c + k ≤ 1000000000 := (nI_leI (by omega) (by omega)).mp (show nI (c + k) ≤ nI 1000000000 from c_23)
  refine ev_aload_0 i_mo_tick_28 ?_
  refine ev_dup i_mo_tick_29 rfl ?_
  refine ev_get i_mo_tick_30 fl_mo_165 H.1 rfl ?_
  refine ev_iload_1 i_mo_tick_33 ?_
  refine ev_iadd i_mo_tick_34 ?_
  refine ev_top es ?_
  refine ev_p1 i_mo_tick_35 pl_mo_tick_165 H (fun h H => ?_)
  refine ev_aload_0 i_mo_tick_38 ?_
  refine ev_get i_mo_tick_39 fl_mo_165 H.1 rfl ?_
  refine ev_ireturn i_mo_tick_42 rfl rfl ?_
  refine ⟨_, rfl, Or.inl ⟨k, ?_, rfl, H⟩⟩
  unfold tickV
  rw [nI_clamp hk, if_pos ⟨nI_pos' hk, show nI k ≤ nI 100000 from nI_le hk5 (by omega), hle⟩]
end MO2
