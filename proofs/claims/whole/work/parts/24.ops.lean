section OPS
variable {G : ev_G} {h : ev_H}
variable {τ : Nat → Nat} {x ru w t l rd tx ea aa pp rv q1 q2 q3 q4 q5 : Nat} {fa fb : Nat → Nat} {n : Nat} {W : Nat → Int64} {T F : Nat → Int32} {len : Nat} {s : RS} {TX : Nat → Int32} {tc : Nat → Nat} {np : Nat} {P : Nat → Option Nat} {I : Nat → pkT} {rs : rvs} {K D : Nat → Int32} {c : Nat}
/-- a number as a place below n -/
def ixv (i : Int32) (n : Nat) : Option Nat := if 0 ≤ i ∧ i < nI n then some i.toNatClampNeg else none
theorem ix_cases (i : Int32) {n : Nat} (hn : n < 2 ^ 31) : (∃ j, j < n ∧ i = nI j ∧ ixv i n = some j) ∨ ((i < 0 ∨ nI n ≤ i) ∧ ixv i n = none) := by
  rcases pk_ix i hn with z | z | ⟨j, hj, rfl⟩
  · exact Or.inr ⟨Or.inl z, by unfold ixv; rw [if_neg (fun q => absurd q.1 (Int32.not_le.mpr z))]⟩
  · exact Or.inr ⟨Or.inr z, by unfold ixv; rw [if_neg (fun q => absurd q.2 (Int32.not_lt.mpr z))]⟩
  · exact Or.inl ⟨j, hj, rfl, by unfold ixv; rw [if_pos ⟨nI_pos' (by omega), nI_lt hj hn⟩, nI_clamp (by omega)]⟩
theorem r_lr_isWay {y : Int32} : Rn G M_lr_isWay 0 0 0 [.int y] h (ev_qi fun v h' => v = (if (ixv y 3).isSome then 1 else 0) ∧ h' = h) := by
  refine Rn_of (ls := [some (.int y)]) rfl rfl (Nat.le_of_ble_eq_true rfl) rfl ?_
  rcases ix_cases y (show 3 < 2 ^ 31 by omega) with ⟨j, hj, rfl, e⟩ | ⟨z, e⟩
  · refine ev_iload_0 i_lr_isWay_0 ?_
    refine ev_if_lt i_lr_isWay_1 (fun c_1 => ?_) (fun c_1 => ?_)
    · exact absurd c_1 (nI_pos (by omega))
    refine ev_iload_0 i_lr_isWay_4 ?_
    refine ev_iconst (v := 3) i_lr_isWay_5 (by decide) ?_
    refine ev_icmp_ge i_lr_isWay_6 (fun c_6 => ?_) (fun c_6 => ?_)
    · exact absurd c_6 (show ¬ nI 3 ≤ nI j from nI_ge hj (by omega))
    refine ev_iconst (v := 1) i_lr_isWay_9 (by decide) ?_
    refine ev_goto i_lr_isWay_10 ?_
    refine ev_ireturn i_lr_isWay_14 rfl rfl ?_
    exact ⟨_, rfl, by rw [e]; rfl, rfl⟩
  · refine ev_iload_0 i_lr_isWay_0 ?_
    refine ev_if_lt i_lr_isWay_1 (fun c_1 => ?_) (fun c_1 => ?_)
    · refine ev_iconst (v := 0) i_lr_isWay_13 (by decide) ?_
      refine ev_ireturn i_lr_isWay_14 rfl rfl ?_
      exact ⟨_, rfl, by rw [e]; rfl, rfl⟩
    refine ev_iload_0 i_lr_isWay_4 ?_
    refine ev_iconst (v := 3) i_lr_isWay_5 (by decide) ?_
    refine ev_icmp_ge i_lr_isWay_6 (fun c_6 => ?_) (fun c_6 => ?_)
    · refine ev_iconst (v := 0) i_lr_isWay_13 (by decide) ?_
      refine ev_ireturn i_lr_isWay_14 rfl rfl ?_
      exact ⟨_, rfl, by rw [e]; rfl, rfl⟩
    · exact absurd z (by rintro (q | q); exact c_1 q; exact c_6 q)
theorem r_lr_packAt {i : Int32} (H : CI G h τ x ru w t l rd tx ea aa pp rv q1 q2 q3 q4 q5 fa fb n W T F len s TX tc np P I rs K D c) : Rn G M_lr_packAt 0 0 0 [.ref x, .int i] h (ev_qq fun v h' => h' = h ∧ ((∃ p, p < np ∧ i = nI p ∧ ixv i np = some p ∧ v = some (I p).1.1) ∨ (ixv i np = none ∧ v = none))) := by
  obtain ⟨⟨x1, x2, x3⟩, -, -, ⟨p1, p2⟩, -⟩ := H
  refine Rn_of (ls := [some (.ref x), some (.int i)]) rfl rfl (Nat.le_of_ble_eq_true rfl) rfl ?_
  rcases ix_cases i (show np < 2 ^ 31 by omega) with ⟨j, hj, rfl, e⟩ | ⟨z, e⟩
  · refine ev_iload_1 i_lr_packAt_0 ?_
    refine ev_if_lt i_lr_packAt_1 (fun c_1 => ?_) (fun c_1 => ?_)
    · exact absurd c_1 (nI_pos (by omega))
    refine ev_iload_1 i_lr_packAt_4 ?_
    refine ev_aload_0 i_lr_packAt_5 ?_
    refine ev_get i_lr_packAt_6 fl_lr_36 (by repeat (first | assumption | exact va_up_self _ _ _ | refine hu_ne (by first | assumption | exact Ne.symm (by assumption)) ?_)) rfl ?_
    refine ev_icmp_lt i_lr_packAt_9 (fun c_9 => ?_) (fun c_9 => ?_)
    rotate_left
    · exact absurd (nI_lt hj (by omega)) c_9
    refine ev_aload_0 i_lr_packAt_16 ?_
    refine ev_get i_lr_packAt_17 fl_lr_25 (by repeat (first | assumption | exact va_up_self _ _ _ | refine hu_ne (by first | assumption | exact Ne.symm (by assumption)) ?_)) rfl ?_
    refine ev_iload_1 i_lr_packAt_20 ?_
    refine ev_aaload i_lr_packAt_21 ty_pack (by repeat (first | assumption | exact va_up_self _ _ _ | refine hu_ne (by first | assumption | exact Ne.symm (by assumption)) ?_)) (j := j) rfl (by omega) (by omega) ?_
    rw [(p2 j hj).1]
    refine ev_areturn i_lr_packAt_22 rfl (Or.inr ⟨_, rfl⟩) ?_
    exact ⟨some (I j).1.1, rfl, rfl, Or.inl ⟨j, hj, rfl, e, rfl⟩⟩
  · refine ev_iload_1 i_lr_packAt_0 ?_
    refine ev_if_lt i_lr_packAt_1 (fun c_1 => ?_) (fun c_1 => ?_)
    · refine ev_null i_lr_packAt_12 ?_
      refine ev_goto i_lr_packAt_13 ?_
      refine ev_areturn i_lr_packAt_22 rfl (Or.inl rfl) ?_
      exact ⟨none, rfl, rfl, Or.inr ⟨e, rfl⟩⟩
    refine ev_iload_1 i_lr_packAt_4 ?_
    refine ev_aload_0 i_lr_packAt_5 ?_
    refine ev_get i_lr_packAt_6 fl_lr_36 (by repeat (first | assumption | exact va_up_self _ _ _ | refine hu_ne (by first | assumption | exact Ne.symm (by assumption)) ?_)) rfl ?_
    refine ev_icmp_lt i_lr_packAt_9 (fun c_9 => ?_) (fun c_9 => ?_)
    · exact absurd z (by rintro (q | q); exact c_1 q; exact absurd c_9 (Int32.not_lt.mpr q))
    · refine ev_null i_lr_packAt_12 ?_
      refine ev_goto i_lr_packAt_13 ?_
      refine ev_areturn i_lr_packAt_22 rfl (Or.inl rfl) ?_
      exact ⟨none, rfl, rfl, Or.inr ⟨e, rfl⟩⟩
theorem r_lr_licence {y : Int64} (H : CI G h τ x ru w t l rd tx ea aa pp rv q1 q2 q3 q4 q5 fa fb n W T F len s TX tc np P I rs K D c) : Rn G M_lr_licence 1 0 0 [.ref x, .long y] h (ev_qi fun v h' => fo99 τ h h' ∧ ((n < 16 ∧ v = nI n ∧ CI G h' τ x ru w t l rd tx ea aa pp rv q1 q2 q3 q4 q5 fa fb (n + 1) (vp_updL W n y) T F len s TX tc np P I rs K D c) ∨ (¬ n < 16 ∧ v = -1 ∧ CI G h' τ x ru w t l rd tx ea aa pp rv q1 q2 q3 q4 q5 fa fb n W T F len s TX tc np P I rs K D c))) := by
  obtain ⟨⟨x1, x2, x3⟩, ⟨u1, u2, u3, u4, u5⟩, -, -, -, z⟩ := id H
  obtain ⟨z0, ⟨z1, z2, z3, z4⟩, -⟩ := z
  have nuw : ru ≠ w := hne_of u1 u2 (fun z => by cases z)
  have nut : ru ≠ t := hne_of u1 u3 (fun z => by cases z)
  have nul : ru ≠ l := hne_of u1 u4 (fun z => by cases z)
  have nwt : w ≠ t := hne_of u2 u3 (al_ne2 (fun z => by cases z))
  have nwl : w ≠ l := hne_of u2 u4 (al_ne2 (fun z => by cases z))
  refine Rn_of (ls := [some (.ref x), some (.long y), none]) rfl rfl (Nat.le_of_ble_eq_true rfl) rfl ?_
  refine ev_aload_0 i_lr_licence_0 ?_
  refine ev_get i_lr_licence_1 fl_lr_12 (by repeat (first | assumption | exact va_up_self _ _ _ | refine hu_ne (by first | assumption | exact Ne.symm (by assumption)) ?_)) rfl ?_
  refine ev_lload_1 i_lr_licence_4 ?_
  refine ev_vi1 i_lr_licence_5 lk_lr_43 cb_ru_addLicence iv_ru_addLicence (r_ru_addLicence (x := y) u1 u2 u5) (by repeat (first | assumption | exact va_up_self _ _ _ | refine hu_ne (by first | assumption | exact Ne.symm (by assumption)) ?_)) rfl (by decide) (Nat.le_of_ble_eq_true rfl) rfl rfl (fun v h' hq => ?_)
  by_cases hn : n < 16
  · rw [if_pos hn] at hq
    obtain ⟨rfl, rfl⟩ := hq
    have A : ag τ 1 h (va_up (va_up h w (some (aL G 16 (vp_updL W n y)))) ru (some (ru_c w t l (n + 1)))) := ag_tr (ag_up z2) (ag_up z1)
    refine ev_ireturn i_lr_licence_8 rfl rfl ?_
    exact ⟨_, rfl, fo_ag A (by omega), Or.inl ⟨hn, rfl, CI_U H A ⟨va_up_self _ _ _, hu_ne (Ne.symm nuw) (va_up_self _ _ _), hu_ne (Ne.symm nut) (hu_ne (Ne.symm nwt) u3), hu_ne (Ne.symm nul) (hu_ne (Ne.symm nwl) u4), by omega⟩⟩⟩
  · rw [if_neg hn] at hq
    obtain ⟨rfl, rfl⟩ := hq
    refine ev_ireturn i_lr_licence_8 rfl rfl ?_
    exact ⟨_, rfl, fo_rf, Or.inr ⟨hn, rfl, H⟩⟩
/-- a rule as a number: 0, duties, 256; none if there is none such -/
def ruleV (kd du : Int32) : Option Int32 := if kd = 0 then some 0 else if kd = 1 then (if du &&& 255 = 0 then none else some (du &&& 255)) else if kd = 2 then some 256 else none
theorem r_lr_rule {y1 y2 kd du : Int32} (H : CI G h τ x ru w t l rd tx ea aa pp rv q1 q2 q3 q4 q5 fa fb n W T F len s TX tc np P I rs K D c) : Rn G M_lr_rule 1 0 0 [.ref x, .int y1, .int y2, .int kd, .int du] h (ev_qi fun v h' => fo99 τ h h' ∧ ((∃ j k z, ixv y1 n = some j ∧ ixv y2 3 = some k ∧ ruleV kd du = some z ∧ v = 1 ∧ CI G h' τ x ru w t l rd tx ea aa pp rv q1 q2 q3 q4 q5 fa fb n W (upd T (3 * j + k) z) F len s TX tc np P I rs K D c) ∨ ((ixv y1 n = none ∨ ixv y2 3 = none ∨ ruleV kd du = none) ∧ v = 0 ∧ CI G h' τ x ru w t l rd tx ea aa pp rv q1 q2 q3 q4 q5 fa fb n W T F len s TX tc np P I rs K D c))) := by
  obtain ⟨⟨x1, x2, x3⟩, ⟨u1, u2, u3, u4, u5⟩, -, -, -, z⟩ := id H
  obtain ⟨z0, ⟨z1, z2, z3, z4⟩, -⟩ := z
  have nut : ru ≠ t := hne_of u1 u3 (fun z => by cases z)
  have nwt : w ≠ t := hne_of u2 u3 (al_ne2 (fun z => by cases z))
  have ntl : t ≠ l := hne_of u3 u4 (al_ne (show (48 : Nat) ≠ 3 by decide))
  have setT : ∀ j k zz, ru_at G (va_up h t (some (aI G 48 (upd T (3 * j + k) zz)))) ru w t l n W (upd T (3 * j + k) zz) F := fun j k zz => ⟨hu_ne nut u1, hu_ne nwt u2, va_up_self _ _ _, hu_ne (Ne.symm ntl) u4, u5⟩
  refine Rn_of (ls := [some (.ref x), some (.int y1), some (.int y2), some (.int kd), some (.int du), none]) rfl rfl (Nat.le_of_ble_eq_true rfl) rfl ?_
  refine ev_aload_0 i_lr_rule_0 ?_
  refine ev_get i_lr_rule_1 fl_lr_12 (by repeat (first | assumption | exact va_up_self _ _ _ | refine hu_ne (by first | assumption | exact Ne.symm (by assumption)) ?_)) rfl ?_
  refine ev_iload_1 i_lr_rule_4 ?_
  refine ev_vi1 i_lr_rule_5 lk_lr_47 cb_ru_hasLicence iv_ru_hasLicence (r_ru_hasLicence (x := y1) u1) (by repeat (first | assumption | exact va_up_self _ _ _ | refine hu_ne (by first | assumption | exact Ne.symm (by assumption)) ?_)) rfl (by decide) (Nat.le_of_ble_eq_true rfl) rfl rfl (fun v h' hq => ?_)
  obtain ⟨rfl, rfl⟩ := hq
  rcases ix_cases y1 (show n < 2 ^ 31 by omega) with ⟨j, hj, rfl, ej⟩ | ⟨zz, ej⟩
  rotate_left
  · rw [if_neg (by rintro ⟨g1, g2⟩; rcases zz with q | q; exact absurd g1 (Int32.not_le.mpr q); exact absurd g2 (Int32.not_lt.mpr q))]
    refine ev_if_eq i_lr_rule_8 (fun c_8 => ?_) (fun c_8 => ?_)
    · refine ev_iconst (v := 0) i_lr_rule_18 (by decide) ?_
      refine ev_ireturn i_lr_rule_19 rfl rfl ?_
      exact ⟨_, rfl, fo_rf, Or.inr ⟨Or.inl ej, rfl, H⟩⟩
    · exact absurd rfl c_8
  rw [if_pos ⟨nI_pos' (by omega), nI_lt hj (by omega)⟩]
  refine ev_if_eq i_lr_rule_8 (fun c_8 => ?_) (fun c_8 => ?_)
  · exact absurd c_8 (by decide)
  refine ev_iload_2 i_lr_rule_11 ?_
  refine ev_ti1 i_lr_rule_12 lk_lr_51 cb_lr_isWay sv_lr_isWay (r_lr_isWay (y := y2)) (by decide) (Nat.le_of_ble_eq_true rfl) rfl rfl (fun v h2 hq => ?_)
  obtain ⟨rfl, rfl⟩ := hq
  rcases ix_cases y2 (show 3 < 2 ^ 31 by omega) with ⟨k, hk, rfl, ek⟩ | ⟨zz, ek⟩
  rotate_left
  · rw [ek]
    refine ev_if_ne i_lr_rule_15 (fun c_15 => ?_) (fun c_15 => ?_)
    · exact absurd rfl c_15
    refine ev_iconst (v := 0) i_lr_rule_18 (by decide) ?_
    refine ev_ireturn i_lr_rule_19 rfl rfl ?_
    exact ⟨_, rfl, fo_rf, Or.inr ⟨Or.inr (Or.inl rfl), rfl, H⟩⟩
  rw [ek]
  refine ev_if_ne i_lr_rule_15 (fun c_15 => ?_) (fun c_15 => ?_)
  rotate_left
  · exact absurd rfl (if_10 c_15)
  refine ev_iload_4 i_lr_rule_20 ?_
  refine ev_sipush (v := 255) i_lr_rule_22 (by decide) ?_
  refine ev_iand i_lr_rule_25 ?_
  refine ev_istore_5 i_lr_rule_26 rfl ?_
  refine ev_iload_3 i_lr_rule_28 ?_
  by_cases w0 : kd.toInt < 0
  · refine ev_tableOut (tgt := 102) i_lr_rule_29 (Or.inl w0) (by decide) ?_
    refine ev_iconst (v := 0) i_lr_rule_102 (by decide) ?_
    refine ev_ireturn i_lr_rule_103 rfl rfl ?_
    refine ⟨_, rfl, fo_rf, Or.inr ⟨Or.inr (Or.inr ?_), rfl, H⟩⟩
    unfold ruleV
    rw [if_neg (fun e => by rw [e] at w0; exact absurd w0 (by decide)), if_neg (fun e => by rw [e] at w0; exact absurd w0 (by decide)), if_neg (fun e => by rw [e] at w0; exact absurd w0 (by decide))]
  by_cases w2 : 2 < kd.toInt
  · refine ev_tableOut (tgt := 102) i_lr_rule_29 (Or.inr w2) (by decide) ?_
    refine ev_iconst (v := 0) i_lr_rule_102 (by decide) ?_
    refine ev_ireturn i_lr_rule_103 rfl rfl ?_
    refine ⟨_, rfl, fo_rf, Or.inr ⟨Or.inr (Or.inr ?_), rfl, H⟩⟩
    unfold ruleV
    rw [if_neg (fun e => by rw [e] at w2; exact absurd w2 (by decide)), if_neg (fun e => by rw [e] at w2; exact absurd w2 (by decide)), if_neg (fun e => by rw [e] at w2; exact absurd w2 (by decide))]
  obtain ⟨kk, hkk, rfl⟩ := nI_of (x := kd) (by rw [Int32.lt_iff_toInt_lt]; exact w0)
  rw [nI_toInt hkk] at w0 w2
  rcases (show kk = 0 ∨ kk = 1 ∨ kk = 2 by omega) with rfl | rfl | rfl
  · refine ev_tableIn (off := 27) (tgt := 56) i_lr_rule_29 (by decide) (by decide) (by decide) (by decide) ?_
    refine ev_aload_0 i_lr_rule_56 ?_
    refine ev_get i_lr_rule_57 fl_lr_12 (by repeat (first | assumption | exact va_up_self _ _ _ | refine hu_ne (by first | assumption | exact Ne.symm (by assumption)) ?_)) rfl ?_
    refine ev_iload_1 i_lr_rule_60 ?_
    refine ev_iload_2 i_lr_rule_61 ?_
    refine ev_iconst (v := 0) i_lr_rule_62 (by decide) ?_
    refine ev_vv3 i_lr_rule_63 lk_lr_54 cb_ru_setTerms iv_ru_setTerms (r_ru_setTerms (x := 0) u1 u3 (show j < 16 by omega) hk) (by repeat (first | assumption | exact va_up_self _ _ _ | refine hu_ne (by first | assumption | exact Ne.symm (by assumption)) ?_)) rfl (by decide) (Nat.le_of_ble_eq_true rfl) rfl rfl (fun h3 hq => ?_)
    subst hq
    refine ev_iconst (v := 1) i_lr_rule_66 (by decide) ?_
    refine ev_ireturn i_lr_rule_67 rfl rfl ?_
    exact ⟨_, rfl, fo_ag (ag_up z3) (by omega), Or.inl ⟨j, k, 0, ej, rfl, rfl, rfl, CI_U H (ag_up z3) (setT j k 0)⟩⟩
  · refine ev_tableIn (off := 39) (tgt := 68) i_lr_rule_29 (by decide) (by decide) (by decide) (by decide) ?_
    refine ev_iload_5 i_lr_rule_68 ?_
    refine ev_if_ne i_lr_rule_70 (fun c_70 => ?_) (fun c_70 => ?_)
    · refine ev_aload_0 i_lr_rule_75 ?_
      refine ev_get i_lr_rule_76 fl_lr_12 (by repeat (first | assumption | exact va_up_self _ _ _ | refine hu_ne (by first | assumption | exact Ne.symm (by assumption)) ?_)) rfl ?_
      refine ev_iload_1 i_lr_rule_79 ?_
      refine ev_iload_2 i_lr_rule_80 ?_
      refine ev_iload_5 i_lr_rule_81 ?_
      refine ev_vv3 i_lr_rule_83 lk_lr_54 cb_ru_setTerms iv_ru_setTerms (r_ru_setTerms (x := du &&& 255) u1 u3 (show j < 16 by omega) hk) (by repeat (first | assumption | exact va_up_self _ _ _ | refine hu_ne (by first | assumption | exact Ne.symm (by assumption)) ?_)) rfl (by decide) (Nat.le_of_ble_eq_true rfl) rfl rfl (fun h3 hq => ?_)
      subst hq
      refine ev_iconst (v := 1) i_lr_rule_86 (by decide) ?_
      refine ev_ireturn i_lr_rule_87 rfl rfl ?_
      refine ⟨_, rfl, fo_ag (ag_up z3) (by omega), Or.inl ⟨j, k, du &&& 255, ej, rfl, ?_, rfl, CI_U H (ag_up z3) (setT j k (du &&& 255))⟩⟩
      unfold ruleV
      rw [if_neg (show ¬ nI 1 = 0 by decide), if_pos (show nI 1 = 1 from rfl), if_neg c_70]
    · refine ev_iconst (v := 0) i_lr_rule_73 (by decide) ?_
      refine ev_ireturn i_lr_rule_74 rfl rfl ?_
      refine ⟨_, rfl, fo_rf, Or.inr ⟨Or.inr (Or.inr ?_), rfl, H⟩⟩
      unfold ruleV
      rw [if_neg (show ¬ nI 1 = 0 by decide), if_pos (show nI 1 = 1 from rfl), if_pos c_70]
  · refine ev_tableIn (off := 59) (tgt := 88) i_lr_rule_29 (by decide) (by decide) (by decide) (by decide) ?_
    refine ev_aload_0 i_lr_rule_88 ?_
    refine ev_get i_lr_rule_89 fl_lr_12 (by repeat (first | assumption | exact va_up_self _ _ _ | refine hu_ne (by first | assumption | exact Ne.symm (by assumption)) ?_)) rfl ?_
    refine ev_iload_1 i_lr_rule_92 ?_
    refine ev_iload_2 i_lr_rule_93 ?_
    refine ev_sipush (v := 256) i_lr_rule_94 (by decide) ?_
    refine ev_vv3 i_lr_rule_97 lk_lr_54 cb_ru_setTerms iv_ru_setTerms (r_ru_setTerms (x := 256) u1 u3 (show j < 16 by omega) hk) (by repeat (first | assumption | exact va_up_self _ _ _ | refine hu_ne (by first | assumption | exact Ne.symm (by assumption)) ?_)) rfl (by decide) (Nat.le_of_ble_eq_true rfl) rfl rfl (fun h3 hq => ?_)
    subst hq
    refine ev_iconst (v := 1) i_lr_rule_100 (by decide) ?_
    refine ev_ireturn i_lr_rule_101 rfl rfl ?_
    exact ⟨_, rfl, fo_ag (ag_up z3) (by omega), Or.inl ⟨j, k, 256, ej, rfl, rfl, rfl, CI_U H (ag_up z3) (setT j k 256)⟩⟩
theorem r_lr_lifts {y1 y2 on : Int32} (H : CI G h τ x ru w t l rd tx ea aa pp rv q1 q2 q3 q4 q5 fa fb n W T F len s TX tc np P I rs K D c) : Rn G M_lr_lifts 1 0 0 [.ref x, .int y1, .int y2, .int on] h (ev_qi fun v h' => fo99 τ h h' ∧ ((∃ j k, ixv y1 8 = some j ∧ ixv y2 3 = some k ∧ v = 1 ∧ CI G h' τ x ru w t l rd tx ea aa pp rv q1 q2 q3 q4 q5 fa fb n W T (upd F k (slift (F k) j (decide (¬ on = 0)))) len s TX tc np P I rs K D c) ∨ ((ixv y1 8 = none ∨ ixv y2 3 = none) ∧ v = 0 ∧ CI G h' τ x ru w t l rd tx ea aa pp rv q1 q2 q3 q4 q5 fa fb n W T F len s TX tc np P I rs K D c))) := by
  obtain ⟨⟨x1, x2, x3⟩, ⟨u1, u2, u3, u4, u5⟩, -, -, -, z⟩ := id H
  obtain ⟨z0, ⟨z1, z2, z3, z4⟩, -⟩ := z
  have nul : ru ≠ l := hne_of u1 u4 (fun z => by cases z)
  have nwl : w ≠ l := hne_of u2 u4 (al_ne2 (fun z => by cases z))
  have ntl : t ≠ l := hne_of u3 u4 (al_ne (show (48 : Nat) ≠ 3 by decide))
  refine Rn_of (ls := [some (.ref x), some (.int y1), some (.int y2), some (.int on)]) rfl rfl (Nat.le_of_ble_eq_true rfl) rfl ?_
  rcases ix_cases y1 (show 8 < 2 ^ 31 by omega) with ⟨j, hj, rfl, ej⟩ | ⟨zz, ej⟩
  rotate_left
  · refine ev_iload_1 i_lr_lifts_0 ?_
    refine ev_if_lt i_lr_lifts_1 (fun c_1 => ?_) (fun c_1 => ?_)
    · refine ev_iconst (v := 0) i_lr_lifts_17 (by decide) ?_
      refine ev_ireturn i_lr_lifts_18 rfl rfl ?_
      exact ⟨_, rfl, fo_rf, Or.inr ⟨Or.inl ej, rfl, H⟩⟩
    refine ev_iload_1 i_lr_lifts_4 ?_
    refine ev_bipush (v := 8) i_lr_lifts_5 (by decide) ?_
    refine ev_icmp_ge i_lr_lifts_7 (fun c_7 => ?_) (fun c_7 => ?_)
    · refine ev_iconst (v := 0) i_lr_lifts_17 (by decide) ?_
      refine ev_ireturn i_lr_lifts_18 rfl rfl ?_
      exact ⟨_, rfl, fo_rf, Or.inr ⟨Or.inl ej, rfl, H⟩⟩
    · exact absurd zz (by rintro (q | q); exact c_1 q; exact c_7 q)
  refine ev_iload_1 i_lr_lifts_0 ?_
  refine ev_if_lt i_lr_lifts_1 (fun c_1 => ?_) (fun c_1 => ?_)
  · exact absurd c_1 (nI_pos (by omega))
  refine ev_iload_1 i_lr_lifts_4 ?_
  refine ev_bipush (v := 8) i_lr_lifts_5 (by decide) ?_
  refine ev_icmp_ge i_lr_lifts_7 (fun c_7 => ?_) (fun c_7 => ?_)
  · exact absurd c_7 (show ¬ nI 8 ≤ nI j from nI_ge hj (by omega))
  refine ev_iload_2 i_lr_lifts_10 ?_
  refine ev_ti1 i_lr_lifts_11 lk_lr_51 cb_lr_isWay sv_lr_isWay (r_lr_isWay (y := y2)) (by decide) (Nat.le_of_ble_eq_true rfl) rfl rfl (fun v h2 hq => ?_)
  obtain ⟨rfl, rfl⟩ := hq
  rcases ix_cases y2 (show 3 < 2 ^ 31 by omega) with ⟨k, hk, rfl, ek⟩ | ⟨zz, ek⟩
  rotate_left
  · rw [ek]
    refine ev_if_ne i_lr_lifts_14 (fun c_14 => ?_) (fun c_14 => ?_)
    · exact absurd rfl c_14
    refine ev_iconst (v := 0) i_lr_lifts_17 (by decide) ?_
    refine ev_ireturn i_lr_lifts_18 rfl rfl ?_
    exact ⟨_, rfl, fo_rf, Or.inr ⟨Or.inr rfl, rfl, H⟩⟩
  rw [ek]
  refine ev_if_ne i_lr_lifts_14 (fun c_14 => ?_) (fun c_14 => ?_)
  rotate_left
  · exact absurd rfl (if_10 c_14)
  refine ev_aload_0 i_lr_lifts_19 ?_
  refine ev_get i_lr_lifts_20 fl_lr_12 (by repeat (first | assumption | exact va_up_self _ _ _ | refine hu_ne (by first | assumption | exact Ne.symm (by assumption)) ?_)) rfl ?_
  refine ev_iload_1 i_lr_lifts_23 ?_
  refine ev_iload_2 i_lr_lifts_24 ?_
  refine ev_iload_3 i_lr_lifts_25 ?_
  refine ev_vv3 i_lr_lifts_26 lk_lr_58 cb_ru_setLifted iv_ru_setLifted (r_ru_setLifted (x := on) u1 u4 hk) (by repeat (first | assumption | exact va_up_self _ _ _ | refine hu_ne (by first | assumption | exact Ne.symm (by assumption)) ?_)) rfl (by decide) (Nat.le_of_ble_eq_true rfl) rfl rfl (fun h3 hq => ?_)
  subst hq
  refine ev_iconst (v := 1) i_lr_lifts_29 (by decide) ?_
  refine ev_ireturn i_lr_lifts_30 rfl rfl ?_
  exact ⟨_, rfl, fo_ag (ag_up z4) (by omega), Or.inl ⟨j, k, ej, rfl, rfl, CI_U H (ag_up z4) ⟨hu_ne nul u1, hu_ne nwl u2, hu_ne ntl u3, va_up_self _ _ _, u5⟩⟩⟩
end OPS
