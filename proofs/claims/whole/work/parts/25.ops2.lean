section OPS2
variable {G : ev_G} {h : ev_H}
variable {τ : Nat → Nat} {x ru w t l rd tx ea aa pp rv q1 q2 q3 q4 q5 : Nat} {fa fb : Nat → Nat} {n : Nat} {W : Nat → Int64} {T F : Nat → Int32} {len : Nat} {s : RS} {TX : Nat → Int32} {tc : Nat → Nat} {np : Nat} {P : Nat → Option Nat} {I : Nat → pkT} {rs : rvs} {K D : Nat → Int32} {c : Nat}
theorem r_lr_type {ch : Nat} (H : CI G h τ x ru w t l rd tx ea aa pp rv q1 q2 q3 q4 q5 fa fb n W T F len s TX tc np P I rs K D c) (hc : ch < 65536) : Rn G M_lr_type 1 0 0 [.ref x, .int (nI ch)] h (ev_qi fun v h' => fo99 τ h h' ∧ ((32 ≤ ch ∧ ch ≤ 126 ∧ len < 60 ∧ v = 1 ∧ CI G h' τ x ru w t l rd tx ea aa pp rv q1 q2 q3 q4 q5 fa fb n W T F (len + 1) s (upd TX len (nI ch)) (va_up tc len ch) np P I rs K D c) ∨ (¬ (32 ≤ ch ∧ ch ≤ 126 ∧ len < 60) ∧ v = 0 ∧ CI G h' τ x ru w t l rd tx ea aa pp rv q1 q2 q3 q4 q5 fa fb n W T F len s TX tc np P I rs K D c))) := by
  obtain ⟨⟨x1, x2, x3⟩, -, ⟨r1, r2, r3, r4⟩, -, -, z⟩ := id H
  obtain ⟨z0, -, ⟨y0, y1, y2, y3, y4⟩, -⟩ := z
  have r0 := r1.1
  refine Rn_of (ls := [some (.ref x), some (.int (nI ch))]) rfl rfl (Nat.le_of_ble_eq_true rfl) rfl ?_
  refine ev_aload_0 i_lr_type_0 ?_
  refine ev_get i_lr_type_1 fl_lr_19 (by repeat (first | assumption | exact va_up_self _ _ _ | refine hu_ne (by first | assumption | exact Ne.symm (by assumption)) ?_)) rfl ?_
  refine ev_iload_1 i_lr_type_4 ?_
  refine ev_vi1 i_lr_type_5 lk_lr_62 cb_rd_append iv_rd_append (r_rd_append r1 hc r3) (by repeat (first | assumption | exact va_up_self _ _ _ | refine hu_ne (by first | assumption | exact Ne.symm (by assumption)) ?_)) rfl (by decide) (Nat.le_of_ble_eq_true rfl) rfl rfl (fun v h' hq => ?_)
  rcases hq with ⟨k1, k2, k3, rfl, rfl⟩ | ⟨k, rfl, rfl⟩
  · obtain ⟨d0, d1, ⟨f2, d2, e2⟩, ⟨f3, d3, e3⟩, d4, d5, d6⟩ := id r1
    have nat : rd ≠ tx := hne_of d0 d1 (fun z => by cases z)
    have A : ag τ 2 h (va_up (va_up h tx (some (aC G 60 (upd TX len (nI ch))))) rd (some (rd_c tx ea aa (fa 0) (fa 1) (len + 1) s.1 s.2.1 s.2.2.1 s.2.2.2.1))) := ag_tr (ag_up y1) (ag_up y0)
    have H1 : rdq G (va_up (va_up h tx (some (aC G 60 (upd TX len (nI ch))))) rd (some (rd_c tx ea aa (fa 0) (fa 1) (len + 1) s.1 s.2.1 s.2.2.1 s.2.2.2.1))) rd tx ea aa fa fb (len + 1) (upd TX len (nI ch)) s := by
      have kp : ∀ p e, h p = some e → p ≠ rd → p ≠ tx → va_up (va_up h tx (some (aC G 60 (upd TX len (nI ch))))) rd (some (rd_c tx ea aa (fa 0) (fa 1) (len + 1) s.1 s.2.1 s.2.2.1 s.2.2.2.1)) p = some e := fun p e hp k1 k2 => hu_ne k1 (hu_ne k2 hp)
      refine ⟨va_up_self _ _ _, hu_ne (Ne.symm nat) (va_up_self _ _ _), ⟨f2, kp _ _ d2 (Ne.symm (hne_of d0 d2 (fun z => by cases z))) (hne_of d2 d1 (al_ne2 (fun z => by cases z))), e2⟩, ⟨f3, kp _ _ d3 (Ne.symm (hne_of d0 d3 (fun z => by cases z))) (hne_of d3 d1 (al_ne2 (fun z => by cases z))), e3⟩, fun k hk => ?_, d5, d6⟩
      obtain ⟨m, B, g1, g2, g3, g4⟩ := d4 k hk
      exact ⟨m, B, kp _ _ g1 (Ne.symm (hne_of d0 g1 (fun z => by cases z))) (hne_of g1 d1 (fun z => by cases z)), kp _ _ g2 (Ne.symm (hne_of d0 g2 (fun z => by cases z))) (hne_of g2 d1 (al_ne2 (fun z => by cases z))), g3, g4⟩
    refine ev_ireturn i_lr_type_8 rfl rfl ?_
    refine ⟨_, rfl, fo_ag A (by omega), Or.inl ⟨k1, k2, k3, rfl, CI_R H A H1 r2 (by omega) (fun i hi => ?_)⟩⟩
    by_cases e : i = len
    · subst e
      rw [pk_us, va_up_self]
      exact ⟨rfl, k1, k2⟩
    · rw [pk_un e, va_up_ne _ _ e]
      exact r4 i (by omega)
  · refine ev_ireturn i_lr_type_8 rfl rfl ?_
    exact ⟨_, rfl, fo_rf, Or.inr ⟨k, rfl, H⟩⟩
theorem r_lr_choices {i : Int32} (H : CI G h τ x ru w t l rd tx ea aa pp rv q1 q2 q3 q4 q5 fa fb n W T F len s TX tc np P I rs K D c) : Rn G M_lr_choices 1 0 0 [.ref x, .int i] h (ev_qi fun v h' => h' = h ∧ ((∃ p, p < np ∧ ixv i np = some p ∧ v = nI (I p).2.1.1) ∨ (ixv i np = none ∧ v = -1))) := by
  obtain ⟨⟨x1, x2, x3⟩, -, -, ⟨p1, p2⟩, -⟩ := id H
  refine Rn_of (ls := [some (.ref x), some (.int i), none]) rfl rfl (Nat.le_of_ble_eq_true rfl) rfl ?_
  refine ev_aload_0 i_lr_choices_0 ?_
  refine ev_iload_1 i_lr_choices_1 ?_
  refine ev_vq1 i_lr_choices_2 lk_lr_67 cb_lr_packAt iv_lr_packAt (r_lr_packAt H) (by repeat (first | assumption | exact va_up_self _ _ _ | refine hu_ne (by first | assumption | exact Ne.symm (by assumption)) ?_)) rfl (by decide) (Nat.le_of_ble_eq_true rfl) rfl rfl (fun v h' hq => ?_)
  obtain ⟨rfl, ⟨p, hp, rfl, e, rfl⟩ | ⟨e, rfl⟩⟩ := hq
  · obtain ⟨k1, k2, k3, k4, k5, k6, k7, k8, k9⟩ := (p2 p hp).2
    refine ev_astore_2 i_lr_choices_5 rfl ?_
    refine ev_aload_2 i_lr_choices_6 ?_
    refine ev_ifnonnull i_lr_choices_7 ?_
    refine ev_aload_2 i_lr_choices_14 ?_
    refine ev_get i_lr_choices_15 fl_lr_86 (by repeat (first | assumption | exact va_up_self _ _ _ | refine hu_ne (by first | assumption | exact Ne.symm (by assumption)) ?_)) rfl ?_
    refine ev_vi0 i_lr_choices_18 lk_lr_100 cb_fo_size iv_fo_size (r_fo_size k2) (by repeat (first | assumption | exact va_up_self _ _ _ | refine hu_ne (by first | assumption | exact Ne.symm (by assumption)) ?_)) rfl (by decide) (Nat.le_of_ble_eq_true rfl) rfl rfl (fun v h' hq => ?_)
    obtain ⟨rfl, rfl⟩ := hq
    refine ev_ireturn i_lr_choices_21 rfl rfl ?_
    exact ⟨_, rfl, rfl, Or.inl ⟨p, hp, e, rfl⟩⟩
  · refine ev_astoreN_2 i_lr_choices_5 rfl ?_
    refine ev_aloadN_2 i_lr_choices_6 ?_
    refine ev_ifnonnullN i_lr_choices_7 ?_
    refine ev_iconst (v := (-1)) i_lr_choices_10 (by decide) ?_
    refine ev_goto i_lr_choices_11 ?_
    refine ev_ireturn i_lr_choices_21 rfl rfl ?_
    exact ⟨_, rfl, rfl, Or.inr ⟨e, rfl⟩⟩
theorem r_lr_pair {i j k : Int32} (H : CI G h τ x ru w t l rd tx ea aa pp rv q1 q2 q3 q4 q5 fa fb n W T F len s TX tc np P I rs K D c) : Rn G M_lr_pair 2 0 0 [.ref x, .int i, .int j, .int k] h (ev_qi fun v h' => h' = h ∧ ((∃ p m, p < np ∧ ixv i np = some p ∧ m < (I p).2.1.1 ∧ ixv j (I p).2.1.1 = some m ∧ v = codef (cs (I p).2.1.2 m) k) ∨ ((ixv i np = none ∨ ∃ p, p < np ∧ ixv i np = some p ∧ ixv j (I p).2.1.1 = none) ∧ v = -1))) := by
  obtain ⟨⟨x1, x2, x3⟩, -, -, ⟨p1, p2⟩, -⟩ := id H
  refine Rn_of (ls := [some (.ref x), some (.int i), some (.int j), some (.int k), none]) rfl rfl (Nat.le_of_ble_eq_true rfl) rfl ?_
  refine ev_aload_0 i_lr_pair_0 ?_
  refine ev_iload_1 i_lr_pair_1 ?_
  refine ev_vq1 i_lr_pair_2 lk_lr_67 cb_lr_packAt iv_lr_packAt (r_lr_packAt H) (by repeat (first | assumption | exact va_up_self _ _ _ | refine hu_ne (by first | assumption | exact Ne.symm (by assumption)) ?_)) rfl (by decide) (Nat.le_of_ble_eq_true rfl) rfl rfl (fun v h' hq => ?_)
  obtain ⟨rfl, ⟨p, hp, rfl, e, rfl⟩ | ⟨e, rfl⟩⟩ := hq
  · obtain ⟨k1, k2, k3, k4, k5, k6, k7, k8, k9⟩ := (p2 p hp).2
    refine ev_astore_4 i_lr_pair_5 rfl ?_
    refine ev_aload_4 i_lr_pair_7 ?_
    refine ev_ifnonnull i_lr_pair_9 ?_
    refine ev_aload_4 i_lr_pair_16 ?_
    refine ev_get i_lr_pair_18 fl_lr_86 (by repeat (first | assumption | exact va_up_self _ _ _ | refine hu_ne (by first | assumption | exact Ne.symm (by assumption)) ?_)) rfl ?_
    refine ev_iload_2 i_lr_pair_21 ?_
    refine ev_iload_3 i_lr_pair_22 ?_
    rcases ix_cases j (show (I p).2.1.1 < 2 ^ 31 by omega) with ⟨m, hm, rfl, em⟩ | ⟨zz, em⟩
    · refine ev_vi2 i_lr_pair_23 lk_lr_103 cb_fo_codeAt iv_fo_codeAt (r_fo_codeAt (k := k) k2 k3 (by omega) k7 hm) (by repeat (first | assumption | exact va_up_self _ _ _ | refine hu_ne (by first | assumption | exact Ne.symm (by assumption)) ?_)) rfl (by decide) (Nat.le_of_ble_eq_true rfl) rfl rfl (fun v h' hq => ?_)
      obtain ⟨rfl, rfl⟩ := hq
      refine ev_ireturn i_lr_pair_26 rfl rfl ?_
      exact ⟨_, rfl, rfl, Or.inl ⟨p, m, hp, e, hm, em, rfl⟩⟩
    · refine ev_vi2 i_lr_pair_23 lk_lr_103 cb_fo_codeAt iv_fo_codeAt (r_fo_codeAt_out (k := k) k2 (by omega) zz) (by repeat (first | assumption | exact va_up_self _ _ _ | refine hu_ne (by first | assumption | exact Ne.symm (by assumption)) ?_)) rfl (by decide) (Nat.le_of_ble_eq_true rfl) rfl rfl (fun v h' hq => ?_)
      obtain ⟨rfl, rfl⟩ := hq
      refine ev_ireturn i_lr_pair_26 rfl rfl ?_
      exact ⟨_, rfl, rfl, Or.inr ⟨Or.inr ⟨p, hp, e, em⟩, rfl⟩⟩
  · refine ev_astoreN_4 i_lr_pair_5 rfl ?_
    refine ev_aloadN_4 i_lr_pair_7 ?_
    refine ev_ifnonnullN i_lr_pair_9 ?_
    refine ev_iconst (v := (-1)) i_lr_pair_12 (by decide) ?_
    refine ev_goto i_lr_pair_13 ?_
    refine ev_ireturn i_lr_pair_26 rfl rfl ?_
    exact ⟨_, rfl, rfl, Or.inr ⟨Or.inl e, rfl⟩⟩
theorem r_lr_best {i j : Int32} (H : CI G h τ x ru w t l rd tx ea aa pp rv q1 q2 q3 q4 q5 fa fb n W T F len s TX tc np P I rs K D c) : Rn G M_lr_best 3 0 0 [.ref x, .int i, .int j] h (ev_qi fun v h' => h' = h ∧ ((∃ p k, p < np ∧ k < 3 ∧ ixv i np = some p ∧ ixv j 3 = some k ∧ v = (cbest (I p).2.1.2 T F k (I p).2.1.1).1) ∨ ((ixv i np = none ∨ ixv j 3 = none) ∧ v = -1))) := by
  obtain ⟨⟨x1, x2, x3⟩, ⟨u1, u2, u3, u4, u5⟩, -, ⟨p1, p2⟩, -⟩ := id H
  refine Rn_of (ls := [some (.ref x), some (.int i), some (.int j), none]) rfl rfl (Nat.le_of_ble_eq_true rfl) rfl ?_
  refine ev_aload_0 i_lr_best_0 ?_
  refine ev_iload_1 i_lr_best_1 ?_
  refine ev_vq1 i_lr_best_2 lk_lr_67 cb_lr_packAt iv_lr_packAt (r_lr_packAt H) (by repeat (first | assumption | exact va_up_self _ _ _ | refine hu_ne (by first | assumption | exact Ne.symm (by assumption)) ?_)) rfl (by decide) (Nat.le_of_ble_eq_true rfl) rfl rfl (fun v h' hq => ?_)
  obtain ⟨rfl, ⟨p, hp, rfl, e, rfl⟩ | ⟨e, rfl⟩⟩ := hq
  · obtain ⟨k1, k2, k3, k4, k5, k6, k7, k8, k9⟩ := (p2 p hp).2
    refine ev_astore_3 i_lr_best_5 rfl ?_
    refine ev_aload_3 i_lr_best_6 ?_
    refine ev_ifnull i_lr_best_7 ?_
    refine ev_iload_2 i_lr_best_10 ?_
    refine ev_ti1 i_lr_best_11 lk_lr_51 cb_lr_isWay sv_lr_isWay (r_lr_isWay (y := j)) (by decide) (Nat.le_of_ble_eq_true rfl) rfl rfl (fun v h' hq => ?_)
    obtain ⟨rfl, rfl⟩ := hq
    rcases ix_cases j (show 3 < 2 ^ 31 by omega) with ⟨k, hk, rfl, ek⟩ | ⟨zz, ek⟩
    · rw [ek]
      refine ev_if_ne i_lr_best_14 (fun c_14 => ?_) (fun c_14 => ?_)
      rotate_left
      · exact absurd rfl (if_10 c_14)
      refine ev_aload_0 i_lr_best_21 ?_
      refine ev_get i_lr_best_22 fl_lr_12 (by repeat (first | assumption | exact va_up_self _ _ _ | refine hu_ne (by first | assumption | exact Ne.symm (by assumption)) ?_)) rfl ?_
      refine ev_aload_3 i_lr_best_25 ?_
      refine ev_get i_lr_best_26 fl_lr_86 (by repeat (first | assumption | exact va_up_self _ _ _ | refine hu_ne (by first | assumption | exact Ne.symm (by assumption)) ?_)) rfl ?_
      refine ev_iload_2 i_lr_best_29 ?_
      refine ev_vi2 i_lr_best_30 lk_lr_107 cb_ru_bestOf iv_ru_bestOf (r_ru_bestOf u1 u3 u4 k2 k3 (by omega) k7 hk) (by repeat (first | assumption | exact va_up_self _ _ _ | refine hu_ne (by first | assumption | exact Ne.symm (by assumption)) ?_)) rfl (by decide) (Nat.le_of_ble_eq_true rfl) rfl rfl (fun v h' hq => ?_)
      obtain ⟨rfl, rfl⟩ := hq
      refine ev_ireturn i_lr_best_33 rfl rfl ?_
      exact ⟨_, rfl, rfl, Or.inl ⟨p, k, hp, hk, e, rfl, rfl⟩⟩
    · rw [ek]
      refine ev_if_ne i_lr_best_14 (fun c_14 => ?_) (fun c_14 => ?_)
      · exact absurd rfl c_14
      refine ev_iconst (v := (-1)) i_lr_best_17 (by decide) ?_
      refine ev_goto i_lr_best_18 ?_
      refine ev_ireturn i_lr_best_33 rfl rfl ?_
      exact ⟨_, rfl, rfl, Or.inr ⟨Or.inr rfl, rfl⟩⟩
  · refine ev_astoreN_3 i_lr_best_5 rfl ?_
    refine ev_aloadN_3 i_lr_best_6 ?_
    refine ev_ifnullN i_lr_best_7 ?_
    refine ev_iconst (v := (-1)) i_lr_best_17 (by decide) ?_
    refine ev_goto i_lr_best_18 ?_
    refine ev_ireturn i_lr_best_33 rfl rfl ?_
    exact ⟨_, rfl, rfl, Or.inr ⟨Or.inl e, rfl⟩⟩
/-- duties of the best choice -/
def bdut (B : Nat → Int64) (n : Nat) (T F : Nat → Int32) (k : Nat) : Int32 := if (cbest B T F k n).1 = -1 then 0 else tjoin (cs B (cbest B T F k n).1.toNatClampNeg) T F k 144
theorem r_lr_duties {i j : Int32} (H : CI G h τ x ru w t l rd tx ea aa pp rv q1 q2 q3 q4 q5 fa fb n W T F len s TX tc np P I rs K D c) : Rn G M_lr_duties 4 0 0 [.ref x, .int i, .int j] h (ev_qi fun v h' => h' = h ∧ ((∃ p k, p < np ∧ k < 3 ∧ ixv i np = some p ∧ ixv j 3 = some k ∧ v = bdut (I p).2.1.2 (I p).2.1.1 T F k) ∨ ((ixv i np = none ∨ ixv j 3 = none) ∧ v = 0))) := by
  obtain ⟨⟨x1, x2, x3⟩, ⟨u1, u2, u3, u4, u5⟩, -, ⟨p1, p2⟩, -⟩ := id H
  refine Rn_of (ls := [some (.ref x), some (.int i), some (.int j), none, none]) rfl rfl (Nat.le_of_ble_eq_true rfl) rfl ?_
  refine ev_aload_0 i_lr_duties_0 ?_
  refine ev_iload_1 i_lr_duties_1 ?_
  refine ev_iload_2 i_lr_duties_2 ?_
  refine ev_vi2 i_lr_duties_3 lk_lr_111 cb_lr_best iv_lr_best (r_lr_best H) (by repeat (first | assumption | exact va_up_self _ _ _ | refine hu_ne (by first | assumption | exact Ne.symm (by assumption)) ?_)) rfl (by decide) (Nat.le_of_ble_eq_true rfl) rfl rfl (fun v h' hq => ?_)
  obtain ⟨rfl, hq⟩ := hq
  refine ev_istore_3 i_lr_duties_6 rfl ?_
  refine ev_aload_0 i_lr_duties_7 ?_
  refine ev_iload_1 i_lr_duties_8 ?_
  refine ev_vq1 i_lr_duties_9 lk_lr_67 cb_lr_packAt iv_lr_packAt (r_lr_packAt H) (by repeat (first | assumption | exact va_up_self _ _ _ | refine hu_ne (by first | assumption | exact Ne.symm (by assumption)) ?_)) rfl (by decide) (Nat.le_of_ble_eq_true rfl) rfl rfl (fun v' h' hq' => ?_)
  obtain ⟨rfl, ⟨p, hp, rfl, e, rfl⟩ | ⟨e, rfl⟩⟩ := hq'
  · obtain ⟨k1, k2, k3, k4, k5, k6, k7, k8, k9⟩ := (p2 p hp).2
    refine ev_astore_4 i_lr_duties_12 rfl ?_
    refine ev_aload_4 i_lr_duties_14 ?_
    refine ev_ifnull i_lr_duties_16 ?_
    rcases hq with ⟨p', k, hp', hk, e', ek, rfl⟩ | ⟨hn, rfl⟩
    · obtain rfl : p' = p := Option.some.inj (e'.symm.trans e)
      obtain ⟨k', hk', rfl, ek'⟩ : ∃ k', k' < 3 ∧ j = nI k' ∧ ixv j 3 = some k' := by
        rcases ix_cases j (show 3 < 2 ^ 31 by omega) with z | ⟨-, z⟩
        · exact z
        · rw [ek] at z; cases z
      obtain rfl : k' = k := Option.some.inj (ek'.symm.trans ek)
      rcases cbest_rng (I p').2.1.2 T F k' (I p').2.1.1 with eb | ⟨m, hm, eb⟩
      · have ed : bdut (I p').2.1.2 (I p').2.1.1 T F k' = 0 := by unfold bdut; rw [if_pos eb]
        rw [eb]
        refine ev_iload_3 i_lr_duties_19 ?_
        refine ev_iconst (v := (-1)) i_lr_duties_20 (by decide) ?_
        refine ev_icmp_ne i_lr_duties_21 (fun c_21 => ?_) (fun c_21 => ?_)
        · exact absurd rfl c_21
        refine ev_iconst (v := 0) i_lr_duties_24 (by decide) ?_
        refine ev_goto i_lr_duties_25 ?_
        refine ev_ireturn i_lr_duties_42 rfl rfl ?_
        exact ⟨_, rfl, rfl, Or.inl ⟨p', k', hp, hk, e, ek, ed.symm⟩⟩
      · have ed : bdut (I p').2.1.2 (I p').2.1.1 T F k' = tjoin (cs (I p').2.1.2 m) T F k' 144 := by unfold bdut; rw [if_neg (by rw [eb]; exact nI_nm1 (by omega)), eb, nI_clamp (by omega)]
        rw [eb]
        refine ev_iload_3 i_lr_duties_19 ?_
        refine ev_iconst (v := (-1)) i_lr_duties_20 (by decide) ?_
        refine ev_icmp_ne i_lr_duties_21 (fun c_21 => ?_) (fun c_21 => ?_)
        rotate_left
        · exact absurd c_21 (nI_nm1 (by omega))
        refine ev_aload_0 i_lr_duties_28 ?_
        refine ev_get i_lr_duties_29 fl_lr_12 (by repeat (first | assumption | exact va_up_self _ _ _ | refine hu_ne (by first | assumption | exact Ne.symm (by assumption)) ?_)) rfl ?_
        refine ev_aload_4 i_lr_duties_32 ?_
        refine ev_get i_lr_duties_34 fl_lr_86 (by repeat (first | assumption | exact va_up_self _ _ _ | refine hu_ne (by first | assumption | exact Ne.symm (by assumption)) ?_)) rfl ?_
        refine ev_iload_3 i_lr_duties_37 ?_
        refine ev_iload_2 i_lr_duties_38 ?_
        refine ev_vi3 i_lr_duties_39 lk_lr_114 cb_ru_termsOf iv_ru_termsOf (r_ru_termsOf u1 u3 u4 k2 k3 (by omega) k7 hm hk) (by repeat (first | assumption | exact va_up_self _ _ _ | refine hu_ne (by first | assumption | exact Ne.symm (by assumption)) ?_)) rfl (by decide) (Nat.le_of_ble_eq_true rfl) rfl rfl (fun v h' hq => ?_)
        obtain ⟨rfl, rfl⟩ := hq
        refine ev_ireturn i_lr_duties_42 rfl rfl ?_
        exact ⟨_, rfl, rfl, Or.inl ⟨p', k', hp, hk, e, ek, ed.symm⟩⟩
    · refine ev_iload_3 i_lr_duties_19 ?_
      refine ev_iconst (v := (-1)) i_lr_duties_20 (by decide) ?_
      refine ev_icmp_ne i_lr_duties_21 (fun c_21 => ?_) (fun c_21 => ?_)
      · exact absurd rfl c_21
      refine ev_iconst (v := 0) i_lr_duties_24 (by decide) ?_
      refine ev_goto i_lr_duties_25 ?_
      refine ev_ireturn i_lr_duties_42 rfl rfl ?_
      exact ⟨_, rfl, rfl, Or.inr ⟨hn, rfl⟩⟩
  · refine ev_astoreN_4 i_lr_duties_12 rfl ?_
    refine ev_aloadN_4 i_lr_duties_14 ?_
    refine ev_ifnullN i_lr_duties_16 ?_
    refine ev_iconst (v := 0) i_lr_duties_24 (by decide) ?_
    refine ev_goto i_lr_duties_25 ?_
    refine ev_ireturn i_lr_duties_42 rfl rfl ?_
    exact ⟨_, rfl, rfl, Or.inr ⟨Or.inl e, rfl⟩⟩
theorem r_lr_grant {i e0 : Int32} (H : CI G h τ x ru w t l rd tx ea aa pp rv q1 q2 q3 q4 q5 fa fb n W T F len s TX tc np P I rs K D c) : Rn G M_lr_grant 1 0 0 [.ref x, .int i, .int e0] h (ev_qi fun v h' => fo99 τ h h' ∧ ((∃ p, p < np ∧ ixv i np = some p ∧ 0 ≤ e0 ∧ v = 1 ∧ CI G h' τ x ru w t l rd tx ea aa pp rv q1 q2 q3 q4 q5 fa fb n W T F len s TX tc np P (va_up I p ((I p).1, (I p).2.1, (I p).2.2.1, e0)) rs K D c) ∨ ((ixv i np = none ∨ e0 < 0) ∧ v = 0 ∧ CI G h' τ x ru w t l rd tx ea aa pp rv q1 q2 q3 q4 q5 fa fb n W T F len s TX tc np P I rs K D c))) := by
  obtain ⟨⟨x1, x2, x3⟩, -, -, ⟨p1, p2⟩, -, z⟩ := id H
  obtain ⟨-, -, -, -, -, b1⟩ := z
  refine Rn_of (ls := [some (.ref x), some (.int i), some (.int e0), none]) rfl rfl (Nat.le_of_ble_eq_true rfl) rfl ?_
  refine ev_aload_0 i_lr_grant_0 ?_
  refine ev_iload_1 i_lr_grant_1 ?_
  refine ev_vq1 i_lr_grant_2 lk_lr_67 cb_lr_packAt iv_lr_packAt (r_lr_packAt H) (by repeat (first | assumption | exact va_up_self _ _ _ | refine hu_ne (by first | assumption | exact Ne.symm (by assumption)) ?_)) rfl (by decide) (Nat.le_of_ble_eq_true rfl) rfl rfl (fun v h' hq => ?_)
  obtain ⟨rfl, ⟨p, hp, rfl, e, rfl⟩ | ⟨e, rfl⟩⟩ := hq
  · have hpk := (p2 p hp).2
    obtain ⟨k1, k2, k3, k4, k5, k6⟩ := hpk
    have tg := b1 p hp
    refine ev_astore_3 i_lr_grant_5 rfl ?_
    refine ev_aload_3 i_lr_grant_6 ?_
    refine ev_ifnull i_lr_grant_7 ?_
    refine ev_iload_2 i_lr_grant_10 ?_
    refine ev_if_ge i_lr_grant_11 (fun c_11 => ?_) (fun c_11 => ?_)
    rotate_left
    · refine ev_iconst (v := 0) i_lr_grant_14 (by decide) ?_
      refine ev_ireturn i_lr_grant_15 rfl rfl ?_
      exact ⟨_, rfl, fo_rf, Or.inr ⟨Or.inr (Int32.not_le.mp c_11), rfl, H⟩⟩
    refine ev_aload_3 i_lr_grant_16 ?_
    refine ev_iload_2 i_lr_grant_17 ?_
    refine ev_put i_lr_grant_18 pl_lr_grant_122 (by repeat (first | assumption | exact va_up_self _ _ _ | refine hu_ne (by first | assumption | exact Ne.symm (by assumption)) ?_)) rfl rfl (Nat.le_of_ble_eq_true rfl) rfl ?_
    refine ev_iconst (v := 1) i_lr_grant_21 (by decide) ?_
    refine ev_ireturn i_lr_grant_22 rfl rfl ?_
    have A : ag τ (5 + p) h' (va_up h' (I p).1.1 (some (pk_c (I p).1.2.1 (I p).1.2.2.2.1 (I p).1.2.2.2.2 (I p).2.2.1.1 e0))) := ag_up tg.1
    refine ⟨_, rfl, fo_ag A (by omega), Or.inl ⟨p, hp, e, c_11, rfl, CI_P H hp A rfl ?_⟩⟩
    exact ⟨va_up_self _ _ _, hu_ne (hne_of k2 k1 (fun z => by cases z)) k2, hu_ne (hne_of k3 k1 (fun z => by cases z)) k3, hu_ne (hne_of k4 k1 (fun z => by cases z)) k4, hu_ne (hne_of k5 k1 (fun z => by cases z)) k5, k6⟩
  · refine ev_astoreN_3 i_lr_grant_5 rfl ?_
    refine ev_aloadN_3 i_lr_grant_6 ?_
    refine ev_ifnullN i_lr_grant_7 ?_
    refine ev_iconst (v := 0) i_lr_grant_14 (by decide) ?_
    refine ev_ireturn i_lr_grant_15 rfl rfl ?_
    exact ⟨_, rfl, fo_rf, Or.inr ⟨Or.inl e, rfl, H⟩⟩
end OPS2
