section MO1
variable {G : ev_G} {h h0 : ev_H} {m : Nat} {ad : Nat → Nat} {sc : Nat → Int32} {A : Nat → Nat → Int32} {Wd : Nat → Int64}
theorem r_mo_isWay {y : Int32} : Rn G M_mo_isWay 0 0 0 [.int y] h (ev_qi fun v h' => v = (if (ixv y 3).isSome then 1 else 0) ∧ h' = h) := by
  refine Rn_of (ls := [some (.int y)]) rfl rfl (Nat.le_of_ble_eq_true rfl) rfl ?_
  rcases ix_cases y (show 3 < 2 ^ 31 by omega) with ⟨j, hj, rfl, e⟩ | ⟨z, e⟩
  · refine ev_iload_0 i_mo_isWay_0 ?_
    refine ev_if_lt i_mo_isWay_1 (fun c_1 => ?_) (fun c_1 => ?_)
    · exact absurd c_1 (nI_pos (by omega))
    refine ev_iload_0 i_mo_isWay_4 ?_
    refine ev_iconst (v := 3) i_mo_isWay_5 (by decide) ?_
    refine ev_icmp_ge i_mo_isWay_6 (fun c_6 => ?_) (fun c_6 => ?_)
    · exact absurd c_6 (show ¬ nI 3 ≤ nI j from nI_ge hj (by omega))
    refine ev_iconst (v := 1) i_mo_isWay_9 (by decide) ?_
    refine ev_goto i_mo_isWay_10 ?_
    refine ev_ireturn i_mo_isWay_14 rfl rfl ?_
    exact ⟨_, rfl, by rw [e]; rfl, rfl⟩
  · refine ev_iload_0 i_mo_isWay_0 ?_
    refine ev_if_lt i_mo_isWay_1 (fun c_1 => ?_) (fun c_1 => ?_)
    · refine ev_iconst (v := 0) i_mo_isWay_13 (by decide) ?_
      refine ev_ireturn i_mo_isWay_14 rfl rfl ?_
      exact ⟨_, rfl, by rw [e]; rfl, rfl⟩
    refine ev_iload_0 i_mo_isWay_4 ?_
    refine ev_iconst (v := 3) i_mo_isWay_5 (by decide) ?_
    refine ev_icmp_ge i_mo_isWay_6 (fun c_6 => ?_) (fun c_6 => ?_)
    · refine ev_iconst (v := 0) i_mo_isWay_13 (by decide) ?_
      refine ev_ireturn i_mo_isWay_14 rfl rfl ?_
      exact ⟨_, rfl, by rw [e]; rfl, rfl⟩
    · exact absurd z (by rintro (q | q); exact c_1 q; exact c_6 q)
theorem r_mo_isLicence {y : Int32} {n : Nat} (H : MI G h0 h m ad sc A Wd) (hn : sc 2 = nI n) (hn2 : n < 2 ^ 31) : Rn G M_mo_isLicence 0 0 0 [.ref m, .int y] h (ev_qi fun v h' => v = (if (ixv y n).isSome then 1 else 0) ∧ h' = h) := by
  refine Rn_of (ls := [some (.ref m), some (.int y)]) rfl rfl (Nat.le_of_ble_eq_true rfl) rfl ?_
  rcases ix_cases y hn2 with ⟨j, hj, rfl, e⟩ | ⟨z, e⟩
  · refine ev_iload_1 i_mo_isLicence_0 ?_
    refine ev_if_lt i_mo_isLicence_1 (fun c_1 => ?_) (fun c_1 => ?_)
    · exact absurd c_1 (nI_pos (by omega))
    refine ev_iload_1 i_mo_isLicence_4 ?_
    refine ev_aload_0 i_mo_isLicence_5 ?_
    refine ev_get i_mo_isLicence_6 fl_mo_85 H.1 rfl ?_
    refine ev_icmp_ge i_mo_isLicence_9 (fun c_9 => ?_) (fun c_9 => ?_)
    · rw [hn] at c_9
      exact absurd c_9 (nI_ge hj (by omega))
    refine ev_iconst (v := 1) i_mo_isLicence_12 (by decide) ?_
    refine ev_goto i_mo_isLicence_13 ?_
    refine ev_ireturn i_mo_isLicence_17 rfl rfl ?_
    exact ⟨_, rfl, by rw [e]; rfl, rfl⟩
  · refine ev_iload_1 i_mo_isLicence_0 ?_
    refine ev_if_lt i_mo_isLicence_1 (fun c_1 => ?_) (fun c_1 => ?_)
    · refine ev_iconst (v := 0) i_mo_isLicence_16 (by decide) ?_
      refine ev_ireturn i_mo_isLicence_17 rfl rfl ?_
      exact ⟨_, rfl, by rw [e]; rfl, rfl⟩
    refine ev_iload_1 i_mo_isLicence_4 ?_
    refine ev_aload_0 i_mo_isLicence_5 ?_
    refine ev_get i_mo_isLicence_6 fl_mo_85 H.1 rfl ?_
    refine ev_icmp_ge i_mo_isLicence_9 (fun c_9 => ?_) (fun c_9 => ?_)
    · refine ev_iconst (v := 0) i_mo_isLicence_16 (by decide) ?_
      refine ev_ireturn i_mo_isLicence_17 rfl rfl ?_
      exact ⟨_, rfl, by rw [e]; rfl, rfl⟩
    · rw [hn] at c_9
      exact absurd z (by rintro (q | q); exact c_1 q; exact c_9 q)
theorem r_mo_isPack {y : Int32} {n : Nat} (H : MI G h0 h m ad sc A Wd) (hn : sc 3 = nI n) (hn2 : n < 2 ^ 31) : Rn G M_mo_isPack 0 0 0 [.ref m, .int y] h (ev_qi fun v h' => v = (if (ixv y n).isSome then 1 else 0) ∧ h' = h) := by
  refine Rn_of (ls := [some (.ref m), some (.int y)]) rfl rfl (Nat.le_of_ble_eq_true rfl) rfl ?_
  rcases ix_cases y hn2 with ⟨j, hj, rfl, e⟩ | ⟨z, e⟩
  · refine ev_iload_1 i_mo_isPack_0 ?_
    refine ev_if_lt i_mo_isPack_1 (fun c_1 => ?_) (fun c_1 => ?_)
    · exact absurd c_1 (nI_pos (by omega))
    refine ev_iload_1 i_mo_isPack_4 ?_
    refine ev_aload_0 i_mo_isPack_5 ?_
    refine ev_get i_mo_isPack_6 fl_mo_88 H.1 rfl ?_
    refine ev_icmp_ge i_mo_isPack_9 (fun c_9 => ?_) (fun c_9 => ?_)
    · rw [hn] at c_9
      exact absurd c_9 (nI_ge hj (by omega))
    refine ev_iconst (v := 1) i_mo_isPack_12 (by decide) ?_
    refine ev_goto i_mo_isPack_13 ?_
    refine ev_ireturn i_mo_isPack_17 rfl rfl ?_
    exact ⟨_, rfl, by rw [e]; rfl, rfl⟩
  · refine ev_iload_1 i_mo_isPack_0 ?_
    refine ev_if_lt i_mo_isPack_1 (fun c_1 => ?_) (fun c_1 => ?_)
    · refine ev_iconst (v := 0) i_mo_isPack_16 (by decide) ?_
      refine ev_ireturn i_mo_isPack_17 rfl rfl ?_
      exact ⟨_, rfl, by rw [e]; rfl, rfl⟩
    refine ev_iload_1 i_mo_isPack_4 ?_
    refine ev_aload_0 i_mo_isPack_5 ?_
    refine ev_get i_mo_isPack_6 fl_mo_88 H.1 rfl ?_
    refine ev_icmp_ge i_mo_isPack_9 (fun c_9 => ?_) (fun c_9 => ?_)
    · refine ev_iconst (v := 0) i_mo_isPack_16 (by decide) ?_
      refine ev_ireturn i_mo_isPack_17 rfl rfl ?_
      exact ⟨_, rfl, by rw [e]; rfl, rfl⟩
    · rw [hn] at c_9
      exact absurd z (by rintro (q | q); exact c_1 q; exact c_9 q)
theorem r_mo_licence {y : Int64} {n : Nat} (H : MI G h0 h m ad sc A Wd) (hn : sc 2 = nI n) (hn2 : n ≤ 16) : Rn G M_mo_licence 0 0 0 [.ref m, .long y] h (ev_qi fun v h' => (n < 16 ∧ v = nI n ∧ MI G h0 h' m ad (va_up (va_up sc 0 0) 2 (nI (n + 1))) A (vp_updL Wd n y)) ∨ (¬ n < 16 ∧ v = -1 ∧ MI G h0 h' m ad (va_up sc 0 0) A Wd)) := by
  refine Rn_of (ls := [some (.ref m), some (.long y), none]) rfl rfl (Nat.le_of_ble_eq_true rfl) rfl ?_
  refine ev_aload_0 i_mo_licence_0 ?_
  refine ev_iconst (v := 0) i_mo_licence_1 (by decide) ?_
  refine ev_p0 i_mo_licence_2 pl_mo_licence_81 H (fun h H => ?_)
  refine ev_aload_0 i_mo_licence_5 ?_
  refine ev_get i_mo_licence_6 fl_mo_85 H.1 rfl ?_
  refine ev_bipush (v := 16) i_mo_licence_9 (by decide) ?_
  refine ev_icmp_ne i_mo_licence_11 (fun c_11 => ?_) (fun c_11 => ?_)
  · have hlt : n < 16 := by
      rcases Nat.lt_or_ge n 16 with z | z
      · exact z
      · exact absurd (show sc 2 = 16 from by rw [hn, show n = 16 by omega]; rfl) c_11
    refine ev_aload_0 i_mo_licence_16 ?_
    refine ev_get i_mo_licence_17 fl_mo_7 H.1 rfl ?_
    refine ev_aload_0 i_mo_licence_20 ?_
    refine ev_get i_mo_licence_21 fl_mo_85 H.1 rfl ?_
    refine ev_lload_1 i_mo_licence_24 ?_
    refine ev_lastore i_mo_licence_25 ty_long H.2.2.1 (j := n) hn (by omega) (by omega) ?_
    have H := MI_set4 (f := vp_updL Wd n y) H
    refine ev_aload_0 i_mo_licence_26 ?_
    refine ev_dup i_mo_licence_27 rfl ?_
    refine ev_get i_mo_licence_28 fl_mo_85 H.1 rfl ?_
    refine ev_iconst (v := 1) i_mo_licence_31 (by decide) ?_
    refine ev_iadd i_mo_licence_32 ?_
    refine ev_top (y := nI (n + 1)) (by rw [← nI_1, ← hn]; rfl) ?_
    refine ev_p2 i_mo_licence_33 pl_mo_licence_85 H (fun h H => ?_)
    refine ev_aload_0 i_mo_licence_36 ?_
    refine ev_get i_mo_licence_37 fl_mo_85 H.1 rfl ?_
    refine ev_iconst (v := 1) i_mo_licence_40 (by decide) ?_
    refine ev_isub i_mo_licence_41 ?_
    refine ev_ireturn i_mo_licence_42 rfl rfl ?_
    refine ⟨_, rfl, Or.inl ⟨hlt, ?_, H⟩⟩
    show nI (n + 1) - 1 = nI n
    exact nI_pred n
  · have hge : ¬ n < 16 := fun z => by
      have e : nI n = nI 16 := hn.symm.trans c_11
      rw [nI_eq (by omega) (by omega)] at e
      omega
    refine ev_iconst (v := (-1)) i_mo_licence_14 (by decide) ?_
    refine ev_ireturn i_mo_licence_15 rfl rfl ?_
    exact ⟨_, rfl, Or.inr ⟨hge, rfl, H⟩⟩
end MO1
