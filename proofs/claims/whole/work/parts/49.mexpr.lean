section MR7
variable {G : ev_G} {h h0 : ev_H} {m : Nat} {ad : Nat → Nat} {sc : Nat → Int32} {A : Nat → Nat → Int32} {Wd : Nat → Int64}
/-- the numbers behind a call of express -/
def sge (sc sc' : Nat → Int32) : Prop := sc' 9 = nI 0 ∧ sc' 1 = sc 1 ∧ sc' 2 = sc 2 ∧ sc' 3 = sc 3 ∧ sc' 28 = sc 28
/-- the arrays behind a call of express that took -/
def age (A A' : Nat → Nat → Int32) (p cn : Nat) (C : Nat → Nat) (R : List Int32) : Prop :=
  (∀ k, k < 10 → A' k = A k) ∧ (∀ k, 14 ≤ k → k < 18 → A' k = A k) ∧ (∀ k, 23 ≤ k → A' k = A k) ∧ A' 10 = upd (A 10) p (nI cn) ∧ A' 12 = upd (A 12) p (nI R.length) ∧ (∀ k, k < cn → A' 11 (30 * p + k) = nI (C k)) ∧ (∀ j, (j < 30 * p ∨ 30 * p + 30 ≤ j) → A' 11 j = A 11 j) ∧ (∀ k, k < R.length → A' 13 (20 * p + k) = gd R k) ∧ (∀ j, (j < 20 * p ∨ 20 * p + 20 ≤ j) → A' 13 j = A 13 j)
theorem r_mo_express {lic len np : Nat} {tc : Nat → Nat} {sx : RS} {i : Int32} (H : MI G h0 h m ad sc A Wd) (hl : sc 9 = nI len) (hl2 : len ≤ 60) (ht : mtx A len tc) (hlic : sc 2 = nI lic) (hlic2 : lic ≤ 16) (hn : sc 3 = nI np) (hn2 : np ≤ 16) :
    Rn G M_mo_express 3 0 0 [.ref m, .int i] h (ev_qi fun v h' => ∃ sc' A', MI G h0 h' m ad sc' A' Wd ∧ sge sc sc' ∧ (
      (ixv i np = none ∧ v = -200 ∧ ag0 A A') ∨
      (∃ p k, ixv i np = some p ∧ sRead lic tc len sx = .inl k ∧ k ≤ len ∧ v = -1 - nI k ∧ ag0 A A') ∨
      (∃ p s', ixv i np = some p ∧ sRead lic tc len sx = .inr s' ∧ ¬ s'.2.2.2.1 = 0 ∧ v = -100 ∧ ag0 A A') ∨
      (∃ p s' cn C R, ixv i np = some p ∧ sRead lic tc len sx = .inr s' ∧ s'.2.2.2.1 = 0 ∧ s'.2.2.2.2 2 = mp C cn R ∧ GR cn R ∧ cn ≤ 30 ∧ (∀ k, k < cn → C k < 144) ∧ cinj cn C ∧ v = nI R.length ∧ age A A' p cn C R))) := by
  refine Rn_of (ls := [some (.ref m), some (.int i), none, none]) rfl rfl (Nat.le_of_ble_eq_true rfl) rfl ?_
  refine ev_aload_0 i_mo_express_0 ?_
  refine ev_iconst (v := 0) i_mo_express_1 (by decide) ?_
  refine ev_p0 i_mo_express_2 pl_mo_express_81 H (fun h H => ?_)
  refine ev_aload_0 i_mo_express_5 ?_
  refine ev_vi0 i_mo_express_6 lk_mo_140 cb_mo_read iv_mo_read (r_mo_read (sx := sx) H hl hl2 ht hlic hlic2) H.1 rfl (by decide) (Nat.le_of_ble_eq_true rfl) rfl rfl (fun v h2 hq => ?_)
  obtain ⟨sc', A', H, k1, k2, k3⟩ := hq
  have e1 : sc' 1 = sc 1 := k1 1 (by decide) (by decide) (by decide) (by decide) (by decide) (by decide)
  have e2 : sc' 2 = sc 2 := k1 2 (by decide) (by decide) (by decide) (by decide) (by decide) (by decide)
  have e3 : sc' 3 = sc 3 := k1 3 (by decide) (by decide) (by decide) (by decide) (by decide) (by decide)
  have e28 : sc' 28 = sc 28 := k1 28 (by decide) (by decide) (by decide) (by decide) (by decide) (by decide)
  refine ev_istore_2 i_mo_express_9 rfl ?_
  refine ev_aload_0 i_mo_express_10 ?_
  refine ev_iconst (v := 0) i_mo_express_11 (by decide) ?_
  refine ev_p9 i_mo_express_12 pl_mo_express_98 H (fun h H => ?_)
  have hs : sge sc (va_up sc' 9 0) := ⟨rfl, e1, e2, e3, e28⟩
  refine ev_aload_0 i_mo_express_15 ?_
  refine ev_iload_1 i_mo_express_16 ?_
  refine ev_vi1 i_mo_express_17 lk_mo_143 cb_mo_isPack iv_mo_isPack (r_mo_isPack (y := i) (n := np) H (show sc' 3 = _ by rw [e3]; exact hn) (by omega)) H.1 rfl (by decide) (Nat.le_of_ble_eq_true rfl) rfl rfl (fun v2 h3 hq => ?_)
  obtain ⟨rfl, rfl⟩ := hq
  rcases ix_cases i (show np < 2 ^ 31 by omega) with ⟨p, hp, rfl, e⟩ | ⟨-, e⟩
  rotate_left
  · rw [isw_0 e]
    refine ev_if_ne i_mo_express_20 (fun c_20 => ?_) (fun c_20 => ?_)
    · exact absurd rfl c_20
    refine ev_sipush (v := (-200)) i_mo_express_23 (by decide) ?_
    refine ev_ireturn i_mo_express_26 rfl rfl ?_
    exact ⟨_, rfl, _, _, H, hs, Or.inl ⟨e, rfl, k2⟩⟩
  rw [isw_1 e]
  refine ev_if_ne i_mo_express_20 (fun c_20 => ?_) (fun c_20 => ?_)
  rotate_left
  · exact absurd c_20 (by decide)
  rcases k3 with ⟨k, q1, q2, rfl⟩ | ⟨rfl, s', cn, C, R, q1, q2, q3, q4, q5, q6, q7, q8, q9⟩
  · refine ev_iload_2 i_mo_express_27 ?_
    refine ev_iconst (v := (-1)) i_mo_express_28 (by decide) ?_
    refine ev_icmp_eq i_mo_express_29 (fun c_29 => ?_) (fun c_29 => ?_)
    · exact absurd c_29 (nI_nm1 (by omega))
    refine ev_iconst (v := (-1)) i_mo_express_32 (by decide) ?_
    refine ev_iload_2 i_mo_express_33 ?_
    refine ev_isub i_mo_express_34 ?_
    refine ev_ireturn i_mo_express_35 rfl rfl ?_
    exact ⟨_, rfl, _, _, H, hs, Or.inr (Or.inl ⟨p, k, e, q1, q2, rfl, k2⟩)⟩
  refine ev_iload_2 i_mo_express_27 ?_
  refine ev_iconst (v := (-1)) i_mo_express_28 (by decide) ?_
  refine ev_icmp_eq i_mo_express_29 (fun c_29 => ?_) (fun c_29 => ?_)
  rotate_left
  · exact absurd rfl c_29
  refine ev_aload_0 i_mo_express_36 ?_
  refine ev_get i_mo_express_37 fl_mo_107 H.1 rfl ?_
  refine ev_top (y := s'.2.2.2.1) q5 ?_
  refine ev_if_eq i_mo_express_40 (fun c_40 => ?_) (fun c_40 => ?_)
  rotate_left
  · refine ev_bipush (v := (-100)) i_mo_express_43 (by decide) ?_
    refine ev_ireturn i_mo_express_45 rfl rfl ?_
    exact ⟨_, rfl, _, _, H, hs, Or.inr (Or.inr (Or.inl ⟨p, s', e, q1, c_40, rfl, k2⟩))⟩
  have e30 : ∀ k : Nat, (30 : Int32) * nI p + nI k = nI (30 * p + k) := fun k => by rw [show (30 : Int32) = nI 30 from rfl, pk_mul, nI_add]
  have e20 : ∀ k : Nat, (20 : Int32) * nI p + nI k = nI (20 * p + k) := fun k => by rw [show (20 : Int32) = nI 20 from rfl, pk_mul, nI_add]
  have lR := q3.1
  generalize hQ : (ev_qi fun v h' => ∃ sc' A', MI G h0 h' m ad sc' A' Wd ∧ sge sc sc' ∧ (
      (ixv (nI p) np = none ∧ v = -200 ∧ ag0 A A') ∨
      (∃ p' k, ixv (nI p) np = some p' ∧ sRead lic tc len sx = .inl k ∧ k ≤ len ∧ v = -1 - nI k ∧ ag0 A A') ∨
      (∃ p' s', ixv (nI p) np = some p' ∧ sRead lic tc len sx = .inr s' ∧ ¬ s'.2.2.2.1 = 0 ∧ v = -100 ∧ ag0 A A') ∨
      (∃ p' s' cn C R, ixv (nI p) np = some p' ∧ sRead lic tc len sx = .inr s' ∧ s'.2.2.2.1 = 0 ∧ s'.2.2.2.2 2 = mp C cn R ∧ GR cn R ∧ cn ≤ 30 ∧ (∀ k, k < cn → C k < 144) ∧ cinj cn C ∧ v = nI R.length ∧ age A A' p' cn C R))) = Q
  have fin : ∀ (h' : ev_H) (A2 : Nat → Nat → Int32), MI G h0 h' m ad (va_up sc' 9 0) A2 Wd → age A A2 p cn C R → Q (some (.int (nI R.length))) h' := by
    intro h' A2 H' hA
    rw [← hQ]
    exact ⟨_, rfl, _, _, H', hs, Or.inr (Or.inr (Or.inr ⟨p, s', cn, C, R, e, q1, c_40, q2, q3, q7, fun k hk => (q8 k hk).2, q9, rfl, hA⟩))⟩
  clear hQ
  have ea : ∀ k, k < 18 ∨ 23 ≤ k → A' k = A k := fun k hk => k2 k (by omega) (by omega) (by omega) (by omega) (by omega)
  refine ev_aload_0 i_mo_express_46 ?_
  refine ev_get i_mo_express_47 fl_mo_27 H.1 rfl ?_
  refine ev_iload_1 i_mo_express_50 ?_
  refine ev_aload_0 i_mo_express_51 ?_
  refine ev_get i_mo_express_52 fl_mo_101 H.1 rfl ?_
  refine ev_top (y := nI cn) q6 ?_
  refine ev_is (L := 16) i_mo_express_55 H rfl rfl (j := p) rfl (by omega) (by omega) (fun h H => ?_)
  refine ev_iconst (v := 0) i_mo_express_56 (by decide) ?_
  refine ev_istore_3 i_mo_express_57 rfl ?_
  have loop2 : ∀ (q k : Nat) (h' : ev_H) (A2 : Nat → Nat → Int32), k + q = R.length → MI G h0 h' m ad (va_up sc' 9 0) A2 Wd → rowAt A2 0 R → (∀ k, k < 10 → A2 k = A k) → (∀ k, 14 ≤ k → k < 18 → A2 k = A k) → (∀ k, 23 ≤ k → A2 k = A k) → A2 10 = upd (A 10) p (nI cn) → A2 12 = upd (A 12) p (nI R.length) → (∀ k, k < cn → A2 11 (30 * p + k) = nI (C k)) → (∀ j, (j < 30 * p ∨ 30 * p + 30 ≤ j) → A2 11 j = A 11 j) → (∀ t, t < k → A2 13 (20 * p + t) = gd R t) → (∀ j, (j < 20 * p ∨ 20 * p + 20 ≤ j) → A2 13 j = A 13 j) → Ev G M_mo_express 3 0 0 Q 103 [some (.ref m), some (.int (nI p)), some (.int (-1)), some (.int (nI k))] [] h' := by
    intro q
    induction q with
    | zero =>
      intro k h' A2 hk H d0 d1 d2 d3 d4 d5 d6 d7 d8 d9
      obtain rfl : k = R.length := by omega
      refine ev_iload_3 i_mo_express_103 ?_
      refine ev_aload_0 i_mo_express_104 ?_
      refine ev_get i_mo_express_105 fl_mo_57 H.1 rfl ?_
      refine ev_iconst (v := 0) i_mo_express_108 (by decide) ?_
      refine ev_ia (L := 40) i_mo_express_109 H rfl rfl (j := 0) rfl (by omega) (by omega) ?_
      refine ev_top (y := nI R.length) d0.1 ?_
      refine ev_icmp_ge i_mo_express_110 (fun c_110 => ?_) (fun c_110 => ?_)
      rotate_left
      · exact absurd (nI_le (Nat.le_refl _) (by omega)) c_110
      refine ev_aload_0 i_mo_express_136 ?_
      refine ev_get i_mo_express_137 fl_mo_33 H.1 rfl ?_
      refine ev_iload_1 i_mo_express_140 ?_
      refine ev_ia (L := 16) i_mo_express_141 H rfl rfl (j := p) rfl (by omega) (by omega) ?_
      refine ev_top (y := nI R.length) (show A2 12 p = _ by rw [d5]; exact pk_us) ?_
      refine ev_ireturn i_mo_express_142 rfl rfl ?_
      exact fin h' A2 H ⟨d1, d2, d3, d4, d5, d6, d7, d8, d9⟩
    | succ q ih =>
      intro k h' A2 hk H d0 d1 d2 d3 d4 d5 d6 d7 d8 d9
      refine ev_iload_3 i_mo_express_103 ?_
      refine ev_aload_0 i_mo_express_104 ?_
      refine ev_get i_mo_express_105 fl_mo_57 H.1 rfl ?_
      refine ev_iconst (v := 0) i_mo_express_108 (by decide) ?_
      refine ev_ia (L := 40) i_mo_express_109 H rfl rfl (j := 0) rfl (by omega) (by omega) ?_
      refine ev_top (y := nI R.length) d0.1 ?_
      refine ev_icmp_ge i_mo_express_110 (fun c_110 => ?_) (fun c_110 => ?_)
      · exact absurd c_110 (nI_ge (by omega) (by omega))
      refine ev_aload_0 i_mo_express_113 ?_
      refine ev_get i_mo_express_114 fl_mo_36 H.1 rfl ?_
      refine ev_bipush (v := 20) i_mo_express_117 (by decide) ?_
      refine ev_iload_1 i_mo_express_119 ?_
      refine ev_imul i_mo_express_120 ?_
      refine ev_iload_3 i_mo_express_121 ?_
      refine ev_iadd i_mo_express_122 ?_
      refine ev_aload_0 i_mo_express_123 ?_
      refine ev_get i_mo_express_124 fl_mo_54 H.1 rfl ?_
      refine ev_iload_3 i_mo_express_127 ?_
      refine ev_ia (L := 800) i_mo_express_128 H rfl rfl (j := k) rfl (by omega) (by omega) ?_
      refine ev_top (y := gd R k) (by have := d0.2.2 k (by omega); rw [Nat.mul_zero, Nat.zero_add] at this; exact this) ?_
      refine ev_is (L := 320) i_mo_express_129 H rfl rfl (j := 20 * p + k) (e20 k) (by omega) (by omega) (fun h H => ?_)
      refine ev_iinc_3 i_mo_express_130 (nI_1 k) rfl ?_
      refine ev_goto i_mo_express_133 ?_
      refine ih (k + 1) _ _ (by omega) H d0 (fun k hk => ?_) (fun k hk hk2 => ?_) (fun k hk => ?_) d4 d5 d6 d7 (fun t ht => ?_) (fun j hj => ?_)
      · rw [va_up_ne _ _ (by omega)]; exact d1 k hk
      · rw [va_up_ne _ _ (by omega)]; exact d2 k hk hk2
      · rw [va_up_ne _ _ (by omega)]; exact d3 k hk
      · show upd (A2 13) (20 * p + k) (gd R k) (20 * p + t) = _
        by_cases et : t = k
        · subst et; rw [pk_us]
        · rw [upd_ne (by omega)]; exact d8 t (by omega)
      · show upd (A2 13) (20 * p + k) (gd R k) j = _
        rw [upd_ne (by omega)]; exact d9 j hj
  have loop : ∀ (q k : Nat) (h' : ev_H) (A2 : Nat → Nat → Int32), k + q = cn → MI G h0 h' m ad (va_up sc' 9 0) A2 Wd → rowAt A2 0 R → mcd A2 cn C → (∀ k, k < 10 → A2 k = A k) → (∀ k, 12 ≤ k → k < 18 → A2 k = A k) → (∀ k, 23 ≤ k → A2 k = A k) → A2 10 = upd (A 10) p (nI cn) → (∀ t, t < k → A2 11 (30 * p + t) = nI (C t)) → (∀ j, (j < 30 * p ∨ 30 * p + 30 ≤ j) → A2 11 j = A 11 j) → Ev G M_mo_express 3 0 0 Q 58 [some (.ref m), some (.int (nI p)), some (.int (-1)), some (.int (nI k))] [] h' := by
    intro q
    induction q with
    | zero =>
      intro k h' A2 hk H d0 d1 d2 d3 d4 d5 d6 d7
      have ek : k = cn := by omega
      rw [ek] at d6 ⊢
      refine ev_iload_3 i_mo_express_58 ?_
      refine ev_aload_0 i_mo_express_59 ?_
      refine ev_get i_mo_express_60 fl_mo_101 H.1 rfl ?_
      refine ev_top (y := nI cn) q6 ?_
      refine ev_icmp_ge i_mo_express_63 (fun c_63 => ?_) (fun c_63 => ?_)
      rotate_left
      · exact absurd (nI_le (Nat.le_refl _) (by omega)) c_63
      refine ev_aload_0 i_mo_express_89 ?_
      refine ev_get i_mo_express_90 fl_mo_33 H.1 rfl ?_
      refine ev_iload_1 i_mo_express_93 ?_
      refine ev_aload_0 i_mo_express_94 ?_
      refine ev_get i_mo_express_95 fl_mo_57 H.1 rfl ?_
      refine ev_iconst (v := 0) i_mo_express_98 (by decide) ?_
      refine ev_ia (L := 40) i_mo_express_99 H rfl rfl (j := 0) rfl (by omega) (by omega) ?_
      refine ev_top (y := nI R.length) d0.1 ?_
      refine ev_is (L := 16) i_mo_express_100 H rfl rfl (j := p) rfl (by omega) (by omega) (fun h H => ?_)
      refine ev_iconst (v := 0) i_mo_express_101 (by decide) ?_
      refine ev_istore_3 i_mo_express_102 rfl ?_
      refine loop2 R.length 0 _ _ (by omega) H d0 (fun k hk => ?_) (fun k hk hk2 => ?_) (fun k hk => ?_) d5 ?_ d6 d7 (fun t ht => by omega) (fun j hj => ?_)
      · rw [va_up_ne _ _ (by omega)]; exact d2 k hk
      · rw [va_up_ne _ _ (by omega)]; exact d3 k (by omega) hk2
      · rw [va_up_ne _ _ (by omega)]; exact d4 k hk
      · show upd (A2 12) p (nI R.length) = _
        rw [d3 12 (by omega) (by omega)]
      · show A2 13 j = _
        rw [d3 13 (by omega) (by omega)]
    | succ q ih =>
      intro k h' A2 hk H d0 d1 d2 d3 d4 d5 d6 d7
      refine ev_iload_3 i_mo_express_58 ?_
      refine ev_aload_0 i_mo_express_59 ?_
      refine ev_get i_mo_express_60 fl_mo_101 H.1 rfl ?_
      refine ev_top (y := nI cn) q6 ?_
      refine ev_icmp_ge i_mo_express_63 (fun c_63 => ?_) (fun c_63 => ?_)
      · exact absurd c_63 (nI_ge (by omega) (by omega))
      refine ev_aload_0 i_mo_express_66 ?_
      refine ev_get i_mo_express_67 fl_mo_30 H.1 rfl ?_
      refine ev_bipush (v := 30) i_mo_express_70 (by decide) ?_
      refine ev_iload_1 i_mo_express_72 ?_
      refine ev_imul i_mo_express_73 ?_
      refine ev_iload_3 i_mo_express_74 ?_
      refine ev_iadd i_mo_express_75 ?_
      refine ev_aload_0 i_mo_express_76 ?_
      refine ev_get i_mo_express_77 fl_mo_51 H.1 rfl ?_
      refine ev_iload_3 i_mo_express_80 ?_
      refine ev_ia (L := 30) i_mo_express_81 H rfl rfl (j := k) rfl (by omega) (by omega) ?_
      refine ev_top (y := nI (C k)) (d1 k (by omega)).1 ?_
      refine ev_is (L := 480) i_mo_express_82 H rfl rfl (j := 30 * p + k) (e30 k) (by omega) (by omega) (fun h H => ?_)
      refine ev_iinc_3 i_mo_express_83 (nI_1 k) rfl ?_
      refine ev_goto i_mo_express_86 ?_
      refine ih (k + 1) _ _ (by omega) H d0 d1 (fun k hk => ?_) (fun k hk hk2 => ?_) (fun k hk => ?_) d5 (fun t ht => ?_) (fun j hj => ?_)
      · rw [va_up_ne _ _ (by omega)]; exact d2 k hk
      · rw [va_up_ne _ _ (by omega)]; exact d3 k hk hk2
      · rw [va_up_ne _ _ (by omega)]; exact d4 k hk
      · show upd (A2 11) (30 * p + k) (nI (C k)) (30 * p + t) = _
        by_cases et : t = k
        · subst et; rw [pk_us]
        · rw [upd_ne (by omega)]; exact d6 t (by omega)
      · show upd (A2 11) (30 * p + k) (nI (C k)) j = _
        rw [upd_ne (by omega)]; exact d7 j hj
  refine loop cn 0 _ _ (by omega) H q4 q8 (fun k hk => ?_) (fun k hk hk2 => ?_) (fun k hk => ?_) ?_ (fun t ht => by omega) (fun j hj => ?_)
  · rw [va_up_ne _ _ (by omega)]; exact ea k (by omega)
  · rw [va_up_ne _ _ (by omega)]; exact ea k (by omega)
  · rw [va_up_ne _ _ (by omega)]; exact ea k (by omega)
  · show upd (A' 10) p (nI cn) = _
    rw [ea 10 (by omega)]
  · show A' 11 j = _
    rw [ea 11 (by omega)]
end MR7
