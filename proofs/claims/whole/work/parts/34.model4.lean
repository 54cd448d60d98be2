section MO4
variable {G : ev_G} {h h0 : ev_H} {m : Nat} {ad : Nat → Nat} {sc : Nat → Int32} {A : Nat → Nat → Int32} {Wd : Nat → Int64}
/-- the packages' numbers in the reference are in their ranges -/
def MP (A : Nat → Nat → Int32) (pm cm : Nat → Nat) (pcd : Nat → Nat → Nat) : Prop := ∀ p, p < 16 → (A 10 p = nI (pm p) ∧ pm p ≤ 30) ∧ (A 12 p = nI (cm p) ∧ cm p ≤ 20) ∧ ∀ k, k < pm p → A 11 (30 * p + k) = nI (pcd p k) ∧ pcd p k < 144
variable {pm cm : Nat → Nat} {pcd : Nat → Nat → Nat}
theorem r_mo_best {i y : Int32} {np : Nat} (H : MI G h0 h m ad sc A Wd) (hn : sc 3 = nI np) (hn2 : np ≤ 16) (hP : MP A pm cm pcd) : Rn G M_mo_best 3 0 0 [.ref m, .int i, .int y] h (ev_qi fun v h' => MI G h0 h' m ad (va_up sc 0 0) A Wd ∧ ((∃ p k, ixv i np = some p ∧ ixv y 3 = some k ∧ v = (mbest A p k (pm p) (cm p)).1) ∨ ((ixv i np = none ∨ ixv y 3 = none) ∧ v = -1))) := by
  refine Rn_of (ls := [some (.ref m), some (.int i), some (.int y)]) rfl rfl (Nat.le_of_ble_eq_true rfl) rfl ?_
  refine ev_aload_0 i_mo_best_0 ?_
  refine ev_iconst (v := 0) i_mo_best_1 (by decide) ?_
  refine ev_p0 i_mo_best_2 pl_mo_best_81 H (fun h H => ?_)
  refine ev_aload_0 i_mo_best_5 ?_
  refine ev_iload_1 i_mo_best_6 ?_
  refine ev_vi1 i_mo_best_7 lk_mo_143 cb_mo_isPack iv_mo_isPack (r_mo_isPack (y := i) (n := np) H hn (by omega)) H.1 rfl (by decide) (Nat.le_of_ble_eq_true rfl) rfl rfl (fun v h' hq => ?_)
  obtain ⟨rfl, rfl⟩ := hq
  rcases ix_cases i (show np < 2 ^ 31 by omega) with ⟨p, hp, rfl, e⟩ | ⟨-, e⟩
  rotate_left
  · rw [isw_0 e]
    refine ev_if_eq i_mo_best_10 (fun c_10 => ?_) (fun c_10 => ?_)
    · refine ev_iconst (v := (-1)) i_mo_best_29 (by decide) ?_
      refine ev_ireturn i_mo_best_30 rfl rfl ?_
      exact ⟨_, rfl, H, Or.inr ⟨Or.inl e, rfl⟩⟩
    · exact absurd rfl c_10
  rw [isw_1 e]
  refine ev_if_eq i_mo_best_10 (fun c_10 => ?_) (fun c_10 => ?_)
  · exact absurd c_10 (by decide)
  refine ev_iload_2 i_mo_best_13 ?_
  refine ev_ti1 i_mo_best_14 lk_mo_95 cb_mo_isWay sv_mo_isWay (r_mo_isWay (y := y)) (by decide) (Nat.le_of_ble_eq_true rfl) rfl rfl (fun v h'' hq => ?_)
  obtain ⟨rfl, rfl⟩ := hq
  rcases ix_cases y (show 3 < 2 ^ 31 by omega) with ⟨k, hk, rfl, ek⟩ | ⟨-, ek⟩
  rotate_left
  · rw [isw_0 ek]
    refine ev_if_eq i_mo_best_17 (fun c_17 => ?_) (fun c_17 => ?_)
    · refine ev_iconst (v := (-1)) i_mo_best_29 (by decide) ?_
      refine ev_ireturn i_mo_best_30 rfl rfl ?_
      exact ⟨_, rfl, H, Or.inr ⟨Or.inr ek, rfl⟩⟩
    · exact absurd rfl c_17
  rw [isw_1 ek]
  refine ev_if_eq i_mo_best_17 (fun c_17 => ?_) (fun c_17 => ?_)
  · exact absurd c_17 (by decide)
  obtain ⟨⟨g1, g2⟩, ⟨g3, g4⟩, g5⟩ := hP p (by omega)
  refine ev_aload_0 i_mo_best_20 ?_
  refine ev_iload_1 i_mo_best_21 ?_
  refine ev_iload_2 i_mo_best_22 ?_
  refine ev_vi2 i_mo_best_23 lk_mo_157 cb_mo_bestOf iv_mo_bestOf (r_mo_bestOf H (show p < 16 by omega) hk g1 g2 g3 g4 g5) H.1 rfl (by decide) (Nat.le_of_ble_eq_true rfl) rfl rfl (fun v h3 hq => ?_)
  obtain ⟨rfl, rfl⟩ := hq
  refine ev_goto i_mo_best_26 ?_
  refine ev_ireturn i_mo_best_30 rfl rfl ?_
  exact ⟨_, rfl, H, Or.inl ⟨p, k, e, ek, rfl⟩⟩
theorem r_mo_duties {i y : Int32} {np : Nat} (H : MI G h0 h m ad sc A Wd) (hn : sc 3 = nI np) (hn2 : np ≤ 16) (hP : MP A pm cm pcd) : Rn G M_mo_duties 4 0 0 [.ref m, .int i, .int y] h (ev_qi fun v h' => MI G h0 h' m ad (va_up sc 0 0) A Wd ∧ ((∃ p k, ixv i np = some p ∧ ixv y 3 = some k ∧ v = mbd A p k (pm p) (cm p)) ∨ ((ixv i np = none ∨ ixv y 3 = none) ∧ v = 0))) := by
  refine Rn_of (ls := [some (.ref m), some (.int i), some (.int y)]) rfl rfl (Nat.le_of_ble_eq_true rfl) rfl ?_
  refine ev_aload_0 i_mo_duties_0 ?_
  refine ev_iconst (v := 0) i_mo_duties_1 (by decide) ?_
  refine ev_p0 i_mo_duties_2 pl_mo_duties_81 H (fun h H => ?_)
  refine ev_aload_0 i_mo_duties_5 ?_
  refine ev_iload_1 i_mo_duties_6 ?_
  refine ev_vi1 i_mo_duties_7 lk_mo_143 cb_mo_isPack iv_mo_isPack (r_mo_isPack (y := i) (n := np) H hn (by omega)) H.1 rfl (by decide) (Nat.le_of_ble_eq_true rfl) rfl rfl (fun v h' hq => ?_)
  obtain ⟨rfl, rfl⟩ := hq
  rcases ix_cases i (show np < 2 ^ 31 by omega) with ⟨p, hp, rfl, e⟩ | ⟨-, e⟩
  rotate_left
  · rw [isw_0 e]
    refine ev_if_eq i_mo_duties_10 (fun c_10 => ?_) (fun c_10 => ?_)
    · refine ev_iconst (v := 0) i_mo_duties_29 (by decide) ?_
      refine ev_ireturn i_mo_duties_30 rfl rfl ?_
      exact ⟨_, rfl, H, Or.inr ⟨Or.inl e, rfl⟩⟩
    · exact absurd rfl c_10
  rw [isw_1 e]
  refine ev_if_eq i_mo_duties_10 (fun c_10 => ?_) (fun c_10 => ?_)
  · exact absurd c_10 (by decide)
  refine ev_iload_2 i_mo_duties_13 ?_
  refine ev_ti1 i_mo_duties_14 lk_mo_95 cb_mo_isWay sv_mo_isWay (r_mo_isWay (y := y)) (by decide) (Nat.le_of_ble_eq_true rfl) rfl rfl (fun v h'' hq => ?_)
  obtain ⟨rfl, rfl⟩ := hq
  rcases ix_cases y (show 3 < 2 ^ 31 by omega) with ⟨k, hk, rfl, ek⟩ | ⟨-, ek⟩
  rotate_left
  · rw [isw_0 ek]
    refine ev_if_eq i_mo_duties_17 (fun c_17 => ?_) (fun c_17 => ?_)
    · refine ev_iconst (v := 0) i_mo_duties_29 (by decide) ?_
      refine ev_ireturn i_mo_duties_30 rfl rfl ?_
      exact ⟨_, rfl, H, Or.inr ⟨Or.inr ek, rfl⟩⟩
    · exact absurd rfl c_17
  rw [isw_1 ek]
  refine ev_if_eq i_mo_duties_17 (fun c_17 => ?_) (fun c_17 => ?_)
  · exact absurd c_17 (by decide)
  obtain ⟨⟨g1, g2⟩, ⟨g3, g4⟩, g5⟩ := hP p (by omega)
  refine ev_aload_0 i_mo_duties_20 ?_
  refine ev_iload_1 i_mo_duties_21 ?_
  refine ev_iload_2 i_mo_duties_22 ?_
  refine ev_vi2 i_mo_duties_23 lk_mo_161 cb_mo_bestDuties iv_mo_bestDuties (r_mo_bestDuties H (show p < 16 by omega) hk g1 g2 g3 g4 g5) H.1 rfl (by decide) (Nat.le_of_ble_eq_true rfl) rfl rfl (fun v h3 hq => ?_)
  obtain ⟨rfl, rfl⟩ := hq
  refine ev_goto i_mo_duties_26 ?_
  refine ev_ireturn i_mo_duties_30 rfl rfl ?_
  exact ⟨_, rfl, H, Or.inl ⟨p, k, e, ek, rfl⟩⟩
/-- has the package that use? -/
def mhas (A : Nat → Nat → Int32) (p n : Nat) (a b : Int32) : Bool := (List.range n).any (fun i => decide (A 15 (6 * p + i) = a) && decide (A 16 (6 * p + i) = b))
theorem any_s {f : Nat → Bool} {n : Nat} : (List.range (n + 1)).any f = ((List.range n).any f || f n) := by rw [List.range_succ, List.any_append]; simp
theorem any_at {f : Nat → Bool} {n i : Nat} (hi : i < n) (h : f i = true) : (List.range n).any f = true := List.any_eq_true.mpr ⟨i, List.mem_range.mpr hi, h⟩
def muse (A : Nat → Nat → Int32) (p n : Nat) (a b : Int32) : Nat → Nat → Int32 := va_up (va_up (va_up A 15 (upd (A 15) (6 * p + n) a)) 16 (upd (A 16) (6 * p + n) b)) 14 (upd (A 14) p (nI (n + 1)))
theorem r_mo_uses {i j y : Int32} {np : Nat} {um : Nat → Nat} (H : MI G h0 h m ad sc A Wd) (hn : sc 3 = nI np) (hn2 : np ≤ 16) (hU : ∀ p, p < 16 → A 14 p = nI (um p) ∧ um p ≤ 6) : Rn G M_mo_uses 1 0 0 [.ref m, .int i, .int j, .int y] h (ev_qi fun v h' => (∃ p p' k, ixv i np = some p ∧ ixv j np = some p' ∧ ixv y 3 = some k ∧ um p < 6 ∧ mhas A p (um p) j y = false ∧ v = 1 ∧ MI G h0 h' m ad (va_up sc 0 0) (muse A p (um p) j y) Wd) ∨ ((ixv i np = none ∨ ixv j np = none ∨ ixv y 3 = none ∨ ∃ p, ixv i np = some p ∧ (6 ≤ um p ∨ mhas A p (um p) j y = true)) ∧ v = 0 ∧ MI G h0 h' m ad (va_up sc 0 0) A Wd)) := by
  refine Rn_of (ls := [some (.ref m), some (.int i), some (.int j), some (.int y), none]) rfl rfl (Nat.le_of_ble_eq_true rfl) rfl ?_
  refine ev_aload_0 i_mo_uses_0 ?_
  refine ev_iconst (v := 0) i_mo_uses_1 (by decide) ?_
  refine ev_p0 i_mo_uses_2 pl_mo_uses_81 H (fun h H => ?_)
  refine ev_aload_0 i_mo_uses_5 ?_
  refine ev_iload_1 i_mo_uses_6 ?_
  refine ev_vi1 i_mo_uses_7 lk_mo_143 cb_mo_isPack iv_mo_isPack (r_mo_isPack (y := i) (n := np) H hn (by omega)) H.1 rfl (by decide) (Nat.le_of_ble_eq_true rfl) rfl rfl (fun v h' hq => ?_)
  obtain ⟨rfl, rfl⟩ := hq
  rcases ix_cases i (show np < 2 ^ 31 by omega) with ⟨p, hp, rfl, e⟩ | ⟨-, e⟩
  rotate_left
  · rw [isw_0 e]
    refine ev_if_eq i_mo_uses_10 (fun c_10 => ?_) (fun c_10 => ?_)
    · refine ev_iconst (v := 0) i_mo_uses_39 (by decide) ?_
      refine ev_ireturn i_mo_uses_40 rfl rfl ?_
      exact ⟨_, rfl, Or.inr ⟨Or.inl e, rfl, H⟩⟩
    · exact absurd rfl c_10
  rw [isw_1 e]
  refine ev_if_eq i_mo_uses_10 (fun c_10 => ?_) (fun c_10 => ?_)
  · exact absurd c_10 (by decide)
  refine ev_aload_0 i_mo_uses_13 ?_
  refine ev_iload_2 i_mo_uses_14 ?_
  refine ev_vi1 i_mo_uses_15 lk_mo_143 cb_mo_isPack iv_mo_isPack (r_mo_isPack (y := j) (n := np) H hn (by omega)) H.1 rfl (by decide) (Nat.le_of_ble_eq_true rfl) rfl rfl (fun v h'' hq => ?_)
  obtain ⟨rfl, rfl⟩ := hq
  rcases ix_cases j (show np < 2 ^ 31 by omega) with ⟨p', hp', rfl, e'⟩ | ⟨-, e'⟩
  rotate_left
  · rw [isw_0 e']
    refine ev_if_eq i_mo_uses_18 (fun c_18 => ?_) (fun c_18 => ?_)
    · refine ev_iconst (v := 0) i_mo_uses_39 (by decide) ?_
      refine ev_ireturn i_mo_uses_40 rfl rfl ?_
      exact ⟨_, rfl, Or.inr ⟨Or.inr (Or.inl e'), rfl, H⟩⟩
    · exact absurd rfl c_18
  rw [isw_1 e']
  refine ev_if_eq i_mo_uses_18 (fun c_18 => ?_) (fun c_18 => ?_)
  · exact absurd c_18 (by decide)
  refine ev_iload_3 i_mo_uses_21 ?_
  refine ev_ti1 i_mo_uses_22 lk_mo_95 cb_mo_isWay sv_mo_isWay (r_mo_isWay (y := y)) (by decide) (Nat.le_of_ble_eq_true rfl) rfl rfl (fun v h3 hq => ?_)
  obtain ⟨rfl, rfl⟩ := hq
  rcases ix_cases y (show 3 < 2 ^ 31 by omega) with ⟨k, hk, rfl, ek⟩ | ⟨-, ek⟩
  rotate_left
  · rw [isw_0 ek]
    refine ev_if_eq i_mo_uses_25 (fun c_25 => ?_) (fun c_25 => ?_)
    · refine ev_iconst (v := 0) i_mo_uses_39 (by decide) ?_
      refine ev_ireturn i_mo_uses_40 rfl rfl ?_
      exact ⟨_, rfl, Or.inr ⟨Or.inr (Or.inr (Or.inl ek)), rfl, H⟩⟩
    · exact absurd rfl c_25
  rw [isw_1 ek]
  refine ev_if_eq i_mo_uses_25 (fun c_25 => ?_) (fun c_25 => ?_)
  · exact absurd c_25 (by decide)
  obtain ⟨eu, hu⟩ := hU p (by omega)
  refine ev_aload_0 i_mo_uses_28 ?_
  refine ev_get i_mo_uses_29 fl_mo_39 H.1 rfl ?_
  refine ev_iload_1 i_mo_uses_32 ?_
  refine ev_ia (L := 16) i_mo_uses_33 H rfl rfl (j := p) rfl (by omega) (by omega) ?_
  rw [eu]
  refine ev_bipush (v := 6) i_mo_uses_34 (by decide) ?_
  refine ev_icmp_ne i_mo_uses_36 (fun c_36 => ?_) (fun c_36 => ?_)
  rotate_left
  · refine ev_iconst (v := 0) i_mo_uses_39 (by decide) ?_
    refine ev_ireturn i_mo_uses_40 rfl rfl ?_
    have e6 : nI (um p) = nI 6 := c_36
    rw [nI_eq (by omega) (by omega)] at e6
    exact ⟨_, rfl, Or.inr ⟨Or.inr (Or.inr (Or.inr ⟨p, e, Or.inl (by omega)⟩)), rfl, H⟩⟩
  have h6 : um p < 6 := by
    rcases Nat.lt_or_ge (um p) 6 with z | z
    · exact z
    · exact absurd (show nI (um p) = 6 from by rw [show um p = 6 by omega]; rfl) c_36
  have e66 : ∀ k : Nat, (6 : Int32) * nI p + nI k = nI (6 * p + k) := fun k => by rw [show (6 : Int32) = nI 6 from rfl, pk_mul, nI_add]
  refine ev_iconst (v := 0) i_mo_uses_41 (by decide) ?_
  refine ev_istore_4 i_mo_uses_42 rfl ?_
  have loop : ∀ q k' : Nat, k' + q = um p → mhas A p k' (nI p') (nI k) = false → Ev G M_mo_uses 1 0 0 (ev_qi fun v h' => (∃ q1 q2 q3, ixv (nI p) np = some q1 ∧ ixv (nI p') np = some q2 ∧ ixv (nI k) 3 = some q3 ∧ um q1 < 6 ∧ mhas A q1 (um q1) (nI p') (nI k) = false ∧ v = 1 ∧ MI G h0 h' m ad (va_up sc 0 0) (muse A q1 (um q1) (nI p') (nI k)) Wd) ∨ ((ixv (nI p) np = none ∨ ixv (nI p') np = none ∨ ixv (nI k) 3 = none ∨ ∃ q1, ixv (nI p) np = some q1 ∧ (6 ≤ um q1 ∨ mhas A q1 (um q1) (nI p') (nI k) = true)) ∧ v = 0 ∧ MI G h0 h' m ad (va_up sc 0 0) A Wd)) 44 [some (.ref m), some (.int (nI p)), some (.int (nI p')), some (.int (nI k)), some (.int (nI k'))] [] h3 := by
    intro q
    induction q with
    | zero =>
      intro k' hk' hno
      obtain rfl : k' = um p := by omega
      refine ev_iload_4 i_mo_uses_44 ?_
      refine ev_aload_0 i_mo_uses_46 ?_
      refine ev_get i_mo_uses_47 fl_mo_39 H.1 rfl ?_
      refine ev_iload_1 i_mo_uses_50 ?_
      refine ev_ia (L := 16) i_mo_uses_51 H rfl rfl (j := p) rfl (by omega) (by omega) ?_
      rw [eu]
      refine ev_icmp_ge i_mo_uses_52 (fun c_52 => ?_) (fun c_52 => ?_)
      rotate_left
      · exact absurd (nI_le (Nat.le_refl _) (by omega)) c_52
      refine ev_aload_0 i_mo_uses_95 ?_
      refine ev_get i_mo_uses_96 fl_mo_42 H.1 rfl ?_
      refine ev_bipush (v := 6) i_mo_uses_99 (by decide) ?_
      refine ev_iload_1 i_mo_uses_101 ?_
      refine ev_imul i_mo_uses_102 ?_
      refine ev_aload_0 i_mo_uses_103 ?_
      refine ev_get i_mo_uses_104 fl_mo_39 H.1 rfl ?_
      refine ev_iload_1 i_mo_uses_107 ?_
      refine ev_ia (L := 16) i_mo_uses_108 H rfl rfl (j := p) rfl (by omega) (by omega) ?_
      rw [eu]
      refine ev_iadd i_mo_uses_109 ?_
      refine ev_iload_2 i_mo_uses_110 ?_
      refine ev_is (L := 96) i_mo_uses_111 H rfl rfl (j := 6 * p + um p) (e66 _) (by omega) (by omega) (fun h H => ?_)
      refine ev_aload_0 i_mo_uses_112 ?_
      refine ev_get i_mo_uses_113 fl_mo_45 H.1 rfl ?_
      refine ev_bipush (v := 6) i_mo_uses_116 (by decide) ?_
      refine ev_iload_1 i_mo_uses_118 ?_
      refine ev_imul i_mo_uses_119 ?_
      refine ev_aload_0 i_mo_uses_120 ?_
      refine ev_get i_mo_uses_121 fl_mo_39 H.1 rfl ?_
      refine ev_iload_1 i_mo_uses_124 ?_
      refine ev_ia (L := 16) i_mo_uses_125 H rfl rfl (j := p) rfl (by omega) (by omega) ?_
      refine ev_top (y := nI (um p)) (by show A 14 p = _; exact eu) ?_
      refine ev_iadd i_mo_uses_126 ?_
      refine ev_iload_3 i_mo_uses_127 ?_
      refine ev_is (L := 96) i_mo_uses_128 H rfl rfl (j := 6 * p + um p) (e66 _) (by omega) (by omega) (fun h H => ?_)
      refine ev_aload_0 i_mo_uses_129 ?_
      refine ev_get i_mo_uses_130 fl_mo_39 H.1 rfl ?_
      refine ev_iload_1 i_mo_uses_133 ?_
      refine ev_dup2 i_mo_uses_134 rfl rfl ?_
      refine ev_ia (L := 16) i_mo_uses_135 H rfl rfl (j := p) rfl (by omega) (by omega) ?_
      refine ev_iconst (v := 1) i_mo_uses_136 (by decide) ?_
      refine ev_iadd i_mo_uses_137 ?_
      refine ev_top (y := nI (um p + 1)) (by show A 14 p + 1 = _; rw [eu]; exact nI_1 _) ?_
      refine ev_is (L := 16) i_mo_uses_138 H rfl rfl (j := p) rfl (by omega) (by omega) (fun h H => ?_)
      refine ev_iconst (v := 1) i_mo_uses_139 (by decide) ?_
      refine ev_ireturn i_mo_uses_140 rfl rfl ?_
      exact ⟨_, rfl, Or.inl ⟨p, p', k, e, e', ek, h6, hno, rfl, H⟩⟩
    | succ q ih =>
      intro k' hk' hno
      have es : mhas A p (k' + 1) (nI p') (nI k) = (mhas A p k' (nI p') (nI k) || (decide (A 15 (6 * p + k') = nI p') && decide (A 16 (6 * p + k') = nI k))) := any_s
      rw [hno, Bool.false_or] at es
      refine ev_iload_4 i_mo_uses_44 ?_
      refine ev_aload_0 i_mo_uses_46 ?_
      refine ev_get i_mo_uses_47 fl_mo_39 H.1 rfl ?_
      refine ev_iload_1 i_mo_uses_50 ?_
      refine ev_ia (L := 16) i_mo_uses_51 H rfl rfl (j := p) rfl (by omega) (by omega) ?_
      rw [eu]
      refine ev_icmp_ge i_mo_uses_52 (fun c_52 => ?_) (fun c_52 => ?_)
      · exact absurd c_52 (nI_ge (by omega) (by omega))
      refine ev_aload_0 i_mo_uses_55 ?_
      refine ev_get i_mo_uses_56 fl_mo_42 H.1 rfl ?_
      refine ev_bipush (v := 6) i_mo_uses_59 (by decide) ?_
      refine ev_iload_1 i_mo_uses_61 ?_
      refine ev_imul i_mo_uses_62 ?_
      refine ev_iload_4 i_mo_uses_63 ?_
      refine ev_iadd i_mo_uses_65 ?_
      refine ev_ia (L := 96) i_mo_uses_66 H rfl rfl (j := 6 * p + k') (e66 _) (by omega) (by omega) ?_
      refine ev_iload_2 i_mo_uses_67 ?_
      refine ev_icmp_ne i_mo_uses_68 (fun c_68 => ?_) (fun c_68 => ?_)
      · rw [decide_eq_false c_68, Bool.false_and] at es
        refine ev_iinc_4 i_mo_uses_89 (nI_1 k') rfl ?_
        refine ev_goto i_mo_uses_92 ?_
        exact ih (k' + 1) (by omega) es
      refine ev_aload_0 i_mo_uses_71 ?_
      refine ev_get i_mo_uses_72 fl_mo_45 H.1 rfl ?_
      refine ev_bipush (v := 6) i_mo_uses_75 (by decide) ?_
      refine ev_iload_1 i_mo_uses_77 ?_
      refine ev_imul i_mo_uses_78 ?_
      refine ev_iload_4 i_mo_uses_79 ?_
      refine ev_iadd i_mo_uses_81 ?_
      refine ev_ia (L := 96) i_mo_uses_82 H rfl rfl (j := 6 * p + k') (e66 _) (by omega) (by omega) ?_
      refine ev_iload_3 i_mo_uses_83 ?_
      refine ev_icmp_ne i_mo_uses_84 (fun c_84 => ?_) (fun c_84 => ?_)
      · rw [decide_eq_false c_84, Bool.and_false] at es
        refine ev_iinc_4 i_mo_uses_89 (nI_1 k') rfl ?_
        refine ev_goto i_mo_uses_92 ?_
        exact ih (k' + 1) (by omega) es
      refine ev_iconst (v := 0) i_mo_uses_87 (by decide) ?_
      refine ev_ireturn i_mo_uses_88 rfl rfl ?_
      refine ⟨_, rfl, Or.inr ⟨Or.inr (Or.inr (Or.inr ⟨p, e, Or.inr ?_⟩)), rfl, H⟩⟩
      exact any_at (i := k') (by omega) (by rw [c_68, c_84, decide_eq_true rfl, decide_eq_true rfl]; rfl)
  exact loop (um p) 0 (by omega) rfl
end MO4
