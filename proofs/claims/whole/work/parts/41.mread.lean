section MR1
variable {G : ev_G} {h h0 : ev_H} {m : Nat} {ad : Nat → Nat} {sc : Nat → Int32} {A : Nat → Nat → Int32} {Wd : Nat → Int64}
/-- the text in the reference -/
def mtx (A : Nat → Nat → Int32) (len : Nat) (tc : Nat → Nat) : Prop := ∀ i, i < len → A 8 i = nI (tc i) ∧ 32 ≤ tc i ∧ tc i ≤ 126
def nxc (tc : Nat → Nat) (len i : Nat) : Nat := if i < len then tc i else 0
theorem r_mo_next {len i0 : Nat} {tc : Nat → Nat} (H : MI G h0 h m ad sc A Wd) (hl : sc 9 = nI len) (hl2 : len ≤ 60) (ht : mtx A len tc) (ha : sc 34 = nI i0) (hal : i0 ≤ len) :
    Rn G M_mo_next 0 0 0 [.ref m] h (ev_qi fun v h' => ∃ i, MI G h0 h' m ad (va_up sc 34 (nI i)) A Wd ∧ v = nI (nxc tc len i) ∧ i0 ≤ i ∧ i ≤ len ∧ (∀ j, i0 ≤ j → j < i → tc j = 32) ∧ (i < len → ¬ tc i = 32)) := by
  refine Rn_of (ls := [some (.ref m)]) rfl rfl (Nat.le_of_ble_eq_true rfl) rfl ?_
  have fin : ∀ (i : Nat) (h' : ev_H), MI G h0 h' m ad (va_up sc 34 (nI i)) A Wd → i0 ≤ i → i ≤ len → (∀ j, i0 ≤ j → j < i → tc j = 32) → (i < len → ¬ tc i = 32) → Ev G M_mo_next 0 0 0 (ev_qi fun v h' => ∃ i, MI G h0 h' m ad (va_up sc 34 (nI i)) A Wd ∧ v = nI (nxc tc len i) ∧ i0 ≤ i ∧ i ≤ len ∧ (∀ j, i0 ≤ j → j < i → tc j = 32) ∧ (i < len → ¬ tc i = 32)) 38 [some (.ref m)] [] h' := by
    intro i h' H g1 g2 g3 g4
    refine ev_aload_0 i_mo_next_38 ?_
    refine ev_get i_mo_next_39 fl_mo_118 H.1 rfl ?_
    refine ev_aload_0 i_mo_next_42 ?_
    refine ev_get i_mo_next_43 fl_mo_98 H.1 rfl ?_
    refine ev_top (y := nI len) hl ?_
    refine ev_icmp_ge i_mo_next_46 (fun c_46 => ?_) (fun c_46 => ?_)
    · have : ¬ i < len := fun z => absurd (show nI len ≤ nI i from c_46) (nI_ge z (by omega))
      refine ev_iconst (v := 0) i_mo_next_61 (by decide) ?_
      refine ev_ireturn i_mo_next_62 rfl rfl ?_
      exact ⟨_, rfl, i, H, by unfold nxc; rw [if_neg this]; rfl, g1, g2, g3, g4⟩
    · have hlt : i < len := by
        rcases Nat.lt_or_ge i len with z | z
        · exact z
        · exact absurd (show nI len ≤ nI i from nI_le z (by omega)) c_46
      refine ev_aload_0 i_mo_next_49 ?_
      refine ev_get i_mo_next_50 fl_mo_24 H.1 rfl ?_
      refine ev_aload_0 i_mo_next_53 ?_
      refine ev_get i_mo_next_54 fl_mo_118 H.1 rfl ?_
      refine ev_ia (L := 60) i_mo_next_57 H rfl rfl (j := i) rfl (by omega) (by omega) ?_
      rw [(ht i hlt).1]
      refine ev_goto i_mo_next_58 ?_
      refine ev_ireturn i_mo_next_62 rfl rfl ?_
      exact ⟨_, rfl, i, H, by unfold nxc; rw [if_pos hlt], g1, g2, g3, g4⟩
  have loop : ∀ (q i : Nat) (h' : ev_H), i + q = len → MI G h0 h' m ad (va_up sc 34 (nI i)) A Wd → i0 ≤ i → (∀ j, i0 ≤ j → j < i → tc j = 32) → Ev G M_mo_next 0 0 0 (ev_qi fun v h' => ∃ i, MI G h0 h' m ad (va_up sc 34 (nI i)) A Wd ∧ v = nI (nxc tc len i) ∧ i0 ≤ i ∧ i ≤ len ∧ (∀ j, i0 ≤ j → j < i → tc j = 32) ∧ (i < len → ¬ tc i = 32)) 0 [some (.ref m)] [] h' := by
    intro q
    induction q with
    | zero =>
      intro i h' hi H g1 g3
      obtain rfl : i = len := by omega
      refine ev_aload_0 i_mo_next_0 ?_
      refine ev_get i_mo_next_1 fl_mo_118 H.1 rfl ?_
      refine ev_aload_0 i_mo_next_4 ?_
      refine ev_get i_mo_next_5 fl_mo_98 H.1 rfl ?_
      refine ev_top (y := nI i) hl ?_
      refine ev_icmp_ge i_mo_next_8 (fun c_8 => ?_) (fun c_8 => ?_)
      · exact fin i h' H g1 (by omega) g3 (fun z => by omega)
      · exact absurd (show nI i ≤ nI i from nI_le (Nat.le_refl _) (by omega)) c_8
    | succ q ih =>
      intro i h' hi H g1 g3
      refine ev_aload_0 i_mo_next_0 ?_
      refine ev_get i_mo_next_1 fl_mo_118 H.1 rfl ?_
      refine ev_aload_0 i_mo_next_4 ?_
      refine ev_get i_mo_next_5 fl_mo_98 H.1 rfl ?_
      refine ev_top (y := nI len) hl ?_
      refine ev_icmp_ge i_mo_next_8 (fun c_8 => ?_) (fun c_8 => ?_)
      · exact absurd (show nI len ≤ nI i from c_8) (nI_ge (by omega) (by omega))
      refine ev_aload_0 i_mo_next_11 ?_
      refine ev_get i_mo_next_12 fl_mo_24 H.1 rfl ?_
      refine ev_aload_0 i_mo_next_15 ?_
      refine ev_get i_mo_next_16 fl_mo_118 H.1 rfl ?_
      refine ev_ia (L := 60) i_mo_next_19 H rfl rfl (j := i) rfl (by omega) (by omega) ?_
      rw [(ht i (by omega)).1]
      refine ev_bipush (v := 32) i_mo_next_20 (by decide) ?_
      refine ev_icmp_ne i_mo_next_22 (fun c_22 => ?_) (fun c_22 => ?_)
      · exact fin i h' H g1 (by omega) g3 (fun _ z => c_22 (by rw [z]; rfl))
      have e32 : tc i = 32 := by
        have := (ht i (by omega)).2
        exact (nI_eq (by omega) (by omega)).mp (show nI (tc i) = nI 32 from c_22)
      refine ev_aload_0 i_mo_next_25 ?_
      refine ev_dup i_mo_next_26 rfl ?_
      refine ev_get i_mo_next_27 fl_mo_118 H.1 rfl ?_
      refine ev_iconst (v := 1) i_mo_next_30 (by decide) ?_
      refine ev_iadd i_mo_next_31 ?_
      refine ev_top (y := nI (i + 1)) (show nI i + 1 = _ from nI_1 i) ?_
      refine ev_p34 i_mo_next_32 pl_mo_next_118 H (fun h H => ?_)
      refine ev_goto i_mo_next_35 ?_
      rw [show va_up (va_up sc 34 (nI i)) 34 (nI (i + 1)) = va_up sc 34 (nI (i + 1)) from hu_uu] at H
      exact ih (i + 1) _ (by omega) H (by omega) (fun j h1 h2 => by
        by_cases e : j = i
        · rw [e]; exact e32
        · exact g3 j h1 (by omega))
  exact loop (len - i0) i0 h (by omega) (by rw [hu_self ha]; exact H) (Nat.le_refl _) (fun j h1 h2 => by omega)
/-- the codes read so far -/
def mcd (A : Nat → Nat → Int32) (cn : Nat) (C : Nat → Nat) : Prop := ∀ k, k < cn → A 18 k = nI (C k) ∧ C k < 144
theorem r_mo_pairOf {cn c : Nat} {C : Nat → Nat} (H : MI G h0 h m ad sc A Wd) (hn : sc 23 = nI cn) (hn2 : cn < 30) (hC : mcd A cn C) (hc : c < 144) :
    Rn G M_mo_pairOf 0 0 0 [.ref m, .int (nI c)] h (ev_qi fun v h' => (∃ k, k < cn ∧ C k = c ∧ v = nI k ∧ MI G h0 h' m ad sc A Wd) ∨ ((∀ k, k < cn → ¬ C k = c) ∧ v = nI cn ∧ MI G h0 h' m ad (va_up sc 23 (nI (cn + 1))) (va_up A 18 (upd (A 18) cn (nI c))) Wd)) := by
  refine Rn_of (ls := [some (.ref m), some (.int (nI c)), none]) rfl rfl (Nat.le_of_ble_eq_true rfl) rfl ?_
  refine ev_iconst (v := 0) i_mo_pairOf_0 (by decide) ?_
  refine ev_istore_2 i_mo_pairOf_1 rfl ?_
  have loop : ∀ (q k : Nat), k + q = cn → (∀ j, j < k → ¬ C j = c) → Ev G M_mo_pairOf 0 0 0 (ev_qi fun v h' => (∃ k, k < cn ∧ C k = c ∧ v = nI k ∧ MI G h0 h' m ad sc A Wd) ∨ ((∀ k, k < cn → ¬ C k = c) ∧ v = nI cn ∧ MI G h0 h' m ad (va_up sc 23 (nI (cn + 1))) (va_up A 18 (upd (A 18) cn (nI c))) Wd)) 2 [some (.ref m), some (.int (nI c)), some (.int (nI k))] [] h := by
    intro q
    induction q with
    | zero =>
      intro k hk hno
      obtain rfl : k = cn := by omega
      refine ev_iload_2 i_mo_pairOf_2 ?_
      refine ev_aload_0 i_mo_pairOf_3 ?_
      refine ev_get i_mo_pairOf_4 fl_mo_101 H.1 rfl ?_
      refine ev_top (y := nI k) hn ?_
      refine ev_icmp_ge i_mo_pairOf_7 (fun c_7 => ?_) (fun c_7 => ?_)
      rotate_left
      · exact absurd (nI_le (Nat.le_refl _) (by omega)) c_7
      refine ev_aload_0 i_mo_pairOf_26 ?_
      refine ev_get i_mo_pairOf_27 fl_mo_51 H.1 rfl ?_
      refine ev_iload_2 i_mo_pairOf_30 ?_
      refine ev_iload_1 i_mo_pairOf_31 ?_
      refine ev_is (L := 30) i_mo_pairOf_32 H rfl rfl (j := k) rfl (by omega) (by omega) (fun h H => ?_)
      refine ev_aload_0 i_mo_pairOf_33 ?_
      refine ev_dup i_mo_pairOf_34 rfl ?_
      refine ev_get i_mo_pairOf_35 fl_mo_101 H.1 rfl ?_
      refine ev_iload_2 i_mo_pairOf_38 ?_
      refine ev_aload_0 i_mo_pairOf_39 ?_
      refine ev_get i_mo_pairOf_40 fl_mo_101 H.1 rfl ?_
      refine ev_top (y := nI k) hn ?_
      refine ev_icmp_ne i_mo_pairOf_43 (fun c_43 => ?_) (fun c_43 => ?_)
      · exact absurd rfl c_43
      refine ev_iconst (v := 1) i_mo_pairOf_46 (by decide) ?_
      refine ev_goto i_mo_pairOf_47 ?_
      refine ev_iadd i_mo_pairOf_51 ?_
      refine ev_top (y := nI (k + 1)) (by rw [hn]; exact nI_1 k) ?_
      refine ev_p23 i_mo_pairOf_52 pl_mo_pairOf_101 H (fun h H => ?_)
      refine ev_iload_2 i_mo_pairOf_55 ?_
      refine ev_ireturn i_mo_pairOf_56 rfl rfl ?_
      exact ⟨_, rfl, Or.inr ⟨hno, rfl, H⟩⟩
    | succ q ih =>
      intro k hk hno
      obtain ⟨e1, e2⟩ := hC k (by omega)
      refine ev_iload_2 i_mo_pairOf_2 ?_
      refine ev_aload_0 i_mo_pairOf_3 ?_
      refine ev_get i_mo_pairOf_4 fl_mo_101 H.1 rfl ?_
      refine ev_top (y := nI cn) hn ?_
      refine ev_icmp_ge i_mo_pairOf_7 (fun c_7 => ?_) (fun c_7 => ?_)
      · exact absurd c_7 (nI_ge (by omega) (by omega))
      refine ev_aload_0 i_mo_pairOf_10 ?_
      refine ev_get i_mo_pairOf_11 fl_mo_51 H.1 rfl ?_
      refine ev_iload_2 i_mo_pairOf_14 ?_
      refine ev_ia (L := 30) i_mo_pairOf_15 H rfl rfl (j := k) rfl (by omega) (by omega) ?_
      rw [e1]
      refine ev_iload_1 i_mo_pairOf_16 ?_
      refine ev_icmp_eq i_mo_pairOf_17 (fun c_17 => ?_) (fun c_17 => ?_)
      rotate_left
      · refine ev_iinc_2 i_mo_pairOf_20 (nI_1 k) rfl ?_
        refine ev_goto i_mo_pairOf_23 ?_
        exact ih (k + 1) (by omega) (fun j hj => by
          by_cases e : j = k
          · rw [e]; exact fun z => c_17 (by rw [z])
          · exact hno j (by omega))
      have ec : C k = c := (nI_eq (by omega) (by omega)).mp c_17
      refine ev_aload_0 i_mo_pairOf_26 ?_
      refine ev_get i_mo_pairOf_27 fl_mo_51 H.1 rfl ?_
      refine ev_iload_2 i_mo_pairOf_30 ?_
      refine ev_iload_1 i_mo_pairOf_31 ?_
      refine ev_is (L := 30) i_mo_pairOf_32 H rfl rfl (j := k) rfl (by omega) (by omega) (fun h H => ?_)
      rw [upd_self (f := A 18) (k := k) (x := nI c) (by rw [e1, ec]), hu_self (f := A) rfl] at H
      refine ev_aload_0 i_mo_pairOf_33 ?_
      refine ev_dup i_mo_pairOf_34 rfl ?_
      refine ev_get i_mo_pairOf_35 fl_mo_101 H.1 rfl ?_
      refine ev_iload_2 i_mo_pairOf_38 ?_
      refine ev_aload_0 i_mo_pairOf_39 ?_
      refine ev_get i_mo_pairOf_40 fl_mo_101 H.1 rfl ?_
      refine ev_top (y := nI cn) hn ?_
      refine ev_icmp_ne i_mo_pairOf_43 (fun c_43 => ?_) (fun c_43 => ?_)
      rotate_left
      · exact absurd ((nI_eq (by omega) (by omega)).mp c_43) (by omega)
      refine ev_iconst (v := 0) i_mo_pairOf_50 (by decide) ?_
      refine ev_iadd i_mo_pairOf_51 ?_
      refine ev_top (y := nI cn) (by rw [hn]; show nI cn + nI 0 = _; rw [nI_add]; rfl) ?_
      refine ev_p23 i_mo_pairOf_52 pl_mo_pairOf_101 H (fun h H => ?_)
      refine ev_iload_2 i_mo_pairOf_55 ?_
      refine ev_ireturn i_mo_pairOf_56 rfl rfl ?_
      rw [hu_self (f := sc) hn] at H
      exact ⟨_, rfl, Or.inl ⟨k, by omega, ec, rfl, H⟩⟩
  exact loop cn 0 (by omega) (fun j hj => by omega)
end MR1
