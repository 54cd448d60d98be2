section RD5
variable {G : ev_G} {h : ev_H}
variable {a tx ea aa len : Nat} {fa fb : Nat → Nat} {TX : Nat → Int32}
/-- the text, a character at a time: the place at which it is ill, or the state behind it -/
def sRun (lic : Nat) (tc : Nat → Nat) : Nat → Nat → RS → Nat ⊕ RS
  | 0, _, s => .inr s
  | m + 1, i, s => if tc i = 32 then sRun lic tc m (i + 1) s else match sTake lic s (tc i) with
    | some s' => sRun lic tc m (i + 1) s'
    | none => .inl i
def sStart (s : RS) : RS := (0, 0, s.2.2.1, 0, va_up (va_up s.2.2.2.2 2 []) 13 [])
/-- the whole reading: ill at a place, or the rows at its end -/
def sRead (lic : Nat) (tc : Nat → Nat) (len : Nat) (s : RS) : Nat ⊕ RS := match sRun lic tc len 0 (sStart s) with
  | .inl i => .inl i
  | .inr s1 => if (sName s1).2.1 = 3 ∧ (sName s1).1 = 0 then .inr (0, 3, (sName s1).2.2.1, mAlso (sName s1).2.2.2.1 (sName s1).2.2.2.2 0, xAlso (sName s1).2.2.2.2 0) else .inl len
theorem sSign_ok {s s' : RS} {c : Nat} (hs : sok s) (h1 : sSign s c = some s') : sok s' := by
  unfold sSign at h1
  split at h1
  · split at h1
    · cases h1
      exact ⟨by have := hs.1; show s.1 - 1 ≤ 10; omega, hs.2.1, mAtom_01 (mAlso_01 hs.2.2)⟩
    · cases h1
  · split at h1
    · cases h1
      exact ⟨hs.1, hs.2.1, mAlso_01 hs.2.2⟩
    · split at h1
      · cases h1
        exact hs
      · cases h1
theorem sTake_ok {lic c : Nat} {s s' : RS} (hl : lic ≤ 16) (hs : sok s) (h1 : sTake lic s c = some s') : sok s' := by
  unfold sTake at h1
  split at h1
  · split at h1
    · split at h1
      · next z =>
        cases h1
        exact ⟨by show s.1 + 1 ≤ 10; omega, hs.2⟩
      · cases h1
    · split at h1
      · next z =>
        cases h1
        exact ⟨hs.1, by show c - 97 < 16; omega, hs.2.2⟩
      · cases h1
  · split at h1
    · split at h1
      · cases h1
        exact ⟨hs.1, hs.2.1, mAtom_01 hs.2.2⟩
      · cases h1
    · split at h1
      · cases h1
        exact hs
      · exact sSign_ok (sName_ok hs) h1
theorem r_rd_read {lic : Nat} {s : RS} {tc : Nat → Nat} (H : rdq G h a tx ea aa fa fb len TX s) (hs : s.2.2.1 < 16) (hlen : len ≤ 60) (hT : ∀ i, i < len → TX i = nI (tc i) ∧ tc i < 128) (hl : lic ≤ 16) :
    Rn G M_rd_read 6 0 0 [.ref a, .int (nI lic)] h (ev_qi fun v h' => rfr a fa fb h h' ∧ ((∃ i s', sRead lic tc len s = .inl i ∧ i ≤ len ∧ v = nI i ∧ rdq G h' a tx ea aa fa fb len TX s' ∧ sok s') ∨ (∃ s', sRead lic tc len s = .inr s' ∧ v = -1 ∧ rdq G h' a tx ea aa fa fb len TX s' ∧ sok s'))) := by
  obtain ⟨opn0, st0, nm0, tm0, X0⟩ := s
  dsimp only [rdq] at H hs
  have h0 := H.1
  obtain ⟨H1, R1⟩ := rd_cell (len' := len) (opn' := 0) (nm' := nm0) (st' := 0) (tm' := 0) H
  refine Rn_of (ls := [some (.ref a), some (.int (nI lic)), none]) rfl rfl (Nat.le_of_ble_eq_true rfl) rfl ?_
  refine ev_aload_0 i_rd_read_0 ?_
  refine ev_iconst (v := 0) i_rd_read_1 (by decide) ?_
  refine ev_put i_rd_read_2 pl_rd_read_38 (by repeat (first | assumption | exact va_up_self _ _ _ | refine hu_ne (by first | assumption | exact Ne.symm (by assumption)) ?_)) rfl rfl (Nat.le_of_ble_eq_true rfl) rfl ?_
  refine ev_aload_0 i_rd_read_5 ?_
  refine ev_iconst (v := 0) i_rd_read_6 (by decide) ?_
  refine ev_put i_rd_read_7 pl_rd_read_41 (by repeat (first | assumption | exact va_up_self _ _ _ | refine hu_ne (by first | assumption | exact Ne.symm (by assumption)) ?_)) rfl rfl (Nat.le_of_ble_eq_true rfl) rfl ?_
  refine ev_aload_0 i_rd_read_10 ?_
  refine ev_iconst (v := 0) i_rd_read_11 (by decide) ?_
  refine ev_put i_rd_read_12 pl_rd_read_47 (by repeat (first | assumption | exact va_up_self _ _ _ | refine hu_ne (by first | assumption | exact Ne.symm (by assumption)) ?_)) rfl rfl (Nat.le_of_ble_eq_true rfl) rfl ?_
  refine ev_aload_0 i_rd_read_15 ?_
  rw [hu_uu, hu_uu]
  show Ev G M_rd_read 6 0 0 _ _ _ _ (va_up h a (some (rd_c tx ea aa (fa 0) (fa 1) len 0 0 nm0 0)))
  generalize va_up h a (some (rd_c tx ea aa (fa 0) (fa 1) len 0 0 nm0 0)) = g at H1 R1 ⊢
  refine ev_vv0 i_rd_read_16 lk_rd_51 cb_rd_startLevel iv_rd_startLevel (r_rd_startLevel H1 (by omega)) H1.1 rfl (by decide) (Nat.le_of_ble_eq_true rfl) rfl rfl (fun h2 hx => ?_)
  obtain ⟨H2, R2⟩ := hx
  have H2 : rdq G h2 a tx ea aa fa fb len TX (sStart (opn0, st0, nm0, tm0, X0)) := H2
  have R2 := rfr_tr R1 R2
  have ok0 : sok (sStart (opn0, st0, nm0, tm0, X0))   := ⟨Nat.zero_le _, hs, Or.inl rfl⟩
  unfold sRead
  generalize sStart (opn0, st0, nm0, tm0, X0) = s0 at H2 ok0 ⊢
  refine ev_iconst (v := 0) i_rd_read_19 (by decide) ?_
  refine ev_istore_2 i_rd_read_20 rfl ?_
  have loop : ∀ (m i : Nat) (s : RS) (hh : ev_H), i + m = len → rdq G hh a tx ea aa fa fb len TX s → sok s → rfr a fa fb h hh → sRun lic tc len 0 s0 = sRun lic tc m i s → Ev G M_rd_read 6 0 0 (ev_qi fun v h' => rfr a fa fb h h' ∧ ((∃ i s', (match sRun lic tc len 0 s0 with | .inl i => .inl i | .inr s1 => if (sName s1).2.1 = 3 ∧ (sName s1).1 = 0 then .inr (0, 3, (sName s1).2.2.1, mAlso (sName s1).2.2.2.1 (sName s1).2.2.2.2 0, xAlso (sName s1).2.2.2.2 0) else .inl len : Nat ⊕ RS) = .inl i ∧ i ≤ len ∧ v = nI i ∧ rdq G h' a tx ea aa fa fb len TX s' ∧ sok s') ∨ (∃ s', (match sRun lic tc len 0 s0 with | .inl i => .inl i | .inr s1 => if (sName s1).2.1 = 3 ∧ (sName s1).1 = 0 then .inr (0, 3, (sName s1).2.2.1, mAlso (sName s1).2.2.2.1 (sName s1).2.2.2.2 0, xAlso (sName s1).2.2.2.2 0) else .inl len : Nat ⊕ RS) = .inr s' ∧ v = -1 ∧ rdq G h' a tx ea aa fa fb len TX s' ∧ sok s'))) 21 [some (.ref a), some (.int (nI lic)), some (.int (nI i))] [] hh := by
    intro m
    induction m with
    | zero =>
      intro i s hh hi Hs ok R hrun
      obtain rfl : i = len := by omega
      rw [hrun]
      obtain ⟨opn, st, nm, tm, X⟩ := s
      dsimp only [rdq] at Hs
      have k0 := Hs.1
      refine ev_iload_2 i_rd_read_21 ?_
      refine ev_aload_0 i_rd_read_22 ?_
      refine ev_get i_rd_read_23 fl_rd_34 (by repeat (first | assumption | exact va_up_self _ _ _ | refine hu_ne (by first | assumption | exact Ne.symm (by assumption)) ?_)) rfl ?_
      refine ev_icmp_ge i_rd_read_26 (fun c_26 => ?_) (fun c_26 => ?_)
      rotate_left
      · exact absurd (nI_le (Nat.le_refl _) (by omega)) c_26
      refine ev_aload_0 i_rd_read_62 ?_
      refine ev_vv0 i_rd_read_63 lk_rd_58 cb_rd_endName iv_rd_endName (r_rd_endName Hs ok.1 ok.2.1) k0 rfl (by decide) (Nat.le_of_ble_eq_true rfl) rfl rfl (fun h3 hx => ?_)
      have HN : rdq G h3 a tx ea aa fa fb i TX (sName (opn, st, nm, tm, X)) ∧ rfr a fa fb h h3 := by
        unfold sName
        dsimp only at hx ⊢
        by_cases z : st = 1
        · rw [if_pos z] at hx ⊢
          exact ⟨hx.1, rfr_tr R hx.2⟩
        · rw [if_neg z] at hx ⊢
          subst hx
          exact ⟨Hs, R⟩
      obtain ⟨H3, R3⟩ := HN
      have ok3 := sName_ok ok
      have e1 : sRun lic tc 0 i (opn, st, nm, tm, X) = .inr (opn, st, nm, tm, X) := rfl
      rw [e1]
      dsimp only
      generalize sName (opn, st, nm, tm, X) = s' at H3 ok3 ⊢
      obtain ⟨o', st', nm', tm', X'⟩ := s'
      dsimp only [rdq] at H3 ⊢
      have k3 := H3.1
      refine ev_aload_0 i_rd_read_66 ?_
      refine ev_get i_rd_read_67 fl_rd_41 (by repeat (first | assumption | exact va_up_self _ _ _ | refine hu_ne (by first | assumption | exact Ne.symm (by assumption)) ?_)) rfl ?_
      refine ev_iconst (v := 3) i_rd_read_70 (by decide) ?_
      refine ev_icmp_ne i_rd_read_71 (fun c_71 => ?_) (fun c_71 => ?_)
      · rw [if_neg (fun z => c_71 z.1)]
        refine ev_aload_0 i_rd_read_81 ?_
        refine ev_get i_rd_read_82 fl_rd_34 (by repeat (first | assumption | exact va_up_self _ _ _ | refine hu_ne (by first | assumption | exact Ne.symm (by assumption)) ?_)) rfl ?_
        refine ev_ireturn i_rd_read_85 rfl rfl ?_
        exact ⟨_, rfl, R3, Or.inl ⟨i, (o', st', nm', tm', X'), rfl, Nat.le_refl _, rfl, H3, ok3⟩⟩
      refine ev_aload_0 i_rd_read_74 ?_
      refine ev_get i_rd_read_75 fl_rd_38 (by repeat (first | assumption | exact va_up_self _ _ _ | refine hu_ne (by first | assumption | exact Ne.symm (by assumption)) ?_)) rfl ?_
      refine ev_if_eq i_rd_read_78 (fun c_78 => ?_) (fun c_78 => ?_)
      rotate_left
      · rw [if_neg (fun z => c_78 (by rw [z.2]; rfl))]
        refine ev_aload_0 i_rd_read_81 ?_
        refine ev_get i_rd_read_82 fl_rd_34 (by repeat (first | assumption | exact va_up_self _ _ _ | refine hu_ne (by first | assumption | exact Ne.symm (by assumption)) ?_)) rfl ?_
        refine ev_ireturn i_rd_read_85 rfl rfl ?_
        exact ⟨_, rfl, R3, Or.inl ⟨i, (o', st', nm', tm', X'), rfl, Nat.le_refl _, rfl, H3, ok3⟩⟩
      have ho0 : o' = 0 := by
        have := ok3.1
        rcases Nat.eq_zero_or_pos o' with z | z
        · exact z
        · exact absurd c_78 (nI_ne0 z (by show o' < 2 ^ 31; dsimp only at this; omega))
      subst ho0
      rw [if_pos ⟨c_71, rfl⟩]
      refine ev_aload_0 i_rd_read_86 ?_
      refine ev_vv0 i_rd_read_87 lk_rd_61 cb_rd_endAlso iv_rd_endAlso (r_rd_endAlso H3 (by omega)) k3 rfl (by decide) (Nat.le_of_ble_eq_true rfl) rfl rfl (fun h4 hx => ?_)
      obtain ⟨H4, R4⟩ := hx
      refine ev_iconst (v := (-1)) i_rd_read_90 (by decide) ?_
      refine ev_ireturn i_rd_read_91 rfl rfl ?_
      rw [c_71] at H4
      exact ⟨_, rfl, rfr_tr R3 R4, Or.inr ⟨_, rfl, rfl, H4, ⟨Nat.zero_le _, ok3.2.1, mAlso_01 ok3.2.2⟩⟩⟩
    | succ m ih =>
      intro i s hh hi Hs ok R hrun
      have k0 := Hs.1
      have kT := Hs.2.1
      obtain ⟨eT, hTl⟩ := hT i (by omega)
      have hstep : sRun lic tc (m + 1) i s = if tc i = 32 then sRun lic tc m (i + 1) s else match sTake lic s (tc i) with | some s' => sRun lic tc m (i + 1) s' | none => .inl i := rfl
      rw [hstep] at hrun
      have e32 : nI (tc i) = 32 ↔ tc i = 32 := nI_eq (b := 32) (by omega) (by omega)
      refine ev_iload_2 i_rd_read_21 ?_
      refine ev_aload_0 i_rd_read_22 ?_
      refine ev_get i_rd_read_23 fl_rd_34 (by repeat (first | assumption | exact va_up_self _ _ _ | refine hu_ne (by first | assumption | exact Ne.symm (by assumption)) ?_)) rfl ?_
      refine ev_icmp_ge i_rd_read_26 (fun c_26 => ?_) (fun c_26 => ?_)
      · exact absurd c_26 (nI_ge (by omega) (by omega))
      refine ev_aload_0 i_rd_read_29 ?_
      refine ev_get i_rd_read_30 fl_rd_9 (by repeat (first | assumption | exact va_up_self _ _ _ | refine hu_ne (by first | assumption | exact Ne.symm (by assumption)) ?_)) rfl ?_
      refine ev_iload_2 i_rd_read_33 ?_
      refine ev_caload i_rd_read_34 ty_char kT (j := i) rfl (by omega) (by omega) ?_
      rw [eT]
      refine ev_bipush (v := 32) i_rd_read_35 (by decide) ?_
      refine ev_icmp_eq i_rd_read_37 (fun c_37 => ?_) (fun c_37 => ?_)
      · rw [if_pos (e32.mp c_37)] at hrun
        refine ev_iinc_2 i_rd_read_56 (nI_1 i) rfl ?_
        refine ev_goto i_rd_read_59 ?_
        exact ih (i + 1) s hh (by omega) Hs ok R hrun
      rw [if_neg (fun z => c_37 (e32.mpr z))] at hrun
      refine ev_aload_0 i_rd_read_40 ?_
      refine ev_aload_0 i_rd_read_41 ?_
      refine ev_get i_rd_read_42 fl_rd_9 (by repeat (first | assumption | exact va_up_self _ _ _ | refine hu_ne (by first | assumption | exact Ne.symm (by assumption)) ?_)) rfl ?_
      refine ev_iload_2 i_rd_read_45 ?_
      refine ev_caload i_rd_read_46 ty_char kT (j := i) rfl (by omega) (by omega) ?_
      rw [eT]
      refine ev_iload_1 i_rd_read_47 ?_
      refine ev_vi2 i_rd_read_48 lk_rd_54 cb_rd_takes iv_rd_takes (r_rd_takes Hs ok (show tc i < 65536 by omega) hl) k0 rfl (by decide) (Nat.le_of_ble_eq_true rfl) rfl rfl (fun v h3 hx => ?_)
      rcases hx with ⟨s', e1, rfl, H3, R3⟩ | ⟨e1, rfl, ⟨s', H3, ok3⟩, R3⟩
      · rw [e1] at hrun
        refine ev_if_ne i_rd_read_51 (fun c_51 => ?_) (fun c_51 => ?_)
        rotate_left
        · exact absurd c_51 (by decide)
        refine ev_iinc_2 i_rd_read_56 (nI_1 i) rfl ?_
        refine ev_goto i_rd_read_59 ?_
        exact ih (i + 1) s' h3 (by omega) H3 (sTake_ok hl ok e1) (rfr_tr R R3) hrun
      · rw [e1] at hrun
        refine ev_if_ne i_rd_read_51 (fun c_51 => ?_) (fun c_51 => ?_)
        · exact absurd rfl c_51
        refine ev_iload_2 i_rd_read_54 ?_
        refine ev_ireturn i_rd_read_55 rfl rfl ?_
        rw [hrun]
        exact ⟨_, rfl, rfr_tr R R3, Or.inl ⟨i, s', rfl, by omega, rfl, H3, ok3⟩⟩
  exact loop len 0 s0 h2 (by omega) H2 ok0 R2 rfl
end RD5
