section RD4
variable {G : ev_G} {h : ev_H}
variable {a tx ea aa len opn nm : Nat} {fa fb : Nat → Nat} {st tm : Int32} {TX : Nat → Int32} {X : Nat → List T3}
theorem r_rd_takesName {c lic : Nat} (H : rd_at G h a tx ea aa fa fb len opn st nm tm TX X) (hc : c < 65536) (hl : lic ≤ 16) :
    Rn G M_rd_takesName 0 0 0 [.ref a, .int (nI c), .int (nI lic)] h (ev_qi fun v h' => if 97 ≤ c ∧ c - 97 < lic then v = 1 ∧ rd_at G h' a tx ea aa fa fb len opn 1 (c - 97) tm TX X ∧ rfr a fa fb h h' else v = 0 ∧ h' = h) := by
  have h0 := H.1
  have sub : 97 ≤ c → nI c - 97 = nI (c - 97) := fun z => pk_sub (b := 97) z
  refine Rn_of (ls := [some (.ref a), some (.int (nI c)), some (.int (nI lic))]) rfl rfl (Nat.le_of_ble_eq_true rfl) rfl ?_
  refine ev_iload_1 i_rd_takesName_0 ?_
  refine ev_bipush (v := 97) i_rd_takesName_1 (by decide) ?_
  refine ev_icmp_lt i_rd_takesName_3 (fun c_3 => ?_) (fun c_3 => ?_)
  · have : c < 97 := (nI_ltI (by omega) (by omega)).mp (show nI c < nI 97 from c_3)
    refine ev_iconst (v := 0) i_rd_takesName_14 (by decide) ?_
    refine ev_ireturn i_rd_takesName_15 rfl rfl ?_
    exact ⟨_, rfl, by dsimp only; rw [if_neg (by omega)]; exact ⟨rfl, rfl⟩⟩
  have k1 : 97 ≤ c := by
    rcases Nat.lt_or_ge c 97 with z | z
    · exact absurd (show nI c < nI 97 from nI_lt z (by omega)) c_3
    · exact z
  refine ev_iload_1 i_rd_takesName_6 ?_
  refine ev_bipush (v := 97) i_rd_takesName_7 (by decide) ?_
  refine ev_isub i_rd_takesName_9 ?_
  refine ev_top (sub k1) ?_
  refine ev_iload_2 i_rd_takesName_10 ?_
  refine ev_icmp_lt i_rd_takesName_11 (fun c_11 => ?_) (fun c_11 => ?_)
  rotate_left
  · have : ¬ c - 97 < lic := fun z => c_11 (nI_lt z (by omega))
    refine ev_iconst (v := 0) i_rd_takesName_14 (by decide) ?_
    refine ev_ireturn i_rd_takesName_15 rfl rfl ?_
    exact ⟨_, rfl, by dsimp only; rw [if_neg (fun z => this z.2)]; exact ⟨rfl, rfl⟩⟩
  have k2 : c - 97 < lic := (nI_ltI (by omega) (by omega)).mp c_11
  refine ev_aload_0 i_rd_takesName_16 ?_
  refine ev_iload_1 i_rd_takesName_17 ?_
  refine ev_bipush (v := 97) i_rd_takesName_18 (by decide) ?_
  refine ev_isub i_rd_takesName_20 ?_
  refine ev_top (sub k1) ?_
  refine ev_put i_rd_takesName_21 pl_rd_takesName_44 (by repeat (first | assumption | exact va_up_self _ _ _ | refine hu_ne (by first | assumption | exact Ne.symm (by assumption)) ?_)) rfl rfl (Nat.le_of_ble_eq_true rfl) rfl ?_
  refine ev_aload_0 i_rd_takesName_24 ?_
  refine ev_iconst (v := 1) i_rd_takesName_25 (by decide) ?_
  refine ev_put i_rd_takesName_26 pl_rd_takesName_41 (by repeat (first | assumption | exact va_up_self _ _ _ | refine hu_ne (by first | assumption | exact Ne.symm (by assumption)) ?_)) rfl rfl (Nat.le_of_ble_eq_true rfl) rfl ?_
  refine ev_iconst (v := 1) i_rd_takesName_29 (by decide) ?_
  refine ev_ireturn i_rd_takesName_30 rfl rfl ?_
  obtain ⟨H1, R1⟩ := rd_cell (len' := len) (opn' := opn) (nm' := c - 97) (st' := 1) (tm' := tm) H
  refine ⟨_, rfl, ?_⟩
  dsimp only
  rw [if_pos ⟨k1, k2⟩]
  rw [hu_uu]
  exact ⟨rfl, H1, R1⟩
theorem r_rd_takesDigit {c : Nat} (H : rd_at G h a tx ea aa fa fb len opn st nm tm TX X) (hc : c < 65536) (ho : opn ≤ 10) (hnm : nm < 16) :
    Rn G M_rd_takesDigit 4 0 0 [.ref a, .int (nI c)] h (ev_qi fun v h' => if 48 ≤ c ∧ c - 48 < 8 then v = 1 ∧ rd_at G h' a tx ea aa fa fb len opn 3 nm (mAtom tm (xSet X (9 * nm + (c - 48) + 1)) (13 + opn) 0) TX (xAtom (xSet X (9 * nm + (c - 48) + 1)) (13 + opn) 0) ∧ rfr a fa fb h h' else v = 0 ∧ h' = h) := by
  have h0 := H.1
  obtain ⟨n0, B0, w1, w2, w3, w4⟩ := H.2.2.2.2.1 0 (by omega)
  have sub : 48 ≤ c → nI c - 48 = nI (c - 48) := fun z => pk_sub (b := 48) z
  refine Rn_of (ls := [some (.ref a), some (.int (nI c))]) rfl rfl (Nat.le_of_ble_eq_true rfl) rfl ?_
  refine ev_iload_1 i_rd_takesDigit_0 ?_
  refine ev_bipush (v := 48) i_rd_takesDigit_1 (by decide) ?_
  refine ev_icmp_lt i_rd_takesDigit_3 (fun c_3 => ?_) (fun c_3 => ?_)
  · have : c < 48 := (nI_ltI (by omega) (by omega)).mp (show nI c < nI 48 from c_3)
    refine ev_iconst (v := 0) i_rd_takesDigit_15 (by decide) ?_
    refine ev_ireturn i_rd_takesDigit_16 rfl rfl ?_
    exact ⟨_, rfl, by dsimp only; rw [if_neg (by omega)]; exact ⟨rfl, rfl⟩⟩
  have k1 : 48 ≤ c := by
    rcases Nat.lt_or_ge c 48 with z | z
    · exact absurd (show nI c < nI 48 from nI_lt z (by omega)) c_3
    · exact z
  refine ev_iload_1 i_rd_takesDigit_6 ?_
  refine ev_bipush (v := 48) i_rd_takesDigit_7 (by decide) ?_
  refine ev_isub i_rd_takesDigit_9 ?_
  refine ev_top (sub k1) ?_
  refine ev_bipush (v := 8) i_rd_takesDigit_10 (by decide) ?_
  refine ev_icmp_lt i_rd_takesDigit_12 (fun c_12 => ?_) (fun c_12 => ?_)
  rotate_left
  · have : ¬ c - 48 < 8 := fun z => c_12 (show nI (c - 48) < nI 8 from nI_lt z (by omega))
    refine ev_iconst (v := 0) i_rd_takesDigit_15 (by decide) ?_
    refine ev_ireturn i_rd_takesDigit_16 rfl rfl ?_
    exact ⟨_, rfl, by dsimp only; rw [if_neg (fun z => this z.2)]; exact ⟨rfl, rfl⟩⟩
  have k2 : c - 48 < 8 := (nI_ltI (by omega) (by omega)).mp (show nI (c - 48) < nI 8 from c_12)
  refine ev_aload_0 i_rd_takesDigit_17 ?_
  refine ev_get i_rd_takesDigit_18 fl_rd_27 (by repeat (first | assumption | exact va_up_self _ _ _ | refine hu_ne (by first | assumption | exact Ne.symm (by assumption)) ?_)) rfl ?_
  refine ev_aload_0 i_rd_takesDigit_21 ?_
  refine ev_get i_rd_takesDigit_22 fl_rd_44 (by repeat (first | assumption | exact va_up_self _ _ _ | refine hu_ne (by first | assumption | exact Ne.symm (by assumption)) ?_)) rfl ?_
  refine ev_bipush (v := 9) i_rd_takesDigit_25 (by decide) ?_
  refine ev_imul i_rd_takesDigit_27 ?_
  refine ev_iload_1 i_rd_takesDigit_28 ?_
  refine ev_bipush (v := 48) i_rd_takesDigit_29 (by decide) ?_
  refine ev_isub i_rd_takesDigit_31 ?_
  refine ev_iadd i_rd_takesDigit_32 ?_
  refine ev_iconst (v := 1) i_rd_takesDigit_33 (by decide) ?_
  refine ev_iadd i_rd_takesDigit_34 ?_
  refine ev_top (show nI nm * 9 + (nI c - 48) + 1 = nI (9 * nm + (c - 48) + 1) from by rw [nI_9, sub k1, nI_add, nI_1]) ?_
  refine ev_vv1 i_rd_takesDigit_35 lk_rd_81 cb_fo_setOnly iv_fo_setOnly (rd_setOnly H (show 9 * nm + (c - 48) + 1 < 192 by omega)) w1 rfl (by decide) (Nat.le_of_ble_eq_true rfl) rfl rfl (fun h1 hx => ?_)
  obtain ⟨H1, R1⟩ := hx
  have h01 := H1.1
  refine ev_aload_0 i_rd_takesDigit_38 ?_
  refine ev_aload_0 i_rd_takesDigit_39 ?_
  refine ev_get i_rd_takesDigit_40 fl_rd_27 (by repeat (first | assumption | exact va_up_self _ _ _ | refine hu_ne (by first | assumption | exact Ne.symm (by assumption)) ?_)) rfl ?_
  refine ev_vv1 i_rd_takesDigit_43 lk_rd_84 cb_rd_endAtom iv_rd_endAtom (r_rd_endAtom H1 ho (show 0 < 24 by omega) (by omega) (by omega)) h01 rfl (by decide) (Nat.le_of_ble_eq_true rfl) rfl rfl (fun h2 hx => ?_)
  obtain ⟨H2, R2⟩ := hx
  refine ev_iconst (v := 1) i_rd_takesDigit_46 (by decide) ?_
  refine ev_ireturn i_rd_takesDigit_47 rfl rfl ?_
  refine ⟨_, rfl, ?_⟩
  dsimp only
  rw [if_pos ⟨k1, k2⟩]
  exact ⟨rfl, H2, rfr_tr R1 R2⟩
theorem r_rd_takesSign {c : Nat} (H : rd_at G h a tx ea aa fa fb len opn st nm tm TX X) (hc : c < 65536) (ho : opn ≤ 10) :
    Rn G M_rd_takesSign 4 0 0 [.ref a, .int (nI c)] h (ev_qi fun v h' => if c = 124 then v = 1 ∧ rd_at G h' a tx ea aa fa fb len opn 0 nm (mAlso tm X opn) TX (xAlso X opn) ∧ rfr a fa fb h h' else if c = 38 then v = 1 ∧ rd_at G h' a tx ea aa fa fb len opn 0 nm tm TX X ∧ rfr a fa fb h h' else v = 0 ∧ h' = h) := by
  have h0 := H.1
  have e1 : nI c = 124 ↔ c = 124 := nI_eq (b := 124) (by omega) (by omega)
  have e2 : nI c = 38 ↔ c = 38 := nI_eq (b := 38) (by omega) (by omega)
  have bar : c = 124 → Ev G M_rd_takesSign 4 0 0 (ev_qi fun v h' => if c = 124 then v = 1 ∧ rd_at G h' a tx ea aa fa fb len opn 0 nm (mAlso tm X opn) TX (xAlso X opn) ∧ rfr a fa fb h h' else if c = 38 then v = 1 ∧ rd_at G h' a tx ea aa fa fb len opn 0 nm tm TX X ∧ rfr a fa fb h h' else v = 0 ∧ h' = h) 14 [some (.ref a), some (.int (nI c))] [] h := by
    intro hb
    refine ev_iload_1 i_rd_takesSign_14 ?_
    refine ev_bipush (v := 124) i_rd_takesSign_15 (by decide) ?_
    refine ev_icmp_ne i_rd_takesSign_17 (fun c_17 => ?_) (fun c_17 => ?_)
    · exact absurd (e1.mpr hb) c_17
    refine ev_aload_0 i_rd_takesSign_20 ?_
    refine ev_vv0 i_rd_takesSign_21 lk_rd_61 cb_rd_endAlso iv_rd_endAlso (r_rd_endAlso H ho) h0 rfl (by decide) (Nat.le_of_ble_eq_true rfl) rfl rfl (fun h1 hx => ?_)
    obtain ⟨H1, R1⟩ := hx
    have h01 := H1.1
    refine ev_aload_0 i_rd_takesSign_24 ?_
    refine ev_iconst (v := 0) i_rd_takesSign_25 (by decide) ?_
    refine ev_put i_rd_takesSign_26 pl_rd_takesSign_41 (by repeat (first | assumption | exact va_up_self _ _ _ | refine hu_ne (by first | assumption | exact Ne.symm (by assumption)) ?_)) rfl rfl (Nat.le_of_ble_eq_true rfl) rfl ?_
    refine ev_iconst (v := 1) i_rd_takesSign_29 (by decide) ?_
    refine ev_ireturn i_rd_takesSign_30 rfl rfl ?_
    obtain ⟨H2, R2⟩ := rd_cell (len' := len) (opn' := opn) (nm' := nm) (st' := 0) (tm' := mAlso tm X opn) H1
    refine ⟨_, rfl, ?_⟩
    dsimp only
    rw [if_pos hb]
    exact ⟨rfl, H2, rfr_tr R1 R2⟩
  refine Rn_of (ls := [some (.ref a), some (.int (nI c))]) rfl rfl (Nat.le_of_ble_eq_true rfl) rfl ?_
  refine ev_iload_1 i_rd_takesSign_0 ?_
  refine ev_bipush (v := 124) i_rd_takesSign_1 (by decide) ?_
  refine ev_icmp_eq i_rd_takesSign_3 (fun c_3 => ?_) (fun c_3 => ?_)
  · exact bar (e1.mp c_3)
  refine ev_iload_1 i_rd_takesSign_6 ?_
  refine ev_bipush (v := 38) i_rd_takesSign_7 (by decide) ?_
  refine ev_icmp_eq i_rd_takesSign_9 (fun c_9 => ?_) (fun c_9 => ?_)
  · refine ev_iload_1 i_rd_takesSign_14 ?_
    refine ev_bipush (v := 124) i_rd_takesSign_15 (by decide) ?_
    refine ev_icmp_ne i_rd_takesSign_17 (fun c_17 => ?_) (fun c_17 => ?_)
    rotate_left
    · exact absurd c_17 c_3
    refine ev_aload_0 i_rd_takesSign_24 ?_
    refine ev_iconst (v := 0) i_rd_takesSign_25 (by decide) ?_
    refine ev_put i_rd_takesSign_26 pl_rd_takesSign_41 (by repeat (first | assumption | exact va_up_self _ _ _ | refine hu_ne (by first | assumption | exact Ne.symm (by assumption)) ?_)) rfl rfl (Nat.le_of_ble_eq_true rfl) rfl ?_
    refine ev_iconst (v := 1) i_rd_takesSign_29 (by decide) ?_
    refine ev_ireturn i_rd_takesSign_30 rfl rfl ?_
    obtain ⟨H2, R2⟩ := rd_cell (len' := len) (opn' := opn) (nm' := nm) (st' := 0) (tm' := tm) H
    refine ⟨_, rfl, ?_⟩
    dsimp only
    rw [if_neg (fun z => c_3 (e1.mpr z)), if_pos (e2.mp c_9)]
    exact ⟨rfl, H2, R2⟩
  · refine ev_iconst (v := 0) i_rd_takesSign_12 (by decide) ?_
    refine ev_ireturn i_rd_takesSign_13 rfl rfl ?_
    refine ⟨_, rfl, ?_⟩
    dsimp only
    rw [if_neg (fun z => c_3 (e1.mpr z)), if_neg (fun z => c_9 (e2.mpr z))]
    exact ⟨rfl, rfl⟩
/-- the reader between two characters: open brackets, state, the name read last, too many, the rows -/
abbrev RS : Type := Nat × Int32 × Nat × Int32 × (Nat → List T3)
def sName (s : RS) : RS := if s.2.1 = 1 then (s.1, 3, s.2.2.1, mAtom s.2.2.2.1 (xSet s.2.2.2.2 (9 * s.2.2.1)) (13 + s.1) 0, xAtom (xSet s.2.2.2.2 (9 * s.2.2.1)) (13 + s.1) 0) else s
def sSign (s : RS) (c : Nat) : Option RS :=
  if c = 41 then (if 0 < s.1 then some (s.1 - 1, 3, s.2.2.1, mAtom (mAlso s.2.2.2.1 s.2.2.2.2 s.1) (xAlso s.2.2.2.2 s.1) (13 + (s.1 - 1)) (2 + s.1), xAtom (xAlso s.2.2.2.2 s.1) (13 + (s.1 - 1)) (2 + s.1)) else none)
  else if c = 124 then some (s.1, 0, s.2.2.1, mAlso s.2.2.2.1 s.2.2.2.2 s.1, xAlso s.2.2.2.2 s.1) else if c = 38 then some (s.1, 0, s.2.2.1, s.2.2.2.1, s.2.2.2.2) else none
def sTake (lic : Nat) (s : RS) (c : Nat) : Option RS :=
  if s.2.1 = 0 then (if c = 40 then (if s.1 < 10 then some (s.1 + 1, 0, s.2.2.1, s.2.2.2.1, va_up (va_up s.2.2.2.2 (2 + (s.1 + 1)) []) (13 + (s.1 + 1)) []) else none) else if 97 ≤ c ∧ c - 97 < lic then some (s.1, 1, c - 97, s.2.2.2.1, s.2.2.2.2) else none)
  else if s.2.1 = 2 then (if 48 ≤ c ∧ c - 48 < 8 then some (s.1, 3, s.2.2.1, mAtom s.2.2.2.1 (xSet s.2.2.2.2 (9 * s.2.2.1 + (c - 48) + 1)) (13 + s.1) 0, xAtom (xSet s.2.2.2.2 (9 * s.2.2.1 + (c - 48) + 1)) (13 + s.1) 0) else none)
  else if s.2.1 = 1 ∧ c = 94 then some (s.1, 2, s.2.2.1, s.2.2.2.1, s.2.2.2.2)
  else sSign (sName s) c
/-- the reader's heap at such a state -/
abbrev rdq (G : ev_G) (h : ev_H) (a tx ea aa : Nat) (fa fb : Nat → Nat) (len : Nat) (TX : Nat → Int32) (s : RS) : Prop := rd_at G h a tx ea aa fa fb len s.1 s.2.1 s.2.2.1 s.2.2.2.1 TX s.2.2.2.2
def sok (s : RS) : Prop := s.1 ≤ 10 ∧ s.2.2.1 < 16 ∧ (s.2.2.2.1 = 0 ∨ s.2.2.2.1 = 1)
theorem mny_01 {tm : Int32} {Z : List T3} (h : tm = 0 ∨ tm = 1) : mny tm Z = 0 ∨ mny tm Z = 1 := by
  unfold mny
  split
  · exact Or.inr rfl
  · exact h
theorem mAtom_01 {tm : Int32} {X : Nat → List T3} {t w : Nat} (h : tm = 0 ∨ tm = 1) : mAtom tm X t w = 0 ∨ mAtom tm X t w = 1 := by
  unfold mAtom
  split
  · exact h
  · exact mny_01 h
theorem mAlso_01 {tm : Int32} {X : Nat → List T3} {o : Nat} (h : tm = 0 ∨ tm = 1) : mAlso tm X o = 0 ∨ mAlso tm X o = 1 := mny_01 h
theorem sName_1 (s : RS) : (sName s).1 = s.1 ∧ (sName s).2.2.1 = s.2.2.1 := by
  unfold sName
  split <;> exact ⟨rfl, rfl⟩
theorem sName_ok {s : RS} (hs : sok s) : sok (sName s) := by
  unfold sName
  split
  · exact ⟨hs.1, hs.2.1, mAtom_01 hs.2.2⟩
  · exact hs
theorem r_rd_takes {c lic : Nat} {s : RS} (H : rdq G h a tx ea aa fa fb len TX s) (hs : sok s) (hc : c < 65536) (hl : lic ≤ 16) :
    Rn G M_rd_takes 5 0 0 [.ref a, .int (nI c), .int (nI lic)] h (ev_qi fun v h' => (∃ s', sTake lic s c = some s' ∧ v = 1 ∧ rdq G h' a tx ea aa fa fb len TX s' ∧ rfr a fa fb h h') ∨ (sTake lic s c = none ∧ v = 0 ∧ (∃ s', rdq G h' a tx ea aa fa fb len TX s' ∧ sok s') ∧ rfr a fa fb h h')) := by
  obtain ⟨opn, st, nm, tm, X⟩ := s
  obtain ⟨ho, hnm, htm⟩ := hs
  dsimp only [rdq] at H ho hnm htm
  have h0 := H.1
  have e40 : nI c = 40 ↔ c = 40 := nI_eq (b := 40) (by omega) (by omega)
  have e94 : nI c = 94 ↔ c = 94 := nI_eq (b := 94) (by omega) (by omega)
  have e41 : nI c = 41 ↔ c = 41 := nI_eq (b := 41) (by omega) (by omega)
  have tail : ¬ st = 0 → ¬ st = 2 → ¬ (st = 1 ∧ c = 94) → Ev G M_rd_takes 5 0 0 (ev_qi fun v h' => (∃ s', sTake lic (opn, st, nm, tm, X) c = some s' ∧ v = 1 ∧ rdq G h' a tx ea aa fa fb len TX s' ∧ rfr a fa fb h h') ∨ (sTake lic (opn, st, nm, tm, X) c = none ∧ v = 0 ∧ (∃ s', rdq G h' a tx ea aa fa fb len TX s' ∧ sok s') ∧ rfr a fa fb h h')) 62 [some (.ref a), some (.int (nI c)), some (.int (nI lic))] [] h := by
    intro z0 z2 z1
    have eT : sTake lic (opn, st, nm, tm, X) c = sSign (sName (opn, st, nm, tm, X)) c := by
      unfold sTake
      rw [if_neg z0, if_neg z2, if_neg z1]
    have n1 := (sName_1 (opn, st, nm, tm, X)).1
    dsimp only at n1
    refine ev_aload_0 i_rd_takes_62 ?_
    refine ev_vv0 i_rd_takes_63 lk_rd_58 cb_rd_endName iv_rd_endName (r_rd_endName H ho hnm) h0 rfl (by decide) (Nat.le_of_ble_eq_true rfl) rfl rfl (fun h1 hx => ?_)
    have HN : rdq G h1 a tx ea aa fa fb len TX (sName (opn, st, nm, tm, X)) ∧ rfr a fa fb h h1 := by
      unfold sName
      dsimp only at hx ⊢
      by_cases z : st = 1
      · rw [if_pos z] at hx ⊢
        exact hx
      · rw [if_neg z] at hx ⊢
        subst hx
        exact ⟨H, rfr_rf⟩
    obtain ⟨H1, R1⟩ := HN
    rw [eT]
    have okN : sok (sName (opn, st, nm, tm, X)) := sName_ok (s := (opn, st, nm, tm, X)) ⟨ho, hnm, htm⟩
    generalize sName (opn, st, nm, tm, X) = s' at H1 n1 okN ⊢
    obtain ⟨o', st', nm', tm', X'⟩ := s'
    dsimp only [rdq] at H1 n1
    have h01 := H1.1
    refine ev_iload_1 i_rd_takes_66 ?_
    refine ev_bipush (v := 41) i_rd_takes_67 (by decide) ?_
    refine ev_icmp_ne i_rd_takes_69 (fun c_69 => ?_) (fun c_69 => ?_)
    · refine ev_aload_0 i_rd_takes_79 ?_
      refine ev_iload_1 i_rd_takes_80 ?_
      refine ev_vi1 i_rd_takes_81 lk_rd_78 cb_rd_takesSign iv_rd_takesSign (r_rd_takesSign H1 hc (by omega)) h01 rfl (by decide) (Nat.le_of_ble_eq_true rfl) rfl rfl (fun v h2 hx => ?_)
      try dsimp only at hx
      have hs41 : ¬ c = 41 := fun z => c_69 (e41.mpr z)
      by_cases z124 : c = 124
      · rw [if_pos z124] at hx
        obtain ⟨rfl, H2, R2⟩ := hx
        refine ev_ireturn i_rd_takes_84 rfl rfl ?_
        refine ⟨_, rfl, Or.inl ⟨(o', 0, nm', mAlso tm' X' o', xAlso X' o'), ?_, rfl, H2, rfr_tr R1 R2⟩⟩
        unfold sSign
        rw [if_neg hs41, if_pos z124]
      · rw [if_neg z124] at hx
        by_cases z38 : c = 38
        · rw [if_pos z38] at hx
          obtain ⟨rfl, H2, R2⟩ := hx
          refine ev_ireturn i_rd_takes_84 rfl rfl ?_
          refine ⟨_, rfl, Or.inl ⟨(o', 0, nm', tm', X'), ?_, rfl, H2, rfr_tr R1 R2⟩⟩
          unfold sSign
          rw [if_neg hs41, if_neg z124, if_pos z38]
        · rw [if_neg z38] at hx
          obtain ⟨rfl, rfl⟩ := hx
          refine ev_ireturn i_rd_takes_84 rfl rfl ?_
          refine ⟨_, rfl, Or.inr ⟨?_, rfl, ⟨(o', st', nm', tm', X'), H1, okN⟩, R1⟩⟩
          unfold sSign
          rw [if_neg hs41, if_neg z124, if_neg z38]
    · refine ev_aload_0 i_rd_takes_72 ?_
      have hs41 : c = 41 := e41.mp c_69
      refine ev_vi0 i_rd_takes_73 lk_rd_75 cb_rd_closes iv_rd_closes (r_rd_closes H1 (by omega)) h01 rfl (by decide) (Nat.le_of_ble_eq_true rfl) rfl rfl (fun v h2 hx => ?_)
      try dsimp only at hx
      by_cases z : 0 < o'
      · rw [if_pos z] at hx
        obtain ⟨rfl, H2, R2⟩ := hx
        refine ev_goto i_rd_takes_76 ?_
        refine ev_ireturn i_rd_takes_84 rfl rfl ?_
        refine ⟨_, rfl, Or.inl ⟨(o' - 1, 3, nm', mAtom (mAlso tm' X' o') (xAlso X' o') (13 + (o' - 1)) (2 + o'), xAtom (xAlso X' o') (13 + (o' - 1)) (2 + o')), ?_, rfl, H2, rfr_tr R1 R2⟩⟩
        unfold sSign
        rw [if_pos hs41, if_pos z]
      · rw [if_neg z] at hx
        obtain ⟨rfl, rfl⟩ := hx
        refine ev_goto i_rd_takes_76 ?_
        refine ev_ireturn i_rd_takes_84 rfl rfl ?_
        refine ⟨_, rfl, Or.inr ⟨?_, rfl, ⟨(o', st', nm', tm', X'), H1, okN⟩, R1⟩⟩
        unfold sSign
        rw [if_pos hs41, if_neg z]
  refine Rn_of (ls := [some (.ref a), some (.int (nI c)), some (.int (nI lic))]) rfl rfl (Nat.le_of_ble_eq_true rfl) rfl ?_
  refine ev_aload_0 i_rd_takes_0 ?_
  refine ev_get i_rd_takes_1 fl_rd_41 (by repeat (first | assumption | exact va_up_self _ _ _ | refine hu_ne (by first | assumption | exact Ne.symm (by assumption)) ?_)) rfl ?_
  refine ev_if_ne i_rd_takes_4 (fun c_4 => ?_) (fun c_4 => ?_)
  · refine ev_aload_0 i_rd_takes_27 ?_
    refine ev_get i_rd_takes_28 fl_rd_41 (by repeat (first | assumption | exact va_up_self _ _ _ | refine hu_ne (by first | assumption | exact Ne.symm (by assumption)) ?_)) rfl ?_
    refine ev_iconst (v := 2) i_rd_takes_31 (by decide) ?_
    refine ev_icmp_ne i_rd_takes_32 (fun c_32 => ?_) (fun c_32 => ?_)
    · refine ev_aload_0 i_rd_takes_41 ?_
      refine ev_get i_rd_takes_42 fl_rd_41 (by repeat (first | assumption | exact va_up_self _ _ _ | refine hu_ne (by first | assumption | exact Ne.symm (by assumption)) ?_)) rfl ?_
      refine ev_iconst (v := 1) i_rd_takes_45 (by decide) ?_
      refine ev_icmp_ne i_rd_takes_46 (fun c_46 => ?_) (fun c_46 => ?_)
      · exact tail c_4 c_32 (fun z => c_46 z.1)
      refine ev_iload_1 i_rd_takes_49 ?_
      refine ev_bipush (v := 94) i_rd_takes_50 (by decide) ?_
      refine ev_icmp_ne i_rd_takes_52 (fun c_52 => ?_) (fun c_52 => ?_)
      · exact tail c_4 c_32 (fun z => c_52 (e94.mpr z.2))
      refine ev_aload_0 i_rd_takes_55 ?_
      refine ev_iconst (v := 2) i_rd_takes_56 (by decide) ?_
      refine ev_put i_rd_takes_57 pl_rd_takes_41 (by repeat (first | assumption | exact va_up_self _ _ _ | refine hu_ne (by first | assumption | exact Ne.symm (by assumption)) ?_)) rfl rfl (Nat.le_of_ble_eq_true rfl) rfl ?_
      refine ev_iconst (v := 1) i_rd_takes_60 (by decide) ?_
      refine ev_ireturn i_rd_takes_61 rfl rfl ?_
      obtain ⟨H1, R1⟩ := rd_cell (len' := len) (opn' := opn) (nm' := nm) (st' := 2) (tm' := tm) H
      refine ⟨_, rfl, Or.inl ⟨(opn, 2, nm, tm, X), ?_, rfl, H1, R1⟩⟩
      unfold sTake
      rw [if_neg c_4, if_neg c_32, if_pos ⟨c_46, e94.mp c_52⟩]
    · have eT : sTake lic (opn, st, nm, tm, X) c = if 48 ≤ c ∧ c - 48 < 8 then some (opn, 3, nm, mAtom tm (xSet X (9 * nm + (c - 48) + 1)) (13 + opn) 0, xAtom (xSet X (9 * nm + (c - 48) + 1)) (13 + opn) 0) else none := by
        unfold sTake
        rw [if_neg c_4, if_pos c_32]
      rw [eT]
      refine ev_aload_0 i_rd_takes_35 ?_
      refine ev_iload_1 i_rd_takes_36 ?_
      refine ev_vi1 i_rd_takes_37 lk_rd_71 cb_rd_takesDigit iv_rd_takesDigit (r_rd_takesDigit H hc ho hnm) h0 rfl (by decide) (Nat.le_of_ble_eq_true rfl) rfl rfl (fun v h2 hx => ?_)
      try dsimp only at hx
      by_cases z : 48 ≤ c ∧ c - 48 < 8
      · rw [if_pos z] at hx ⊢
        obtain ⟨rfl, H2, R2⟩ := hx
        refine ev_ireturn i_rd_takes_40 rfl rfl ?_
        exact ⟨_, rfl, Or.inl ⟨_, rfl, rfl, H2, R2⟩⟩
      · rw [if_neg z] at hx ⊢
        obtain ⟨rfl, rfl⟩ := hx
        refine ev_ireturn i_rd_takes_40 rfl rfl ?_
        exact ⟨_, rfl, Or.inr ⟨rfl, rfl, ⟨(opn, st, nm, tm, X), H, ⟨ho, hnm, htm⟩⟩, rfr_rf⟩⟩
  · subst c_4
    refine ev_iload_1 i_rd_takes_7 ?_
    refine ev_bipush (v := 40) i_rd_takes_8 (by decide) ?_
    refine ev_icmp_ne i_rd_takes_10 (fun c_10 => ?_) (fun c_10 => ?_)
    · have eT : sTake lic (opn, 0, nm, tm, X) c = if 97 ≤ c ∧ c - 97 < lic then some (opn, 1, c - 97, tm, X) else none := by
        unfold sTake
        rw [if_pos rfl, if_neg (fun z => c_10 (e40.mpr z))]
      rw [eT]
      refine ev_aload_0 i_rd_takes_20 ?_
      refine ev_iload_1 i_rd_takes_21 ?_
      refine ev_iload_2 i_rd_takes_22 ?_
      refine ev_vi2 i_rd_takes_23 lk_rd_68 cb_rd_takesName iv_rd_takesName (r_rd_takesName H hc hl) h0 rfl (by decide) (Nat.le_of_ble_eq_true rfl) rfl rfl (fun v h2 hx => ?_)
      try dsimp only at hx
      by_cases z : 97 ≤ c ∧ c - 97 < lic
      · rw [if_pos z] at hx ⊢
        obtain ⟨rfl, H2, R2⟩ := hx
        refine ev_ireturn i_rd_takes_26 rfl rfl ?_
        exact ⟨_, rfl, Or.inl ⟨_, rfl, rfl, H2, R2⟩⟩
      · rw [if_neg z] at hx ⊢
        obtain ⟨rfl, rfl⟩ := hx
        refine ev_ireturn i_rd_takes_26 rfl rfl ?_
        exact ⟨_, rfl, Or.inr ⟨rfl, rfl, ⟨(opn, 0, nm, tm, X), H, ⟨ho, hnm, htm⟩⟩, rfr_rf⟩⟩
    · have eT : sTake lic (opn, 0, nm, tm, X) c = if opn < 10 then some (opn + 1, 0, nm, tm, va_up (va_up X (2 + (opn + 1)) []) (13 + (opn + 1)) []) else none := by
        unfold sTake
        rw [if_pos rfl, if_pos (e40.mp c_10)]
      rw [eT]
      refine ev_aload_0 i_rd_takes_13 ?_
      refine ev_vi0 i_rd_takes_14 lk_rd_64 cb_rd_opens iv_rd_opens (r_rd_opens H ho) h0 rfl (by decide) (Nat.le_of_ble_eq_true rfl) rfl rfl (fun v h2 hx => ?_)
      try dsimp only at hx
      by_cases z : opn < 10
      · rw [if_pos z] at hx ⊢
        obtain ⟨rfl, H2, R2⟩ := hx
        refine ev_goto i_rd_takes_17 ?_
        refine ev_ireturn i_rd_takes_26 rfl rfl ?_
        exact ⟨_, rfl, Or.inl ⟨_, rfl, rfl, H2, R2⟩⟩
      · rw [if_neg z] at hx ⊢
        obtain ⟨rfl, rfl⟩ := hx
        refine ev_goto i_rd_takes_17 ?_
        refine ev_ireturn i_rd_takes_26 rfl rfl ?_
        exact ⟨_, rfl, Or.inr ⟨rfl, rfl, ⟨(opn, 0, nm, tm, X), H, ⟨ho, hnm, htm⟩⟩, rfr_rf⟩⟩
end RD4
