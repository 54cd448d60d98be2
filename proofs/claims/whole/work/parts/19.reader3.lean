section RD3
variable {G : ev_G} {h : ev_H}
variable {a tx ea aa len opn nm : Nat} {fa fb : Nat → Nat} {st tm : Int32} {TX : Nat → Int32} {X : Nat → List T3}
/-- what endAlso makes of the rows -/
def xAlso (X : Nat → List T3) (o : Nat) : Nat → List T3 := va_up (va_up (va_up X 1 (jone (X (2 + o)) (X (13 + o)))) (2 + o) ((jone (X (2 + o)) (X (13 + o))).take 20)) (13 + o) []
def mAlso (tm : Int32) (X : Nat → List T3) (o : Nat) : Int32 := mny tm (jone (X (2 + o)) (X (13 + o)))
theorem r_rd_endAlso (H : rd_at G h a tx ea aa fa fb len opn st nm tm TX X) (ho : opn ≤ 10) :
    Rn G M_rd_endAlso 3 0 0 [.ref a] h (ev_qv fun h' => rd_at G h' a tx ea aa fa fb len opn st nm (mAlso tm X opn) TX (xAlso X opn) ∧ rfr a fa fb h h') := by
  obtain ⟨h0, h1, ⟨f2, h2, e2⟩, ⟨f3, h3, e3⟩, h4, h5, h6⟩ := id H
  obtain ⟨n0, B0, w1, w2, w3, w4⟩ := h4 1 (by omega)
  obtain ⟨n1, B1, t1, t2, t3, t4⟩ := h4 (13 + opn) (by omega)
  obtain ⟨n2, B2, u1, u2, u3, u4⟩ := h4 (2 + opn) (by omega)
  rw [rm_w] at w1 w2 w3
  rw [rm_2 (by omega)] at t1 t2 t3
  rw [rm_2 (by omega)] at u1 u2 u3
  have ht1 : fa (13 + opn) ≠ fa 1 := fun z => absurd (h5 _ _ (by omega) (by omega) z) (by omega)
  have hu1 : fa (2 + opn) ≠ fa 1 := fun z => absurd (h5 _ _ (by omega) (by omega) z) (by omega)
  have ht1b : fb (13 + opn) ≠ fb 1 := fun z => absurd (h6 _ _ (by omega) (by omega) z) (by omega)
  have hab1 : fa 1 ≠ fb 1 := hne_of w1 w2 (fun z => by cases z)
  have keep : ∀ (C : Nat → Int64) (q p : Nat) (e : va_E), h p = some e → p ≠ fa 1 → p ≠ fb 1 → va_up (va_up h (fb 1) (some (fo_b G 400 C))) (fa 1) (some (fo_c (fb 1) 400 q)) p = some e := fun C q p e hp k1 k2 => hu_ne k1 (hu_ne k2 hp)
  have k0 := fun C q => keep C q _ _ h0 (hne_of h0 w1 (fun z => by cases z)) (hne_of h0 w2 (fun z => by cases z))
  have kw1 : ∀ C q, va_up (va_up h (fb 1) (some (fo_b G 400 C))) (fa 1) (some (fo_c (fb 1) 400 q)) (fa 1) = some (fo_c (fb 1) 400 q) := fun C q => va_up_self _ _ _
  have kw2 : ∀ C q, va_up (va_up h (fb 1) (some (fo_b G 400 C))) (fa 1) (some (fo_c (fb 1) 400 q)) (fb 1) = some (fo_b G 400 C) := fun C q => hu_ne (Ne.symm hab1) (va_up_self _ _ _)
  have kt1 := fun C q => keep C q _ _ t1 ht1 (hne_of t1 w2 (fun z => by cases z))
  have kt2 := fun C q => keep C q _ _ t2 (Ne.symm (hne_of w1 t2 (fun z => by cases z))) ht1b
  have kk : ∀ C q C' q', va_up (va_up (va_up (va_up h (fb 1) (some (fo_b G 400 C))) (fa 1) (some (fo_c (fb 1) 400 q))) (fb 1) (some (fo_b G 400 C'))) (fa 1) (some (fo_c (fb 1) 400 q')) = va_up (va_up h (fb 1) (some (fo_b G 400 C'))) (fa 1) (some (fo_c (fb 1) 400 q')) := fun C q C' q' => by
    rw [hu_comm hab1, hu_uu, hu_uu]
  refine Rn_of (ls := [some (.ref a), none, none, none]) rfl rfl (Nat.le_of_ble_eq_true rfl) rfl ?_
  refine ev_aload_0 i_rd_endAlso_0 ?_
  refine ev_get i_rd_endAlso_1 fl_rd_17 (by repeat (first | assumption | exact va_up_self _ _ _ | refine hu_ne (by first | assumption | exact Ne.symm (by assumption)) ?_)) rfl ?_
  refine ev_aload_0 i_rd_endAlso_4 ?_
  refine ev_get i_rd_endAlso_5 fl_rd_38 (by repeat (first | assumption | exact va_up_self _ _ _ | refine hu_ne (by first | assumption | exact Ne.symm (by assumption)) ?_)) rfl ?_
  refine ev_aaload i_rd_endAlso_8 ty_form (by repeat (first | assumption | exact va_up_self _ _ _ | refine hu_ne (by first | assumption | exact Ne.symm (by assumption)) ?_)) (j := opn) rfl (by omega) (by omega) ?_
  rw [e2 opn (by omega)]
  refine ev_astore_1 i_rd_endAlso_9 rfl ?_
  refine ev_aload_0 i_rd_endAlso_10 ?_
  refine ev_get i_rd_endAlso_11 fl_rd_21 (by repeat (first | assumption | exact va_up_self _ _ _ | refine hu_ne (by first | assumption | exact Ne.symm (by assumption)) ?_)) rfl ?_
  refine ev_aload_0 i_rd_endAlso_14 ?_
  refine ev_get i_rd_endAlso_15 fl_rd_38 (by repeat (first | assumption | exact va_up_self _ _ _ | refine hu_ne (by first | assumption | exact Ne.symm (by assumption)) ?_)) rfl ?_
  refine ev_aaload i_rd_endAlso_18 ty_form (by repeat (first | assumption | exact va_up_self _ _ _ | refine hu_ne (by first | assumption | exact Ne.symm (by assumption)) ?_)) (j := opn) rfl (by omega) (by omega) ?_
  rw [e3 opn (by omega)]
  refine ev_astore_2 i_rd_endAlso_19 rfl ?_
  refine ev_aload_0 i_rd_endAlso_20 ?_
  refine ev_get i_rd_endAlso_21 fl_rd_31 (by repeat (first | assumption | exact va_up_self _ _ _ | refine hu_ne (by first | assumption | exact Ne.symm (by assumption)) ?_)) rfl ?_
  refine ev_aload_1 i_rd_endAlso_24 ?_
  refine ev_vv1 i_rd_endAlso_25 lk_rd_95 cb_fo_copyFrom iv_fo_copyFrom (r_fo_copyFrom w1 w2 (by omega) u1 u2 (by omega) u3 hu1) w1 rfl (by decide) (Nat.le_of_ble_eq_true rfl) rfl rfl (fun h2 hq => ?_)
  obtain ⟨C0, rfl, hC0⟩ := hq
  have hl0 : li (min n2 400) C0 = X (2 + opn) := by
    rw [hC0, List.take_of_length_le (by rw [li_len]; omega), u4]
  refine ev_iconst (v := 0) i_rd_endAlso_28 (by decide) ?_
  refine ev_istore_3 i_rd_endAlso_29 rfl ?_
  have loop : ∀ (m i : Nat) (C : Nat → Int64) (q : Nat), i + m = n1 → q ≤ 400 → li q C = jone (X (2 + opn)) (li i B1) → Ev G M_rd_endAlso 3 0 0 (ev_qv fun h' => rd_at G h' a tx ea aa fa fb len opn st nm (mAlso tm X opn) TX (xAlso X opn) ∧ rfr a fa fb h h') 30 [some (.ref a), some (.ref (fa (2 + opn))), some (.ref (fa (13 + opn))), some (.int (nI i))] [] (va_up (va_up h (fb 1) (some (fo_b G 400 C))) (fa 1) (some (fo_c (fb 1) 400 q))) := by
    intro m
    induction m with
    | zero =>
      intro i C q hi hq hl
      obtain rfl : i = n1 := by omega
      rw [t4] at hl
      refine ev_iload_3 i_rd_endAlso_30 ?_
      refine ev_aload_2 i_rd_endAlso_31 ?_
      refine ev_vi0 i_rd_endAlso_32 lk_rd_91 cb_fo_size iv_fo_size (r_fo_size (kt1 C q)) (kt1 C q) rfl (by decide) (Nat.le_of_ble_eq_true rfl) rfl rfl (fun x h3 hx => ?_)
      obtain ⟨rfl, rfl⟩ := hx
      refine ev_icmp_ge i_rd_endAlso_35 (fun c_35 => ?_) (fun c_35 => ?_)
      rotate_left
      · exact absurd (nI_le (Nat.le_refl _) (by omega)) c_35
      obtain ⟨H2, R2⟩ := rd_form (C := C) (q := q) (Y := jone (X (2 + opn)) (X (13 + opn))) H (show 1 < 24 by omega) (by rw [rm_w]; exact hq) hl
      rw [rm_w] at H2 R2
      refine ev_aload_0 i_rd_endAlso_55 ?_
      refine ev_aload_1 i_rd_endAlso_56 ?_
      refine ev_vv1 i_rd_endAlso_57 lk_rd_102 cb_rd_keepWork iv_rd_keepWork (r_rd_keepWork H2 (show 2 ≤ 2 + opn by omega) (by omega)) (k0 C q) rfl (by decide) (Nat.le_of_ble_eq_true rfl) rfl rfl (fun h3 hx => ?_)
      obtain ⟨H3, R3⟩ := hx
      rw [va_up_self] at H3
      obtain ⟨n5, B5, y1, y2, y3, y4⟩ := H3.2.2.2.2.1 (13 + opn) (by omega)
      refine ev_aload_2 i_rd_endAlso_60 ?_
      refine ev_vv0 i_rd_endAlso_61 lk_rd_88 cb_fo_clear iv_fo_clear (r_fo_clear y1) y1 rfl (by decide) (Nat.le_of_ble_eq_true rfl) rfl rfl (fun h4 hx => ?_)
      subst hx
      obtain ⟨H4, R4⟩ := rd_form (C := B5) (q := 0) (Y := []) H3 (show 13 + opn < 24 by omega) (Nat.zero_le _) rfl
      rw [hu_self y2] at H4 R4
      refine ev_return i_rd_endAlso_64 rfl ?_
      exact ⟨rfl, H4, rfr_tr R2 (rfr_tr R3 R4)⟩
    | succ m ih =>
      intro i C q hi hq hl
      refine ev_iload_3 i_rd_endAlso_30 ?_
      refine ev_aload_2 i_rd_endAlso_31 ?_
      refine ev_vi0 i_rd_endAlso_32 lk_rd_91 cb_fo_size iv_fo_size (r_fo_size (kt1 C q)) (kt1 C q) rfl (by decide) (Nat.le_of_ble_eq_true rfl) rfl rfl (fun x h3 hx => ?_)
      obtain ⟨rfl, rfl⟩ := hx
      refine ev_icmp_ge i_rd_endAlso_35 (fun c_35 => ?_) (fun c_35 => ?_)
      · exact absurd c_35 (nI_ge (by omega) (by omega))
      refine ev_aload_0 i_rd_endAlso_38 ?_
      refine ev_get i_rd_endAlso_39 fl_rd_31 (k0 C q) rfl ?_
      refine ev_aload_2 i_rd_endAlso_42 ?_
      refine ev_iload_3 i_rd_endAlso_43 ?_
      refine ev_aload_2 i_rd_endAlso_44 ?_
      refine ev_iload_3 i_rd_endAlso_45 ?_
      refine ev_vv4 i_rd_endAlso_46 lk_rd_98 cb_fo_addJoined iv_fo_addJoined (r_fo_addJoined (kw1 C q) (kw2 C q) (by omega) hq (kt1 C q) (kt2 C q) (by omega) t3 (show i < n1 by omega) (kt1 C q) (kt2 C q) (by omega) t3 (show i < n1 by omega)) (kw1 C q) rfl (by decide) (Nat.le_of_ble_eq_true rfl) rfl rfl (fun h3 hx => ?_)
      obtain ⟨C', q', rfl, hq', hl'⟩ := hx
      rw [kk]
      refine ev_iinc_3 i_rd_endAlso_49 (nI_1 i) rfl ?_
      refine ev_goto i_rd_endAlso_52 ?_
      exact ih (i + 1) C' q' (by omega) hq' (by rw [hl', hl, jone_s])
  exact loop n1 0 C0 (min n2 400) (by omega) (by omega) hl0
/-- an atom comes: its row is at place w -/
theorem nI_9 {k : Nat} : nI k * 9 = nI (9 * k) := by rw [show (9 : Int32) = nI 9 from rfl, pk_mul, Nat.mul_comm]
def xSet (X : Nat → List T3) (c : Nat) : Nat → List T3 := va_up X 0 [t3of c]
theorem rd_setOnly {c : Nat} (H : rd_at G h a tx ea aa fa fb len opn st nm tm TX X) (hc : c < 192) : Rn G M_fo_setOnly 0 0 0 [.ref (fa 0), .int (nI c)] h (ev_qv fun h' => rd_at G h' a tx ea aa fa fb len opn st nm tm TX (xSet X c) ∧ rfr a fa fb h h') := by
  obtain ⟨n0, B0, w1, w2, w3, w4⟩ := H.2.2.2.2.1 0 (by omega)
  have := r_fo_setOnly (c := c) w1 w2 (by decide) (by decide) hc
  refine Rn_mono (fun v h' hq => ?_) this
  obtain ⟨e, C, rfl, hC⟩ := hq
  obtain ⟨H2, R2⟩ := rd_form (C := C) (q := 1) (Y := [t3of c]) H (show 0 < 24 by omega) (by decide) hC
  exact ⟨e, H2, R2⟩
theorem r_rd_endName (H : rd_at G h a tx ea aa fa fb len opn st nm tm TX X) (ho : opn ≤ 10) (hnm : nm < 16) :
    Rn G M_rd_endName 4 0 0 [.ref a] h (ev_qv fun h' => if st = 1 then rd_at G h' a tx ea aa fa fb len opn 3 nm (mAtom tm (xSet X (9 * nm)) (13 + opn) 0) TX (xAtom (xSet X (9 * nm)) (13 + opn) 0) ∧ rfr a fa fb h h' else h' = h) := by
  have h0 := H.1
  obtain ⟨n0, B0, w1, w2, w3, w4⟩ := H.2.2.2.2.1 0 (by omega)
  refine Rn_of (ls := [some (.ref a)]) rfl rfl (Nat.le_of_ble_eq_true rfl) rfl ?_
  refine ev_aload_0 i_rd_endName_0 ?_
  refine ev_get i_rd_endName_1 fl_rd_41 (by repeat (first | assumption | exact va_up_self _ _ _ | refine hu_ne (by first | assumption | exact Ne.symm (by assumption)) ?_)) rfl ?_
  refine ev_iconst (v := 1) i_rd_endName_4 (by decide) ?_
  refine ev_icmp_ne i_rd_endName_5 (fun c_5 => ?_) (fun c_5 => ?_)
  · refine ev_return i_rd_endName_30 rfl ?_
    exact ⟨rfl, by dsimp only; rw [if_neg c_5]⟩
  refine ev_aload_0 i_rd_endName_8 ?_
  refine ev_get i_rd_endName_9 fl_rd_27 (by repeat (first | assumption | exact va_up_self _ _ _ | refine hu_ne (by first | assumption | exact Ne.symm (by assumption)) ?_)) rfl ?_
  refine ev_aload_0 i_rd_endName_12 ?_
  refine ev_get i_rd_endName_13 fl_rd_44 (by repeat (first | assumption | exact va_up_self _ _ _ | refine hu_ne (by first | assumption | exact Ne.symm (by assumption)) ?_)) rfl ?_
  refine ev_bipush (v := 9) i_rd_endName_16 (by decide) ?_
  refine ev_imul i_rd_endName_18 ?_
  refine ev_top nI_9 ?_
  refine ev_vv1 i_rd_endName_19 lk_rd_81 cb_fo_setOnly iv_fo_setOnly (rd_setOnly H (show 9 * nm < 192 by omega)) w1 rfl (by decide) (Nat.le_of_ble_eq_true rfl) rfl rfl (fun h1 hx => ?_)
  obtain ⟨H1, R1⟩ := hx
  have h01 := H1.1
  refine ev_aload_0 i_rd_endName_22 ?_
  refine ev_aload_0 i_rd_endName_23 ?_
  refine ev_get i_rd_endName_24 fl_rd_27 (by repeat (first | assumption | exact va_up_self _ _ _ | refine hu_ne (by first | assumption | exact Ne.symm (by assumption)) ?_)) rfl ?_
  refine ev_vv1 i_rd_endName_27 lk_rd_84 cb_rd_endAtom iv_rd_endAtom (r_rd_endAtom H1 ho (show 0 < 24 by omega) (by omega) (by omega)) h01 rfl (by decide) (Nat.le_of_ble_eq_true rfl) rfl rfl (fun h2 hx => ?_)
  obtain ⟨H2, R2⟩ := hx
  refine ev_return i_rd_endName_30 rfl ?_
  refine ⟨rfl, ?_⟩
  dsimp only
  rw [if_pos c_5]
  exact ⟨H2, rfr_tr R1 R2⟩
theorem r_rd_opens (H : rd_at G h a tx ea aa fa fb len opn st nm tm TX X) (ho : opn ≤ 10) :
    Rn G M_rd_opens 2 0 0 [.ref a] h (ev_qi fun v h' => if opn < 10 then v = 1 ∧ rd_at G h' a tx ea aa fa fb len (opn + 1) st nm tm TX (va_up (va_up X (2 + (opn + 1)) []) (13 + (opn + 1)) []) ∧ rfr a fa fb h h' else v = 0 ∧ h' = h) := by
  have h0 := H.1
  refine Rn_of (ls := [some (.ref a)]) rfl rfl (Nat.le_of_ble_eq_true rfl) rfl ?_
  refine ev_aload_0 i_rd_opens_0 ?_
  refine ev_get i_rd_opens_1 fl_rd_38 (by repeat (first | assumption | exact va_up_self _ _ _ | refine hu_ne (by first | assumption | exact Ne.symm (by assumption)) ?_)) rfl ?_
  refine ev_bipush (v := 10) i_rd_opens_4 (by decide) ?_
  refine ev_icmp_lt i_rd_opens_6 (fun c_6 => ?_) (fun c_6 => ?_)
  rotate_left
  · have : ¬ opn < 10 := fun z => c_6 (show nI opn < nI 10 from nI_lt z (by omega))
    refine ev_iconst (v := 0) i_rd_opens_9 (by decide) ?_
    refine ev_ireturn i_rd_opens_10 rfl rfl ?_
    exact ⟨_, rfl, by dsimp only; rw [if_neg this]; exact ⟨rfl, rfl⟩⟩
  have hlt : opn < 10 := (nI_ltI (by omega) (by omega)).mp (show nI opn < nI 10 from c_6)
  refine ev_aload_0 i_rd_opens_11 ?_
  refine ev_dup i_rd_opens_12 rfl ?_
  refine ev_get i_rd_opens_13 fl_rd_38 (by repeat (first | assumption | exact va_up_self _ _ _ | refine hu_ne (by first | assumption | exact Ne.symm (by assumption)) ?_)) rfl ?_
  refine ev_iconst (v := 1) i_rd_opens_16 (by decide) ?_
  refine ev_iadd i_rd_opens_17 ?_
  refine ev_top (nI_1 opn) ?_
  refine ev_put i_rd_opens_18 pl_rd_opens_38 (by repeat (first | assumption | exact va_up_self _ _ _ | refine hu_ne (by first | assumption | exact Ne.symm (by assumption)) ?_)) rfl rfl (Nat.le_of_ble_eq_true rfl) rfl ?_
  refine ev_aload_0 i_rd_opens_21 ?_
  obtain ⟨H1, R1⟩ := rd_cell (len' := len) (opn' := opn + 1) (nm' := nm) (st' := st) (tm' := tm) H
  refine ev_vv0 i_rd_opens_22 lk_rd_51 cb_rd_startLevel iv_rd_startLevel (r_rd_startLevel H1 (by omega)) H1.1 rfl (by decide) (Nat.le_of_ble_eq_true rfl) rfl rfl (fun h2 hx => ?_)
  obtain ⟨H2, R2⟩ := hx
  refine ev_iconst (v := 1) i_rd_opens_25 (by decide) ?_
  refine ev_ireturn i_rd_opens_26 rfl rfl ?_
  exact ⟨_, rfl, by dsimp only; rw [if_pos hlt]; exact ⟨rfl, H2, rfr_tr R1 R2⟩⟩
theorem r_rd_closes (H : rd_at G h a tx ea aa fa fb len opn st nm tm TX X) (ho : opn ≤ 10) :
    Rn G M_rd_closes 4 0 0 [.ref a] h (ev_qi fun v h' => if 0 < opn then v = 1 ∧ rd_at G h' a tx ea aa fa fb len (opn - 1) 3 nm (mAtom (mAlso tm X opn) (xAlso X opn) (13 + (opn - 1)) (2 + opn)) TX (xAtom (xAlso X opn) (13 + (opn - 1)) (2 + opn)) ∧ rfr a fa fb h h' else v = 0 ∧ h' = h) := by
  have h0 := H.1
  refine Rn_of (ls := [some (.ref a)]) rfl rfl (Nat.le_of_ble_eq_true rfl) rfl ?_
  refine ev_aload_0 i_rd_closes_0 ?_
  refine ev_get i_rd_closes_1 fl_rd_38 (by repeat (first | assumption | exact va_up_self _ _ _ | refine hu_ne (by first | assumption | exact Ne.symm (by assumption)) ?_)) rfl ?_
  refine ev_if_gt i_rd_closes_4 (fun c_4 => ?_) (fun c_4 => ?_)
  rotate_left
  · have : ¬ 0 < opn := fun z => c_4 (nI_lt z (by omega) : nI 0 < nI opn)
    refine ev_iconst (v := 0) i_rd_closes_7 (by decide) ?_
    refine ev_ireturn i_rd_closes_8 rfl rfl ?_
    exact ⟨_, rfl, by dsimp only; rw [if_neg this]; exact ⟨rfl, rfl⟩⟩
  have hpos : 0 < opn := (nI_ltI (by omega) (by omega)).mp (show nI 0 < nI opn from c_4)
  refine ev_aload_0 i_rd_closes_9 ?_
  refine ev_vv0 i_rd_closes_10 lk_rd_61 cb_rd_endAlso iv_rd_endAlso (r_rd_endAlso H ho) h0 rfl (by decide) (Nat.le_of_ble_eq_true rfl) rfl rfl (fun h1 hx => ?_)
  obtain ⟨H1, R1⟩ := hx
  have h01 := H1.1
  obtain ⟨o, rfl⟩ : ∃ o, opn = o + 1 := ⟨opn - 1, by omega⟩
  rw [Nat.add_sub_cancel]
  refine ev_aload_0 i_rd_closes_13 ?_
  refine ev_dup i_rd_closes_14 rfl ?_
  refine ev_get i_rd_closes_15 fl_rd_38 (by repeat (first | assumption | exact va_up_self _ _ _ | refine hu_ne (by first | assumption | exact Ne.symm (by assumption)) ?_)) rfl ?_
  refine ev_iconst (v := 1) i_rd_closes_18 (by decide) ?_
  refine ev_isub i_rd_closes_19 ?_
  refine ev_top (nI_pred o) ?_
  obtain ⟨H2, R2⟩ := rd_cell (len' := len) (opn' := o) (nm' := nm) (st' := st) (tm' := mAlso tm X (o + 1)) H1
  refine ev_put i_rd_closes_20 pl_rd_closes_38 (by repeat (first | assumption | exact va_up_self _ _ _ | refine hu_ne (by first | assumption | exact Ne.symm (by assumption)) ?_)) rfl rfl (Nat.le_of_ble_eq_true rfl) rfl ?_
  show Ev G M_rd_closes 4 0 0 _ _ _ _ (va_up h1 a (some (rd_c tx ea aa (fa 0) (fa 1) len o st nm (mAlso tm X (o + 1)))))
  generalize va_up h1 a (some (rd_c tx ea aa (fa 0) (fa 1) len o st nm (mAlso tm X (o + 1)))) = g at H2 R2 ⊢
  obtain ⟨k0, k1, ⟨f2, k2, e2⟩, -⟩ := id H2
  refine ev_aload_0 i_rd_closes_23 ?_
  refine ev_aload_0 i_rd_closes_24 ?_
  refine ev_get i_rd_closes_25 fl_rd_17 (by repeat (first | assumption | exact va_up_self _ _ _ | refine hu_ne (by first | assumption | exact Ne.symm (by assumption)) ?_)) rfl ?_
  refine ev_aload_0 i_rd_closes_28 ?_
  refine ev_get i_rd_closes_29 fl_rd_38 (by repeat (first | assumption | exact va_up_self _ _ _ | refine hu_ne (by first | assumption | exact Ne.symm (by assumption)) ?_)) rfl ?_
  refine ev_iconst (v := 1) i_rd_closes_32 (by decide) ?_
  refine ev_iadd i_rd_closes_33 ?_
  refine ev_aaload i_rd_closes_34 ty_form (by repeat (first | assumption | exact va_up_self _ _ _ | refine hu_ne (by first | assumption | exact Ne.symm (by assumption)) ?_)) (j := o + 1) (nI_1 o) (by omega) (by omega) ?_
  rw [e2 (o + 1) (by omega)]
  refine ev_vv1 i_rd_closes_35 lk_rd_84 cb_rd_endAtom iv_rd_endAtom (r_rd_endAtom H2 (by omega) (show 2 + (o + 1) < 24 by omega) (by omega) (by omega)) k0 rfl (by decide) (Nat.le_of_ble_eq_true rfl) rfl rfl (fun h2 hx => ?_)
  obtain ⟨H3, R3⟩ := hx
  refine ev_iconst (v := 1) i_rd_closes_38 (by decide) ?_
  refine ev_ireturn i_rd_closes_39 rfl rfl ?_
  exact ⟨_, rfl, by dsimp only; rw [if_pos (Nat.succ_pos o)]; exact ⟨rfl, H3, rfr_tr R1 (rfr_tr R2 R3)⟩⟩
end RD3
