section RD
variable {G : ev_G} {h : ev_H}
abbrev rd_c (tx ea aa f0 f1 len opn : Nat) (st : Int32) (nm : Nat) (tm : Int32) : va_E := .inr (2, [.ref tx, .ref ea, .ref aa, .ref f0, .ref f1, .int (nI len), .int (nI opn), .int st, .int (nI nm), .int tm])
abbrev aC (G : ev_G) (n : Nat) (f : Nat → Int32) : va_E := .inl (G.2 2, n, .inl f)
abbrev aF (G : ev_G) (n : Nat) (f : Nat → Option Nat) : va_E := .inl (G.2 4, n, .inr (.inr (.inr (.inr f))))
/-- a form holds a row of choices -/
def fm_at (G : ev_G) (h : ev_H) (a b r : Nat) (X : List T3) : Prop := ∃ (n : Nat) (B : Nat → Int64), h a = some (fo_c b r n) ∧ h b = some (fo_b G r B) ∧ n ≤ r ∧ li n B = X
/-- the reader's forms: 0 the atom, 1 the work, 2 .. 12 the eithers, 13 .. 23 the alsos -/
def rm (t : Nat) : Nat := if t = 0 then 1 else if t = 1 then 400 else 20
theorem rm_1 (t : Nat) : 1 ≤ rm t ∧ rm t ≤ 400 := by unfold rm; split; omega; split <;> omega
def rd_at (G : ev_G) (h : ev_H) (a tx ea aa : Nat) (fa fb : Nat → Nat) (len opn : Nat) (st : Int32) (nm : Nat) (tm : Int32) (TX : Nat → Int32) (X : Nat → List T3) : Prop :=
  h a = some (rd_c tx ea aa (fa 0) (fa 1) len opn st nm tm) ∧ h tx = some (aC G 60 TX) ∧ (∃ f : Nat → Option Nat, h ea = some (aF G 11 f) ∧ ∀ i, i < 11 → f i = some (fa (2 + i))) ∧ (∃ f : Nat → Option Nat, h aa = some (aF G 11 f) ∧ ∀ i, i < 11 → f i = some (fa (13 + i))) ∧
  (∀ t, t < 24 → fm_at G h (fa t) (fb t) (rm t) (X t)) ∧ (∀ t u, t < 24 → u < 24 → fa t = fa u → t = u) ∧ (∀ t u, t < 24 → u < 24 → fb t = fb u → t = u)
/-- what isn't the reader's stays -/
def rfr (a : Nat) (fa fb : Nat → Nat) (h h' : ev_H) : Prop := ∀ q : Nat, q ≠ a → (∀ t, t < 24 → q ≠ fa t ∧ q ≠ fb t) → h' q = h q
theorem rfr_rf {a : Nat} {fa fb : Nat → Nat} : rfr a fa fb h h := fun _ _ _ => rfl
theorem rfr_tr {a : Nat} {fa fb : Nat → Nat} {h1 h2 : ev_H} (p : rfr a fa fb h h1) (q : rfr a fa fb h1 h2) : rfr a fa fb h h2 := fun x k1 k2 => (q x k1 k2).trans (p x k1 k2)
theorem al_ne2 {x y : ClassId × vp_A} (h : x.2.2 ≠ y.2.2) : (Sum.inl x : va_E) ≠ Sum.inl y := fun e => h (by rw [Sum.inl.inj e])
theorem hne_of {h : ev_H} {p q : Nat} {e1 e2 : va_E} (h1 : h p = some e1) (h2 : h q = some e2) (hn : e1 ≠ e2) : p ≠ q := fun e => hn (by subst e; rw [h1] at h2; exact Option.some.inj h2)
/-- a form of the reader gets another row -/
theorem rd_form {a tx ea aa len opn nm t q : Nat} {fa fb : Nat → Nat} {st tm : Int32} {TX : Nat → Int32} {X : Nat → List T3} {C : Nat → Int64} {Y : List T3} (H : rd_at G h a tx ea aa fa fb len opn st nm tm TX X) (ht : t < 24) (hq : q ≤ rm t) (hl : li q C = Y) :
    rd_at G (va_up (va_up h (fb t) (some (fo_b G (rm t) C))) (fa t) (some (fo_c (fb t) (rm t) q))) a tx ea aa fa fb len opn st nm tm TX (va_up X t Y) ∧ rfr a fa fb h (va_up (va_up h (fb t) (some (fo_b G (rm t) C))) (fa t) (some (fo_c (fb t) (rm t) q))) := by
  obtain ⟨h0, h1, ⟨f2, h2, e2⟩, ⟨f3, h3, e3⟩, h4, h5, h6⟩ := H
  obtain ⟨n, B, g1, g2, g3, g4⟩ := h4 t ht
  have keep : ∀ (p : Nat) (e : va_E), h p = some e → p ≠ fa t → p ≠ fb t → va_up (va_up h (fb t) (some (fo_b G (rm t) C))) (fa t) (some (fo_c (fb t) (rm t) q)) p = some e := fun p e hp k1 k2 => hu_ne k1 (hu_ne k2 hp)
  refine ⟨⟨keep _ _ h0 (hne_of h0 g1 (fun z => by cases z)) (hne_of h0 g2 (fun z => by cases z)), keep _ _ h1 (hne_of h1 g1 (fun z => by cases z)) (hne_of h1 g2 (al_ne2 (fun z => by cases z))), ⟨f2, keep _ _ h2 (hne_of h2 g1 (fun z => by cases z)) (hne_of h2 g2 (al_ne2 (fun z => by cases z))), e2⟩, ⟨f3, keep _ _ h3 (hne_of h3 g1 (fun z => by cases z)) (hne_of h3 g2 (al_ne2 (fun z => by cases z))), e3⟩, fun u hu => ?_, h5, h6⟩, fun p k1 k2 => ?_⟩
  · by_cases e : u = t
    · subst e
      exact ⟨q, C, va_up_self _ _ _, hu_ne (Ne.symm (hne_of g1 g2 (fun z => by cases z))) (va_up_self _ _ _), hq, by rw [va_up_self]; exact hl⟩
    · obtain ⟨n', B', g1', g2', g3', g4'⟩ := h4 u hu
      refine ⟨n', B', keep _ _ g1' (fun z => e (h5 u t hu ht z)) (hne_of g1' g2 (fun z => by cases z)), keep _ _ g2' (Ne.symm (hne_of g1 g2' (fun z => by cases z))) (fun z => e (h6 u t hu ht z)), g3', by rw [va_up_ne _ _ e]; exact g4'⟩
  · rw [va_up_ne _ _ (k2 t ht).1, va_up_ne _ _ (k2 t ht).2]
/-- the reader's own cell gets other numbers -/
theorem rd_cell {a tx ea aa len opn nm len' opn' nm' : Nat} {fa fb : Nat → Nat} {st tm st' tm' : Int32} {TX : Nat → Int32} {X : Nat → List T3} (H : rd_at G h a tx ea aa fa fb len opn st nm tm TX X) :
    rd_at G (va_up h a (some (rd_c tx ea aa (fa 0) (fa 1) len' opn' st' nm' tm'))) a tx ea aa fa fb len' opn' st' nm' tm' TX X ∧ rfr a fa fb h (va_up h a (some (rd_c tx ea aa (fa 0) (fa 1) len' opn' st' nm' tm'))) := by
  obtain ⟨h0, h1, ⟨f2, h2, e2⟩, ⟨f3, h3, e3⟩, h4, h5, h6⟩ := H
  refine ⟨⟨va_up_self _ _ _, hu_ne (Ne.symm (hne_of h0 h1 (fun z => by cases z))) h1, ⟨f2, hu_ne (Ne.symm (hne_of h0 h2 (fun z => by cases z))) h2, e2⟩, ⟨f3, hu_ne (Ne.symm (hne_of h0 h3 (fun z => by cases z))) h3, e3⟩, fun u hu => ?_, h5, h6⟩, fun p k1 k2 => va_up_ne _ _ k1⟩
  obtain ⟨n', B', g1', g2', g3', g4'⟩ := h4 u hu
  exact ⟨n', B', hu_ne (Ne.symm (hne_of h0 g1' (fun z => by cases z))) g1', hu_ne (Ne.symm (hne_of h0 g2' (fun z => by cases z))) g2', g3', g4'⟩
variable {a tx ea aa len opn nm : Nat} {fa fb : Nat → Nat} {st tm : Int32} {TX : Nat → Int32} {X : Nat → List T3}
theorem r_rd_append {c : Nat} (H : rd_at G h a tx ea aa fa fb len opn st nm tm TX X) (hc : c < 65536) (hlen : len ≤ 60) :
    Rn G M_rd_append 0 0 0 [.ref a, .int (nI c)] h (ev_qi fun v h' => (32 ≤ c ∧ c ≤ 126 ∧ len < 60 ∧ v = 1 ∧ h' = va_up (va_up h tx (some (aC G 60 (upd TX len (nI c))))) a (some (rd_c tx ea aa (fa 0) (fa 1) (len + 1) opn st nm tm))) ∨ (¬ (32 ≤ c ∧ c ≤ 126 ∧ len < 60) ∧ v = 0 ∧ h' = h)) := by
  obtain ⟨h0, h1, -⟩ := H
  have nat : a ≠ tx := hne_of h0 h1 (fun z => by cases z)
  refine Rn_of (ls := [some (.ref a), some (.int (nI c))]) rfl rfl (Nat.le_of_ble_eq_true rfl) rfl ?_
  refine ev_iload_1 i_rd_append_0 ?_
  refine ev_bipush (v := 32) i_rd_append_1 (by decide) ?_
  refine ev_icmp_lt i_rd_append_3 (fun c_3 => ?_) (fun c_3 => ?_)
  · have : c < 32 := (nI_ltI (by omega) (by omega)).mp (show nI c < nI 32 from c_3)
    refine ev_iconst (v := 0) i_rd_append_21 (by decide) ?_
    refine ev_ireturn i_rd_append_22 rfl rfl ?_
    exact ⟨_, rfl, Or.inr ⟨by omega, rfl, rfl⟩⟩
  have k1 : 32 ≤ c := by
    rcases Nat.lt_or_ge c 32 with z | z
    · exact absurd (show nI c < nI 32 from nI_lt z (by omega)) c_3
    · exact z
  refine ev_iload_1 i_rd_append_6 ?_
  refine ev_bipush (v := 126) i_rd_append_7 (by decide) ?_
  refine ev_icmp_gt i_rd_append_9 (fun c_9 => ?_) (fun c_9 => ?_)
  · have : 126 < c := (nI_ltI (by omega) (by omega)).mp (show nI 126 < nI c from c_9)
    refine ev_iconst (v := 0) i_rd_append_21 (by decide) ?_
    refine ev_ireturn i_rd_append_22 rfl rfl ?_
    exact ⟨_, rfl, Or.inr ⟨by omega, rfl, rfl⟩⟩
  have k2 : c ≤ 126 := by
    rcases Nat.lt_or_ge 126 c with z | z
    · exact absurd (show nI 126 < nI c from nI_lt z (by omega)) c_9
    · exact z
  refine ev_aload_0 i_rd_append_12 ?_
  refine ev_get i_rd_append_13 fl_rd_34 (by repeat (first | assumption | exact va_up_self _ _ _ | refine hu_ne (by first | assumption | exact Ne.symm (by assumption)) ?_)) rfl ?_
  refine ev_bipush (v := 60) i_rd_append_16 (by decide) ?_
  refine ev_icmp_lt i_rd_append_18 (fun c_18 => ?_) (fun c_18 => ?_)
  rotate_left
  · have : ¬ len < 60 := fun z => c_18 (show nI len < nI 60 from nI_lt z (by omega))
    refine ev_iconst (v := 0) i_rd_append_21 (by decide) ?_
    refine ev_ireturn i_rd_append_22 rfl rfl ?_
    exact ⟨_, rfl, Or.inr ⟨by omega, rfl, rfl⟩⟩
  have k3 : len < 60 := (nI_ltI (by omega) (by omega)).mp (show nI len < nI 60 from c_18)
  have hnar : vp_nar .char (nI c) = nI c := by
    unfold vp_nar
    rw [(pk_charN hc).1]
  refine ev_aload_0 i_rd_append_23 ?_
  refine ev_get i_rd_append_24 fl_rd_9 (by repeat (first | assumption | exact va_up_self _ _ _ | refine hu_ne (by first | assumption | exact Ne.symm (by assumption)) ?_)) rfl ?_
  refine ev_aload_0 i_rd_append_27 ?_
  refine ev_get i_rd_append_28 fl_rd_34 (by repeat (first | assumption | exact va_up_self _ _ _ | refine hu_ne (by first | assumption | exact Ne.symm (by assumption)) ?_)) rfl ?_
  refine ev_iload_1 i_rd_append_31 ?_
  refine ev_castore i_rd_append_32 ty_char (by repeat (first | assumption | exact va_up_self _ _ _ | refine hu_ne (by first | assumption | exact Ne.symm (by assumption)) ?_)) (j := len) rfl (by omega) (by omega) ?_
  rw [hnar]
  refine ev_aload_0 i_rd_append_33 ?_
  refine ev_dup i_rd_append_34 rfl ?_
  refine ev_get i_rd_append_35 fl_rd_34 (by repeat (first | assumption | exact va_up_self _ _ _ | refine hu_ne (by first | assumption | exact Ne.symm (by assumption)) ?_)) rfl ?_
  refine ev_iconst (v := 1) i_rd_append_38 (by decide) ?_
  refine ev_iadd i_rd_append_39 ?_
  refine ev_top (nI_1 len) ?_
  refine ev_put i_rd_append_40 pl_rd_append_34 (by repeat (first | assumption | exact va_up_self _ _ _ | refine hu_ne (by first | assumption | exact Ne.symm (by assumption)) ?_)) rfl rfl (Nat.le_of_ble_eq_true rfl) rfl ?_
  refine ev_iconst (v := 1) i_rd_append_43 (by decide) ?_
  refine ev_ireturn i_rd_append_44 rfl rfl ?_
  exact ⟨_, rfl, Or.inl ⟨k1, k2, k3, rfl, rfl⟩⟩
theorem r_rd_empty (H : rd_at G h a tx ea aa fa fb len opn st nm tm TX X) : Rn G M_rd_empty 0 0 0 [.ref a] h (ev_qv fun h' => h' = va_up h a (some (rd_c tx ea aa (fa 0) (fa 1) 0 opn st nm tm))) := by
  have h0 := H.1
  refine Rn_of (ls := [some (.ref a)]) rfl rfl (Nat.le_of_ble_eq_true rfl) rfl ?_
  refine ev_aload_0 i_rd_empty_0 ?_
  refine ev_iconst (v := 0) i_rd_empty_1 (by decide) ?_
  refine ev_put i_rd_empty_2 pl_rd_empty_34 (by repeat (first | assumption | exact va_up_self _ _ _ | refine hu_ne (by first | assumption | exact Ne.symm (by assumption)) ?_)) rfl rfl (Nat.le_of_ble_eq_true rfl) rfl ?_
  refine ev_return i_rd_empty_5 rfl ?_
  exact ⟨rfl, rfl⟩
theorem r_rd_hasTooMany (H : rd_at G h a tx ea aa fa fb len opn st nm tm TX X) (htm : tm = 0 ∨ tm = 1) : Rn G M_rd_hasTooMany 0 0 0 [.ref a] h (ev_qi fun v h' => v = tm ∧ h' = h) := by
  have h0 := H.1
  refine Rn_of (ls := [some (.ref a)]) rfl rfl (Nat.le_of_ble_eq_true rfl) rfl ?_
  refine ev_aload_0 i_rd_hasTooMany_0 ?_
  refine ev_get i_rd_hasTooMany_1 fl_rd_47 (by repeat (first | assumption | exact va_up_self _ _ _ | refine hu_ne (by first | assumption | exact Ne.symm (by assumption)) ?_)) rfl ?_
  refine ev_ireturn i_rd_hasTooMany_4 rfl (by rcases htm with rfl | rfl <;> rfl) ?_
  exact ⟨_, rfl, rfl, rfl⟩
theorem r_rd_result (H : rd_at G h a tx ea aa fa fb len opn st nm tm TX X) : Rn G M_rd_result 0 0 0 [.ref a] h (ev_qq fun v h' => v = some (fa 2) ∧ h' = h) := by
  obtain ⟨h0, h1, ⟨f2, h2, e2⟩, -⟩ := H
  refine Rn_of (ls := [some (.ref a)]) rfl rfl (Nat.le_of_ble_eq_true rfl) rfl ?_
  refine ev_aload_0 i_rd_result_0 ?_
  refine ev_get i_rd_result_1 fl_rd_17 (by repeat (first | assumption | exact va_up_self _ _ _ | refine hu_ne (by first | assumption | exact Ne.symm (by assumption)) ?_)) rfl ?_
  refine ev_iconst (v := 0) i_rd_result_4 (by decide) ?_
  refine ev_aaload i_rd_result_5 ty_form (by repeat (first | assumption | exact va_up_self _ _ _ | refine hu_ne (by first | assumption | exact Ne.symm (by assumption)) ?_)) (j := 0) rfl (by omega) (by omega) ?_
  rw [e2 0 (by omega)]
  refine ev_areturn i_rd_result_6 rfl (Or.inr ⟨_, rfl⟩) ?_
  exact ⟨_, rfl, rfl, rfl⟩
theorem r_rd_startLevel (H : rd_at G h a tx ea aa fa fb len opn st nm tm TX X) (ho : opn ≤ 10) : Rn G M_rd_startLevel 1 0 0 [.ref a] h (ev_qv fun h' => rd_at G h' a tx ea aa fa fb len opn st nm tm TX (va_up (va_up X (2 + opn) []) (13 + opn) []) ∧ rfr a fa fb h h') := by
  obtain ⟨h0, h1, ⟨f2, h2, e2⟩, ⟨f3, h3, e3⟩, h4, h5, h6⟩ := id H
  obtain ⟨n, B, g1, g2, g3, g4⟩ := h4 (2 + opn) (by omega)
  refine Rn_of (ls := [some (.ref a)]) rfl rfl (Nat.le_of_ble_eq_true rfl) rfl ?_
  refine ev_aload_0 i_rd_startLevel_0 ?_
  refine ev_get i_rd_startLevel_1 fl_rd_17 (by repeat (first | assumption | exact va_up_self _ _ _ | refine hu_ne (by first | assumption | exact Ne.symm (by assumption)) ?_)) rfl ?_
  refine ev_aload_0 i_rd_startLevel_4 ?_
  refine ev_get i_rd_startLevel_5 fl_rd_38 (by repeat (first | assumption | exact va_up_self _ _ _ | refine hu_ne (by first | assumption | exact Ne.symm (by assumption)) ?_)) rfl ?_
  refine ev_aaload i_rd_startLevel_8 ty_form (by repeat (first | assumption | exact va_up_self _ _ _ | refine hu_ne (by first | assumption | exact Ne.symm (by assumption)) ?_)) (j := opn) rfl (by omega) (by omega) ?_
  rw [e2 opn (by omega)]
  refine ev_vv0 i_rd_startLevel_9 lk_rd_88 cb_fo_clear iv_fo_clear (r_fo_clear g1) g1 rfl (by decide) (Nat.le_of_ble_eq_true rfl) rfl rfl (fun h' hq => ?_)
  subst hq
  obtain ⟨H1, R1⟩ := rd_form (C := B) (q := 0) (Y := []) H (show 2 + opn < 24 by omega) (Nat.zero_le _) rfl
  rw [hu_self g2] at H1 R1
  obtain ⟨h0', h1', ⟨f2', h2', e2'⟩, ⟨f3', h3', e3'⟩, h4', h5', h6'⟩ := id H1
  obtain ⟨n', B', g1', g2', g3', g4'⟩ := h4' (13 + opn) (by omega)
  refine ev_aload_0 i_rd_startLevel_12 ?_
  refine ev_get i_rd_startLevel_13 fl_rd_21 (by repeat (first | assumption | exact va_up_self _ _ _ | refine hu_ne (by first | assumption | exact Ne.symm (by assumption)) ?_)) rfl ?_
  refine ev_aload_0 i_rd_startLevel_16 ?_
  refine ev_get i_rd_startLevel_17 fl_rd_38 (by repeat (first | assumption | exact va_up_self _ _ _ | refine hu_ne (by first | assumption | exact Ne.symm (by assumption)) ?_)) rfl ?_
  refine ev_aaload i_rd_startLevel_20 ty_form (by repeat (first | assumption | exact va_up_self _ _ _ | refine hu_ne (by first | assumption | exact Ne.symm (by assumption)) ?_)) (j := opn) rfl (by omega) (by omega) ?_
  rw [e3' opn (by omega)]
  refine ev_vv0 i_rd_startLevel_21 lk_rd_88 cb_fo_clear iv_fo_clear (r_fo_clear g1') g1' rfl (by decide) (Nat.le_of_ble_eq_true rfl) rfl rfl (fun h' hq => ?_)
  subst hq
  obtain ⟨H2, R2⟩ := rd_form (C := B') (q := 0) (Y := []) H1 (show 13 + opn < 24 by omega) (Nat.zero_le _) rfl
  rw [hu_self g2'] at H2 R2
  refine ev_return i_rd_startLevel_24 rfl ?_
  exact ⟨rfl, H2, rfr_tr R1 R2⟩
end RD
