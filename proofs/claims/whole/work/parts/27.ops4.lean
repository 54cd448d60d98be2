section OPS4
variable {G : ev_G} {h : ev_H}
variable {τ : Nat → Nat} {x ru w t l rd tx ea aa pp rv q1 q2 q3 q4 q5 : Nat} {fa fb : Nat → Nat} {n : Nat} {W : Nat → Int64} {T F : Nat → Int32} {len : Nat} {s : RS} {TX : Nat → Int32} {tc : Nat → Nat} {np : Nat} {P : Nat → Option Nat} {I : Nat → pkT} {rs : rvs} {K D : Nat → Int32} {c : Nat}
theorem r_lr_express {i : Int32} (H : CI G h τ x ru w t l rd tx ea aa pp rv q1 q2 q3 q4 q5 fa fb n W T F len s TX tc np P I rs K D c) : Rn G M_lr_express 7 0 0 [.ref x, .int i] h (ev_qi fun v h' => fo99 τ h h' ∧ ∃ s' : RS,
      (ixv i np = none ∧ v = -200 ∧ CI G h' τ x ru w t l rd tx ea aa pp rv q1 q2 q3 q4 q5 fa fb n W T F 0 s' TX tc np P I rs K D c) ∨
      (∃ p k, p < np ∧ ixv i np = some p ∧ sRead n tc len s = .inl k ∧ k ≤ len ∧ v = -1 - nI k ∧ CI G h' τ x ru w t l rd tx ea aa pp rv q1 q2 q3 q4 q5 fa fb n W T F 0 s' TX tc np P I rs K D c) ∨
      (∃ p, p < np ∧ ixv i np = some p ∧ sRead n tc len s = .inr s' ∧ ¬ s'.2.2.2.1 = 0 ∧ v = -100 ∧ CI G h' τ x ru w t l rd tx ea aa pp rv q1 q2 q3 q4 q5 fa fb n W T F 0 s' TX tc np P I rs K D c) ∨
      (∃ p n' C, p < np ∧ ixv i np = some p ∧ sRead n tc len s = .inr s' ∧ s'.2.2.2.1 = 0 ∧ li n' C = (s'.2.2.2.2 2).take 20 ∧ v = nI n' ∧ CI G h' τ x ru w t l rd tx ea aa pp rv q1 q2 q3 q4 q5 fa fb n W T F 0 s' TX tc np P (va_up I p ((I p).1, (n', C), (I p).2.2.1, (I p).2.2.2)) rs K D c)) := by
  obtain ⟨⟨x1, x2, x3⟩, ⟨u1, u2, u3, u4, u5⟩, ⟨r1, r2, r3, r4⟩, ⟨p1, p2⟩, -, z⟩ := id H
  obtain ⟨z0, -, ⟨y0, y1, y2, y3, y4⟩, -, -, b1⟩ := z
  have r0 := r1.1
  have mid : ∀ (Q : Option Value → ev_H → Prop) (o : Value), ev_nl (some o) = true → (∀ (v : Int32) (s' : RS) (h' : ev_H), fo99 τ h h' → CI G h' τ x ru w t l rd tx ea aa pp rv q1 q2 q3 q4 q5 fa fb n W T F 0 s' TX tc np P I rs K D c → ((∃ k, sRead n tc len s = .inl k ∧ k ≤ len ∧ v = nI k) ∨ (sRead n tc len s = .inr s' ∧ v = -1)) → Ev G M_lr_express 7 0 0 Q 28 [some (.ref x), some (.int i), some o, some (.int v)] [] h') → Ev G M_lr_express 7 0 0 Q 6 [some (.ref x), some (.int i), some o, none] [] h := by
    intro Q o ho k
    refine ev_aload_0 i_lr_express_6 ?_
    refine ev_get i_lr_express_7 fl_lr_19 (by repeat (first | assumption | exact va_up_self _ _ _ | refine hu_ne (by first | assumption | exact Ne.symm (by assumption)) ?_)) rfl ?_
    refine ev_aload_0 i_lr_express_10 ?_
    refine ev_get i_lr_express_11 fl_lr_12 (by repeat (first | assumption | exact va_up_self _ _ _ | refine hu_ne (by first | assumption | exact Ne.symm (by assumption)) ?_)) rfl ?_
    refine ev_vi0 i_lr_express_14 lk_lr_71 cb_ru_licenceCount iv_ru_licenceCount (r_ru_licenceCount u1) (by repeat (first | assumption | exact va_up_self _ _ _ | refine hu_ne (by first | assumption | exact Ne.symm (by assumption)) ?_)) rfl (by decide) (Nat.le_of_ble_eq_true rfl) rfl rfl (fun v h' hq => ?_)
    obtain ⟨rfl, rfl⟩ := hq
    refine ev_vi1 i_lr_express_17 lk_lr_75 cb_rd_read iv_rd_read (r_rd_read r1 r2.2.1 r3 (fun i hi => ⟨(r4 i hi).1, by have := (r4 i hi).2; omega⟩) u5) (by repeat (first | assumption | exact va_up_self _ _ _ | refine hu_ne (by first | assumption | exact Ne.symm (by assumption)) ?_)) rfl (by decide) (Nat.le_of_ble_eq_true rfl) rfl rfl (fun v h2 hq => ?_)
    obtain ⟨R, hq⟩ := hq
    obtain ⟨s', H1, ok1, hv⟩ : ∃ s', rdq G h2 rd tx ea aa fa fb len TX s' ∧ sok s' ∧ ((∃ k, sRead n tc len s = .inl k ∧ k ≤ len ∧ v = nI k) ∨ (sRead n tc len s = .inr s' ∧ v = -1)) := by
      rcases hq with ⟨k, s', e1, e2, e3, e4, e5⟩ | ⟨s', e1, e3, e4, e5⟩
      · exact ⟨s', e4, e5, Or.inl ⟨k, e1, e2, e3⟩⟩
      · exact ⟨s', e4, e5, Or.inr ⟨e1, e3⟩⟩
    have A1 := ag_rfr H R
    have H2 := CI_R H A1 H1 ok1 r3 r4
    obtain ⟨⟨x1', -⟩, -, -, -⟩ := id H2
    have r0' := H1.1
    refine ev_istore_3 i_lr_express_20 ho ?_
    refine ev_aload_0 i_lr_express_21 ?_
    refine ev_get i_lr_express_22 fl_lr_19 (by repeat (first | assumption | exact va_up_self _ _ _ | refine hu_ne (by first | assumption | exact Ne.symm (by assumption)) ?_)) rfl ?_
    refine ev_vv0 i_lr_express_25 lk_lr_79 cb_rd_empty iv_rd_empty (r_rd_empty H1) (by repeat (first | assumption | exact va_up_self _ _ _ | refine hu_ne (by first | assumption | exact Ne.symm (by assumption)) ?_)) rfl (by decide) (Nat.le_of_ble_eq_true rfl) rfl rfl (fun h3 hq => ?_)
    subst hq
    obtain ⟨H3, R3⟩ := rd_cell (len' := 0) (opn' := s'.1) (nm' := s'.2.2.1) (st' := s'.2.1) (tm' := s'.2.2.2.1) H1
    have A2 := ag_rfr H2 R3
    exact k v s' _ (fo_ag (ag_tr A1 A2) (by omega)) (CI_R H2 A2 H3 ok1 (Nat.zero_le _) (fun i hi => absurd hi (Nat.not_lt_zero i))) hv
  refine Rn_of (ls := [some (.ref x), some (.int i), none, none]) rfl rfl (Nat.le_of_ble_eq_true rfl) rfl ?_
  refine ev_aload_0 i_lr_express_0 ?_
  refine ev_iload_1 i_lr_express_1 ?_
  refine ev_vq1 i_lr_express_2 lk_lr_67 cb_lr_packAt iv_lr_packAt (r_lr_packAt H) (by repeat (first | assumption | exact va_up_self _ _ _ | refine hu_ne (by first | assumption | exact Ne.symm (by assumption)) ?_)) rfl (by decide) (Nat.le_of_ble_eq_true rfl) rfl rfl (fun v h' hq => ?_)
  obtain ⟨rfl, ⟨p, hp, rfl, e, rfl⟩ | ⟨e, rfl⟩⟩ := hq
  rotate_left
  · refine ev_astoreN_2 i_lr_express_5 rfl ?_
    refine mid _ .null rfl (fun v s' h2 hf HC hv => ?_)
    refine ev_aloadN_2 i_lr_express_28 ?_
    refine ev_ifnonnullN i_lr_express_29 ?_
    refine ev_sipush (v := (-200)) i_lr_express_32 (by decide) ?_
    refine ev_ireturn i_lr_express_35 rfl rfl ?_
    exact ⟨_, rfl, hf, s', Or.inl ⟨e, rfl, HC⟩⟩
  refine ev_astore_2 i_lr_express_5 rfl ?_
  refine mid _ (.ref (I p).1.1) rfl (fun v s' h2 hf HC hv => ?_)
  obtain ⟨⟨x1', -⟩, -, ⟨r1', r2', -⟩, ⟨p1', p2'⟩, -, -⟩ := id HC
  refine ev_aload_2 i_lr_express_28 ?_
  refine ev_ifnonnull i_lr_express_29 ?_
  refine ev_iload_3 i_lr_express_36 ?_
  refine ev_iconst (v := (-1)) i_lr_express_37 (by decide) ?_
  refine ev_icmp_eq i_lr_express_38 (fun c_38 => ?_) (fun c_38 => ?_)
  rotate_left
  · rcases hv with ⟨k, e1, e2, rfl⟩ | ⟨e1, rfl⟩
    · refine ev_iconst (v := (-1)) i_lr_express_41 (by decide) ?_
      refine ev_iload_3 i_lr_express_42 ?_
      refine ev_isub i_lr_express_43 ?_
      refine ev_ireturn i_lr_express_44 rfl rfl ?_
      exact ⟨_, rfl, hf, s', Or.inr (Or.inl ⟨p, k, hp, e, e1, e2, rfl, HC⟩)⟩
    · exact absurd rfl c_38
  have e1 : sRead n tc len s = .inr s' := by
    rcases hv with ⟨k, e1, e2, rfl⟩ | ⟨e1, rfl⟩
    · exact absurd c_38 (nI_nm1 (by omega))
    · exact e1
  have r0' := r1'.1
  refine ev_aload_0 i_lr_express_45 ?_
  refine ev_get i_lr_express_46 fl_lr_19 (by repeat (first | assumption | exact va_up_self _ _ _ | refine hu_ne (by first | assumption | exact Ne.symm (by assumption)) ?_)) rfl ?_
  refine ev_vi0 i_lr_express_49 lk_lr_82 cb_rd_hasTooMany iv_rd_hasTooMany (r_rd_hasTooMany r1' r2'.2.2) (by repeat (first | assumption | exact va_up_self _ _ _ | refine hu_ne (by first | assumption | exact Ne.symm (by assumption)) ?_)) rfl (by decide) (Nat.le_of_ble_eq_true rfl) rfl rfl (fun v h3 hq => ?_)
  obtain ⟨rfl, rfl⟩ := hq
  refine ev_if_eq i_lr_express_52 (fun c_52 => ?_) (fun c_52 => ?_)
  rotate_left
  · refine ev_bipush (v := (-100)) i_lr_express_55 (by decide) ?_
    refine ev_ireturn i_lr_express_57 rfl rfl ?_
    exact ⟨_, rfl, hf, s', Or.inr (Or.inr (Or.inl ⟨p, hp, e, e1, c_52, rfl, HC⟩))⟩
  obtain ⟨k1, k2, k3, k4, k5, k6, k7, k8, k9⟩ := (p2' p hp).2
  obtain ⟨m, B, g1, g2, g3, g4⟩ := r1'.2.2.2.2.1 2 (by omega)
  rw [rm_2 (by omega)] at g1 g2 g3
  have tg := b1 p hp
  refine ev_aload_2 i_lr_express_58 ?_
  refine ev_get i_lr_express_59 fl_lr_86 (by repeat (first | assumption | exact va_up_self _ _ _ | refine hu_ne (by first | assumption | exact Ne.symm (by assumption)) ?_)) rfl ?_
  refine ev_aload_0 i_lr_express_62 ?_
  refine ev_get i_lr_express_63 fl_lr_19 (by repeat (first | assumption | exact va_up_self _ _ _ | refine hu_ne (by first | assumption | exact Ne.symm (by assumption)) ?_)) rfl ?_
  refine ev_vq0 i_lr_express_66 lk_lr_90 cb_rd_result iv_rd_result (r_rd_result r1') (by repeat (first | assumption | exact va_up_self _ _ _ | refine hu_ne (by first | assumption | exact Ne.symm (by assumption)) ?_)) rfl (by decide) (Nat.le_of_ble_eq_true rfl) rfl rfl (fun v h3 hq => ?_)
  obtain ⟨rfl, rfl⟩ := hq
  refine ev_vv1 i_lr_express_69 lk_lr_94 cb_fo_copyFrom iv_fo_copyFrom (r_fo_copyFrom k2 k3 (by omega) g1 g2 (by omega) g3 (fun z => by have := (y4 2 (by omega)).1; rw [z] at this; omega)) k2 rfl (by decide) (Nat.le_of_ble_eq_true rfl) rfl rfl (fun h4 hq => ?_)
  obtain ⟨C, rfl, hC⟩ := hq
  have A3 : ag τ (5 + p) h3 (va_up (va_up h3 (I p).1.2.2.1 (some (fo_b G 20 C))) (I p).1.2.1 (some (fo_c (I p).1.2.2.1 20 (min m 20)))) := ag_tr (ag_up tg.2.2.1) (ag_up tg.2.1)
  have kk1 : va_up (va_up h3 (I p).1.2.2.1 (some (fo_b G 20 C))) (I p).1.2.1 (some (fo_c (I p).1.2.2.1 20 (min m 20))) (I p).1.1 = some (pk_c (I p).1.2.1 (I p).1.2.2.2.1 (I p).1.2.2.2.2 (I p).2.2.1.1 (I p).2.2.2) := hu_ne (hne_of k1 k2 (fun z => by cases z)) (hu_ne (hne_of k1 k3 (fun z => by cases z)) k1)
  have kk2 : va_up (va_up h3 (I p).1.2.2.1 (some (fo_b G 20 C))) (I p).1.2.1 (some (fo_c (I p).1.2.2.1 20 (min m 20))) (I p).1.2.1 = some (fo_c (I p).1.2.2.1 20 (min m 20)) := va_up_self _ _ _
  refine ev_aload_2 i_lr_express_72 ?_
  refine ev_get i_lr_express_73 fl_lr_86 (by repeat (first | assumption | exact va_up_self _ _ _ | refine hu_ne (by first | assumption | exact Ne.symm (by assumption)) ?_)) rfl ?_
  refine ev_vi0 i_lr_express_76 lk_lr_100 cb_fo_size iv_fo_size (r_fo_size kk2) (by repeat (first | assumption | exact va_up_self _ _ _ | refine hu_ne (by first | assumption | exact Ne.symm (by assumption)) ?_)) rfl (by decide) (Nat.le_of_ble_eq_true rfl) rfl rfl (fun v h5 hq => ?_)
  obtain ⟨rfl, rfl⟩ := hq
  refine ev_ireturn i_lr_express_79 rfl rfl ?_
  have HC2 := CI_P (J := ((I p).1, (min m 20, C), (I p).2.2.1, (I p).2.2.2)) HC hp A3 rfl ⟨kk1, kk2, hu_ne (Ne.symm (hne_of k2 k3 (fun z => by cases z))) (va_up_self _ _ _), hu_ne (Ne.symm (hne_of k2 k4 (fun z => by cases z))) (hu_ne (hne_of k4 k3 (al_ne2 (fun z => by cases z))) k4), hu_ne (Ne.symm (hne_of k2 k5 (fun z => by cases z))) (hu_ne (hne_of k5 k3 (al_ne2 (fun z => by cases z))) k5), k6, by show min m 20 ≤ 20; omega, k8, k9⟩
  refine ⟨_, rfl, fun q hq => (fo_ag A3 (by omega) q hq).trans (hf q hq), s', Or.inr (Or.inr (Or.inr ⟨p, min m 20, C, hp, e, e1, c_52, by rw [hC, g4], rfl, HC2⟩))⟩
/-- a package as it comes -/
def pk0 (A : Nat × Nat × Nat × Nat × Nat) : pkT := (A, (0, fun _ => 0), (0, fun _ => 0, fun _ => 0), -1)
theorem r_lr_pack (H : CI G h τ x ru w t l rd tx ea aa pp rv q1 q2 q3 q4 q5 fa fb n W T F len s TX tc np P I rs K D c) : Rn G M_lr_pack 3 5 80 [.ref x] h (ev_qi fun v h' => (np < 16 ∧ v = nI np ∧ ∃ (τ' : Nat → Nat) (P' : Nat → Option Nat) (A : Nat × Nat × Nat × Nat × Nat), CI G h' τ' x ru w t l rd tx ea aa pp rv q1 q2 q3 q4 q5 fa fb n W T F len s TX tc (np + 1) P' (va_up I np (pk0 A)) rs K D c ∧ ∀ q e, h q = some e → τ q = 99 → h' q = some e ∧ τ' q = 99) ∨ (¬ np < 16 ∧ v = -1 ∧ h' = h)) := by
  obtain ⟨⟨x1, x2, x3⟩, ⟨u1, u2, u3, u4, u5⟩, ⟨r1, r2⟩, ⟨p1, p2⟩, ⟨v1, v2, v3, v4, v5, v6, v7, v8⟩, z⟩ := id H
  obtain ⟨z0, ⟨z1, z2, z3, z4⟩, ⟨y0, y1, y2, y3, y4⟩, ⟨a0, a1, a2, a3, a4, a5⟩, b0, b1⟩ := z
  refine Rn_of (ls := [some (.ref x)]) rfl rfl (Nat.le_of_ble_eq_true rfl) rfl ?_
  refine ev_aload_0 i_lr_pack_0 ?_
  refine ev_get i_lr_pack_1 fl_lr_36 (by repeat (first | assumption | exact va_up_self _ _ _ | refine hu_ne (by first | assumption | exact Ne.symm (by assumption)) ?_)) rfl ?_
  refine ev_bipush (v := 16) i_lr_pack_4 (by decide) ?_
  refine ev_icmp_lt i_lr_pack_6 (fun c_6 => ?_) (fun c_6 => ?_)
  rotate_left
  · have : ¬ np < 16 := fun z => c_6 (show nI np < nI 16 from nI_lt z (by omega))
    refine ev_iconst (v := (-1)) i_lr_pack_9 (by decide) ?_
    refine ev_ireturn i_lr_pack_10 rfl rfl ?_
    exact ⟨_, rfl, Or.inr ⟨this, rfl, rfl⟩⟩
  have hlt : np < 16 := (nI_ltI (by omega) (by omega)).mp (show nI np < nI 16 from c_6)
  refine ev_aload_0 i_lr_pack_11 ?_
  refine ev_get i_lr_pack_12 fl_lr_25 (by repeat (first | assumption | exact va_up_self _ _ _ | refine hu_ne (by first | assumption | exact Ne.symm (by assumption)) ?_)) rfl ?_
  refine ev_aload_0 i_lr_pack_15 ?_
  refine ev_get i_lr_pack_16 fl_lr_36 (by repeat (first | assumption | exact va_up_self _ _ _ | refine hu_ne (by first | assumption | exact Ne.symm (by assumption)) ?_)) rfl ?_
  refine ev_new (fs := [.null, .null, .null, .int 0, .int 0]) (kc' := 4) (ks' := 75) i_lr_pack_19 k_pk cl_lr_23 ns_pk in_pk (fun j hj => by rcases (show j = 0 ∨ j = 1 ∨ j = 2 ∨ j = 3 ∨ j = 4 by omega) with rfl | rfl | rfl | rfl | rfl <;> rfl) rfl rfl (fun q hq => ?_)
  refine ev_dup i_lr_pack_22 rfl ?_
  refine ev_sv0 (kc' := 0) (ks' := 0) i_lr_pack_23 lk_lr_66 cb_pk_init iv_pk_init (r_pk_init (va_up_self _ _ _)) (by decide) (Nat.le_of_ble_eq_true rfl) rfl rfl (fun h1 hx => ?_)
  obtain ⟨f, b, u, v, ⟨nfq, nbq, nuq, nvq, nbf, nuf, nvf, nub, nvb, nvu⟩, ff, fb', fu, fv, rfl⟩ := hx
  rw [va_up_ne _ _ nfq] at ff
  rw [va_up_ne _ _ nbq] at fb'
  rw [va_up_ne _ _ nuq] at fu
  rw [va_up_ne _ _ nvq] at fv
  have ne' : ∀ {p r : Nat} {e : va_E}, h p = some e → h r = none → p ≠ r := fun hp hr z => by subst z; rw [hp] at hr; cases hr
  have kp : ∀ p e, h p = some e → va_up (va_up (va_up (va_up (va_up (va_up h q (some (.inr (1, [.null, .null, .null, .int 0, .int 0])))) f (some (fo_c b 20 0))) b (some (fo_b G 20 (fun _ => 0)))) u (some (aI G 6 (fun _ => 0)))) v (some (aI G 6 (fun _ => 0)))) q (some (pk_c f u v 0 (-1))) p = some e := fun p e hp => hu_ne (ne' hp hq) (hu_ne (ne' hp fv) (hu_ne (ne' hp fu) (hu_ne (ne' hp fb') (hu_ne (ne' hp ff) (hu_ne (ne' hp hq) hp)))))
  have g1 : va_up (va_up (va_up (va_up (va_up (va_up h q (some (.inr (1, [.null, .null, .null, .int 0, .int 0])))) f (some (fo_c b 20 0))) b (some (fo_b G 20 (fun _ => 0)))) u (some (aI G 6 (fun _ => 0)))) v (some (aI G 6 (fun _ => 0)))) q (some (pk_c f u v 0 (-1))) q = some (pk_c f u v 0 (-1)) := va_up_self _ _ _
  have g2 : va_up (va_up (va_up (va_up (va_up (va_up h q (some (.inr (1, [.null, .null, .null, .int 0, .int 0])))) f (some (fo_c b 20 0))) b (some (fo_b G 20 (fun _ => 0)))) u (some (aI G 6 (fun _ => 0)))) v (some (aI G 6 (fun _ => 0)))) q (some (pk_c f u v 0 (-1))) f = some (fo_c b 20 0) := hu_ne nfq (hu_ne (Ne.symm nvf) (hu_ne (Ne.symm nuf) (hu_ne (Ne.symm nbf) (va_up_self _ _ _))))
  have g3 : va_up (va_up (va_up (va_up (va_up (va_up h q (some (.inr (1, [.null, .null, .null, .int 0, .int 0])))) f (some (fo_c b 20 0))) b (some (fo_b G 20 (fun _ => 0)))) u (some (aI G 6 (fun _ => 0)))) v (some (aI G 6 (fun _ => 0)))) q (some (pk_c f u v 0 (-1))) b = some (fo_b G 20 (fun _ => 0)) := hu_ne nbq (hu_ne (Ne.symm nvb) (hu_ne (Ne.symm nub) (va_up_self _ _ _)))
  have g4 : va_up (va_up (va_up (va_up (va_up (va_up h q (some (.inr (1, [.null, .null, .null, .int 0, .int 0])))) f (some (fo_c b 20 0))) b (some (fo_b G 20 (fun _ => 0)))) u (some (aI G 6 (fun _ => 0)))) v (some (aI G 6 (fun _ => 0)))) q (some (pk_c f u v 0 (-1))) u = some (aI G 6 (fun _ => 0)) := hu_ne nuq (hu_ne (Ne.symm nvu) (va_up_self _ _ _))
  have g5 : va_up (va_up (va_up (va_up (va_up (va_up h q (some (.inr (1, [.null, .null, .null, .int 0, .int 0])))) f (some (fo_c b 20 0))) b (some (fo_b G 20 (fun _ => 0)))) u (some (aI G 6 (fun _ => 0)))) v (some (aI G 6 (fun _ => 0)))) q (some (pk_c f u v 0 (-1))) v = some (aI G 6 (fun _ => 0)) := hu_ne nvq (va_up_self _ _ _)
  generalize va_up (va_up (va_up (va_up (va_up (va_up h q (some (.inr (1, [.null, .null, .null, .int 0, .int 0])))) f (some (fo_c b 20 0))) b (some (fo_b G 20 (fun _ => 0)))) u (some (aI G 6 (fun _ => 0)))) v (some (aI G 6 (fun _ => 0)))) q (some (pk_c f u v 0 (-1))) = g at kp g1 g2 g3 g4 g5 ⊢
  have gx := kp _ _ x1
  have gp := kp _ _ p1
  have nxp : x ≠ pp := hne_of x1 p1 (fun z => by cases z)
  refine ev_aastore i_lr_pack_26 ty_pack gp g1 (rfl : ev_CL[_]? = some (RC_pk, _, _)) (j := np) rfl (by omega) (by omega) ?_
  refine ev_aload_0 i_lr_pack_27 ?_
  refine ev_dup i_lr_pack_28 rfl ?_
  refine ev_get i_lr_pack_29 fl_lr_36 (by repeat (first | assumption | exact va_up_self _ _ _ | refine hu_ne (by first | assumption | exact Ne.symm (by assumption)) ?_)) rfl ?_
  refine ev_iconst (v := 1) i_lr_pack_32 (by decide) ?_
  refine ev_iadd i_lr_pack_33 ?_
  refine ev_top (nI_1 np) ?_
  refine ev_put i_lr_pack_34 pl_lr_pack_36 (by repeat (first | assumption | exact va_up_self _ _ _ | refine hu_ne (by first | assumption | exact Ne.symm (by assumption)) ?_)) rfl rfl (Nat.le_of_ble_eq_true rfl) rfl ?_
  refine ev_aload_0 i_lr_pack_37 ?_
  refine ev_get i_lr_pack_38 fl_lr_36 (by repeat (first | assumption | exact va_up_self _ _ _ | refine hu_ne (by first | assumption | exact Ne.symm (by assumption)) ?_)) rfl ?_
  refine ev_iconst (v := 1) i_lr_pack_41 (by decide) ?_
  refine ev_isub i_lr_pack_42 ?_
  refine ev_top (nI_pred np) ?_
  refine ev_ireturn i_lr_pack_43 rfl rfl ?_
  refine ⟨_, rfl, Or.inl ⟨hlt, rfl, fun y => if y = q ∨ y = f ∨ y = b ∨ y = u ∨ y = v then 5 + np else τ y, va_up P np (some q), (q, f, b, u, v), ?_, ?_⟩⟩
  · have kq : ∀ p e, h p = some e → p ≠ x → p ≠ pp → va_up (va_up g pp (some (aQ G 16 (va_up P np (some q))))) x (some (lr_c ru rd pp rv (np + 1) c)) p = some e := fun p e hp k1 k2 => hu_ne k1 (hu_ne k2 (kp p e hp))
    have tq : ∀ p e, h p = some e → (if p = q ∨ p = f ∨ p = b ∨ p = u ∨ p = v then 5 + np else τ p) = τ p := fun p e hp => if_neg (by rintro (z | z | z | z | z); exact ne' hp hq z; exact ne' hp ff z; exact ne' hp fb' z; exact ne' hp fu z; exact ne' hp fv z)
    have nx : ∀ p, τ p ≠ 0 → p ≠ x := fun p hp z => hp (z ▸ z0)
    have npp : ∀ p, τ p ≠ 4 → p ≠ pp := fun p hp z => hp (z ▸ b0)
    have fx : ∀ r e, g r = some e → h r = none → r ≠ x ∧ r ≠ pp := fun r e _ hr => ⟨fun z => (by subst z; rw [x1] at hr; cases hr), fun z => (by subst z; rw [p1] at hr; cases hr)⟩
    have kq' : ∀ r e, g r = some e → h r = none → va_up (va_up g pp (some (aQ G 16 (va_up P np (some q))))) x (some (lr_c ru rd pp rv (np + 1) c)) r = some e := fun r e hr hn => hu_ne (fx r e hr hn).1 (hu_ne (fx r e hr hn).2 hr)
    refine ⟨⟨va_up_self _ _ _, x2, by omega⟩, ⟨kq _ _ u1 (nx _ (by omega)) (npp _ (by omega)), kq _ _ u2 (nx _ (by omega)) (npp _ (by omega)), kq _ _ u3 (nx _ (by omega)) (npp _ (by omega)), kq _ _ u4 (nx _ (by omega)) (npp _ (by omega)), u5⟩, ⟨?_, r2⟩, ⟨hu_ne (Ne.symm nxp) (va_up_self _ _ _), fun p hp => ?_⟩, ⟨kq _ _ v1 (nx _ (by omega)) (npp _ (by omega)), kq _ _ v2 (nx _ (by omega)) (npp _ (by omega)), kq _ _ v3 (nx _ (by omega)) (npp _ (by omega)), kq _ _ v4 (nx _ (by omega)) (npp _ (by omega)), kq _ _ v5 (nx _ (by omega)) (npp _ (by omega)), kq _ _ v6 (nx _ (by omega)) (npp _ (by omega)), v7, ⟨v8.1, fun i hi => ?_⟩⟩, ?_⟩
    · obtain ⟨d0, d1, ⟨f2, d2, e2⟩, ⟨f3, d3, e3⟩, d4, d5, d6⟩ := id r1
      refine ⟨kq _ _ d0 (nx _ (by omega)) (npp _ (by omega)), kq _ _ d1 (nx _ (by omega)) (npp _ (by omega)), ⟨f2, kq _ _ d2 (nx _ (by omega)) (npp _ (by omega)), e2⟩, ⟨f3, kq _ _ d3 (nx _ (by omega)) (npp _ (by omega)), e3⟩, fun k hk => ?_, d5, d6⟩
      obtain ⟨m, B, k1, k2, k3, k4⟩ := d4 k hk
      have := y4 k hk
      exact ⟨m, B, kq _ _ k1 (nx _ (by omega)) (npp _ (by omega)), kq _ _ k2 (nx _ (by omega)) (npp _ (by omega)), k3, k4⟩
    · by_cases ep : p = np
      · subst ep
        rw [va_up_self, va_up_self]
        exact ⟨rfl, kq' _ _ g1 hq, kq' _ _ g2 ff, kq' _ _ g3 fb', kq' _ _ g4 fu, kq' _ _ g5 fv, Ne.symm nvu, Nat.zero_le _, Nat.zero_le _, fun k hk => absurd hk (Nat.not_lt_zero k)⟩
      · have hp' : p < np := by omega
        rw [va_up_ne _ _ ep, va_up_ne _ _ ep]
        obtain ⟨e0, k1, k2, k3, k4, k5, k6, k7, k8, k9⟩ := p2 p hp'
        have := b1 p hp'
        refine ⟨e0, kq _ _ k1 (nx _ (by omega)) (npp _ (by omega)), kq _ _ k2 (nx _ (by omega)) (npp _ (by omega)), kq _ _ k3 (nx _ (by omega)) (npp _ (by omega)), kq _ _ k4 (nx _ (by omega)) (npp _ (by omega)), kq _ _ k5 (nx _ (by omega)) (npp _ (by omega)), k6, k7, k8, fun k hk => ?_⟩
        obtain ⟨a', b', ha', hb', hc'⟩ := k9 k hk
        exact ⟨a', b', by omega, hb', hc'⟩
    · obtain ⟨a', b', ha', hb', hc'⟩ := v8.2 i hi
      exact ⟨a', b', by omega, hb', hc'⟩
    · refine ⟨(tq _ _ x1).trans z0, ⟨(tq _ _ u1).trans z1, (tq _ _ u2).trans z2, (tq _ _ u3).trans z3, (tq _ _ u4).trans z4⟩, ?_, ⟨(tq _ _ v1).trans a0, (tq _ _ v2).trans a1, (tq _ _ v3).trans a2, (tq _ _ v4).trans a3, (tq _ _ v5).trans a4, (tq _ _ v6).trans a5⟩, (tq _ _ p1).trans b0, fun p hp => ?_⟩
      · obtain ⟨d0, d1, ⟨f2, d2, e2⟩, ⟨f3, d3, e3⟩, d4, d5, d6⟩ := id r1
        refine ⟨(tq _ _ d0).trans y0, (tq _ _ d1).trans y1, (tq _ _ d2).trans y2, (tq _ _ d3).trans y3, fun k hk => ?_⟩
        obtain ⟨m, B, k1, k2, k3, k4⟩ := d4 k hk
        exact ⟨(tq _ _ k1).trans (y4 k hk).1, (tq _ _ k2).trans (y4 k hk).2⟩
      · by_cases ep : p = np
        · subst ep
          rw [va_up_self]
          show (if q = q ∨ _ then 5 + p else _) = 5 + p ∧ (if f = q ∨ f = f ∨ _ then 5 + p else _) = 5 + p ∧ (if b = q ∨ b = f ∨ b = b ∨ _ then 5 + p else _) = 5 + p ∧ (if u = q ∨ u = f ∨ u = b ∨ u = u ∨ _ then 5 + p else _) = 5 + p ∧ (if v = q ∨ v = f ∨ v = b ∨ v = u ∨ v = v then 5 + p else _) = 5 + p
          refine ⟨if_pos (Or.inl rfl), if_pos (Or.inr (Or.inl rfl)), if_pos (Or.inr (Or.inr (Or.inl rfl))), if_pos (Or.inr (Or.inr (Or.inr (Or.inl rfl)))), if_pos (Or.inr (Or.inr (Or.inr (Or.inr rfl))))⟩
        · have hp' : p < np := by omega
          rw [va_up_ne _ _ ep]
          obtain ⟨e0, k1, k2, k3, k4, k5, k6, k7, k8, k9⟩ := p2 p hp'
          have := b1 p hp'
          exact ⟨(tq _ _ k1).trans this.1, (tq _ _ k2).trans this.2.1, (tq _ _ k3).trans this.2.2.1, (tq _ _ k4).trans this.2.2.2.1, (tq _ _ k5).trans this.2.2.2.2⟩
  · intro r e hr htr
    refine ⟨hu_ne (fun z => by subst z; omega) (hu_ne (fun z => by subst z; omega) (kp r e hr)), ?_⟩
    show (if r = q ∨ r = f ∨ r = b ∨ r = u ∨ r = v then 5 + np else τ r) = 99
    rw [if_neg (by rintro (z | z | z | z | z); exact ne' hr hq z; exact ne' hr ff z; exact ne' hr fb' z; exact ne' hr fu z; exact ne' hr fv z)]
    exact htr
end OPS4
