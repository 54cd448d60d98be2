section RV3
variable {G : ev_G} {h : ev_H}
abbrev aQ (G : ev_G) (n : Nat) (f : Nat → Option Nat) : va_E := .inl (G.2 5, n, .inr (.inr (.inr (.inr f))))
/-- a package: its cells (itself, form, bits, used packages, used ways); its row of choices; its uses; its grant's end -/
abbrev pkT : Type := (Nat × Nat × Nat × Nat × Nat) × (Nat × (Nat → Int64)) × (Nat × (Nat → Int32) × (Nat → Int32)) × Int32
def pk_at (G : ev_G) (h : ev_H) (np : Nat) (x : pkT) : Prop :=
  h x.1.1 = some (pk_c x.1.2.1 x.1.2.2.2.1 x.1.2.2.2.2 x.2.2.1.1 x.2.2.2) ∧ h x.1.2.1 = some (fo_c x.1.2.2.1 20 x.2.1.1) ∧ h x.1.2.2.1 = some (fo_b G 20 x.2.1.2) ∧ h x.1.2.2.2.1 = some (aI G 6 x.2.2.1.2.1) ∧ h x.1.2.2.2.2 = some (aI G 6 x.2.2.1.2.2) ∧
  x.1.2.2.2.1 ≠ x.1.2.2.2.2 ∧ x.2.1.1 ≤ 20 ∧ x.2.2.1.1 ≤ 6 ∧ ∀ k, k < x.2.2.1.1 → ∃ p w : Nat, p < np ∧ w < 3 ∧ x.2.2.1.2.1 k = nI p ∧ x.2.2.1.2.2 k = nI w
theorem al_ne {x y : ClassId × vp_A} (h : x.2.1 ≠ y.2.1) : (Sum.inl x : va_E) ≠ Sum.inl y := fun e => h (by rw [Sum.inl.inj e])
theorem rv_h_facts {a q1 q2 q3 q4 q5 : Nat} {s : rvs} (hd : rv_d q1 q2 q3 q4 q5) (n1 : a ≠ q1) (n2 : a ≠ q2) (n5 : a ≠ q5) : rv_h G h a q1 q2 q3 q4 q5 s a = some (rv_c q1 q2 q3 q4 q5 s.1) ∧ rv_h G h a q1 q2 q3 q4 q5 s q1 = some (aI G 48 s.2.1) ∧ rv_h G h a q1 q2 q3 q4 q5 s q2 = some (aI G 48 s.2.2.1) ∧ rv_h G h a q1 q2 q3 q4 q5 s q5 = some (aI G 48 s.2.2.2) := by
  have n12 : q1 ≠ q2 := hd.1
  have n15 : q1 ≠ q5 := hd.2.2.2.1
  have n25 : q2 ≠ q5 := hd.2.2.2.2.2.2.1
  refine ⟨va_up_self _ _ _, ?_, ?_, ?_⟩
  · exact hu_ne (Ne.symm n1) (hu_ne n15 (hu_ne n12 (va_up_self _ _ _)))
  · exact hu_ne (Ne.symm n2) (hu_ne n25 (va_up_self _ _ _))
  · exact hu_ne (Ne.symm n5) (va_up_self _ _ _)
theorem rv_out_stop {US : Nat → Nat × (Nat → Int32) × (Nat → Int32)} {s : rvs} {i : Nat} (hi : (rv_out US s i).1 ≤ i) : ∀ k, rv_out US s (i + k) = rv_out US s i := by
  intro k
  induction k with
  | zero => rfl
  | succ k ih =>
    show (if i + k < (rv_out US s (i + k)).1 then _ else rv_out US s (i + k)) = _
    rw [ih, if_neg (by omega)]
theorem r_rv_walk {a q1 q2 q3 q4 q5 pp np p0 w0 n : Nat} {N W O : Nat → Int32} {P : Nat → Option Nat} {I : Nat → pkT} (hd : rv_d q1 q2 q3 q4 q5) (ha : h a = some (rv_c q1 q2 q3 q4 q5 n)) (h1 : h q1 = some (aI G 48 N)) (h2 : h q2 = some (aI G 48 W)) (h5 : h q5 = some (aI G 48 O))
    (hP : h pp = some (aQ G 16 P)) (hI : ∀ p, p < np → P p = some (I p).1.1 ∧ pk_at G h np (I p)) (hnp : np ≤ 16) (hp0 : p0 < np) (hw0 : w0 < 3) :
    Rn G M_rv_walk 1 0 0 [.ref a, .ref pp, .int (nI p0), .int (nI w0)] h (ev_qv fun h' => h' = rv_h G h a q1 q2 q3 q4 q5 (rv_out (fun p => (I p).2.2.1) (rv_add (0, N, W, O) (nI p0) (nI w0) (-1)) 48) ∧ rv_ok np (rv_out (fun p => (I p).2.2.1) (rv_add (0, N, W, O) (nI p0) (nI w0) (-1)) 48)) := by
  have na1 : a ≠ q1 := by intro e; subst e; rw [ha] at h1; cases h1
  have na2 : a ≠ q2 := by intro e; subst e; rw [ha] at h2; cases h2
  have na5 : a ≠ q5 := by intro e; subst e; rw [ha] at h5; cases h5
  have e0 : va_up h a (some (rv_c q1 q2 q3 q4 q5 0)) = rv_h G h a q1 q2 q3 q4 q5 (0, N, W, O) := by
    unfold rv_h
    rw [hu_self h1, hu_self h2, hu_self h5]
  have hget : ∀ (s : rvs) (q : Nat) (e : va_E), h q = some e → (∀ f, e ≠ aI G 48 f) → (∀ m, e ≠ rv_c q1 q2 q3 q4 q5 m) → rv_h G h a q1 q2 q3 q4 q5 s q = some e := fun s q e hq k1 k2 => rv_h_get (s0 := (n, N, W, O)) ha h1 h2 h5 hq k1 k2
  have hPs : ∀ s : rvs, rv_h G h a q1 q2 q3 q4 q5 s pp = some (aQ G 16 P) := fun s => hget s pp _ hP (fun f => al_ne (show (16 : Nat) ≠ 48 by decide)) (fun m z => by cases z)
  refine Rn_of (ls := [some (.ref a), some (.ref pp), some (.int (nI p0)), some (.int (nI w0)), none, none, none]) rfl rfl (Nat.le_of_ble_eq_true rfl) rfl ?_
  refine ev_aload_0 i_rv_walk_0 ?_
  refine ev_iconst (v := 0) i_rv_walk_1 (by decide) ?_
  refine ev_put i_rv_walk_2 pl_rv_walk_27 (by repeat (first | assumption | exact va_up_self _ _ _ | refine hu_ne (by first | assumption | exact Ne.symm (by assumption)) ?_)) rfl rfl (Nat.le_of_ble_eq_true rfl) rfl ?_
  refine ev_aload_0 i_rv_walk_5 ?_
  refine ev_iload_2 i_rv_walk_6 ?_
  refine ev_iload_3 i_rv_walk_7 ?_
  refine ev_iconst (v := (-1)) i_rv_walk_8 (by decide) ?_
  have e0' : va_up h a (some (Sum.inr (3, ([Value.ref q1, .ref q2, .ref q3, .ref q4, .ref q5, .int (nI n)] : List Value).set 5 (Value.int 0)))) = rv_h G h a q1 q2 q3 q4 q5 (0, N, W, O) := e0
  rw [e0']
  obtain ⟨f0, f1, f2, f5⟩ := rv_h_facts (G := G) (h := h) (s := (0, N, W, O)) (q3 := q3) (q4 := q4) hd na1 na2 na5
  refine ev_vv3 i_rv_walk_9 lk_rv_31 cb_rv_addOnce iv_rv_addOnce (r_rv_addOnce (s := (0, N, W, O)) hd f0 f1 f2 f5 (show (0 : Nat) ≤ 48 by omega)) f0 rfl (by decide) (Nat.le_of_ble_eq_true rfl) rfl rfl (fun h' hq => ?_)
  subst hq
  rw [rv_h_h hd na1 na2 na5]
  clear f0 f1 f2 f5
  have hs0 : rv_ok np (rv_add (0, N, W, O) (nI p0) (nI w0) (-1)) := rv_add_ok ⟨show (0 : Nat) ≤ 48 by omega, fun i hi => absurd hi (Nat.not_lt_zero i)⟩ hp0 hw0
  generalize rv_add (0, N, W, O) (nI p0) (nI w0) (-1) = s1 at hs0 ⊢
  refine ev_iconst (v := 0) i_rv_walk_12 (by decide) ?_
  refine ev_istore_4 i_rv_walk_13 rfl ?_
  have loop : ∀ (m i : Nat) (w5 w6 : Option Value), ev_nl w5 = true → ev_nl w6 = true → i + m = 48 → rv_ok np (rv_out (fun p => (I p).2.2.1) s1 i) → Ev G M_rv_walk 1 0 0 (ev_qv fun h' => h' = rv_h G h a q1 q2 q3 q4 q5 (rv_out (fun p => (I p).2.2.1) s1 48) ∧ rv_ok np (rv_out (fun p => (I p).2.2.1) s1 48)) 15 [some (.ref a), some (.ref pp), some (.int (nI p0)), some (.int (nI w0)), some (.int (nI i)), w5, w6] [] (rv_h G h a q1 q2 q3 q4 q5 (rv_out (fun p => (I p).2.2.1) s1 i)) := by
    intro m
    induction m with
    | zero =>
      intro i w5 w6 hw5 hw6 hi hok
      obtain rfl : i = 48 := by omega
      refine ev_iload_4 i_rv_walk_15 ?_
      refine ev_bipush (v := 48) i_rv_walk_17 (by decide) ?_
      refine ev_icmp_ge i_rv_walk_19 (fun c_19 => ?_) (fun c_19 => ?_)
      · refine ev_return i_rv_walk_104 rfl ?_
        exact ⟨rfl, rfl, hok⟩
      · exact absurd (by decide) c_19
    | succ m ih =>
      intro i w5 w6 hw5 hw6 hi hok
      refine ev_iload_4 i_rv_walk_15 ?_
      refine ev_bipush (v := 48) i_rv_walk_17 (by decide) ?_
      refine ev_icmp_ge i_rv_walk_19 (fun c_19 => ?_) (fun c_19 => ?_)
      · exact absurd c_19 (show ¬ nI 48 ≤ nI i from nI_ge (by omega) (by omega))
      have nxt : rv_out (fun p => (I p).2.2.1) s1 (i + 1) = if i < (rv_out (fun p => (I p).2.2.1) s1 i).1 then rv_in (I ((rv_out (fun p => (I p).2.2.1) s1 i).2.1 i).toNatClampNeg).2.2.1.2.1 (I ((rv_out (fun p => (I p).2.2.1) s1 i).2.1 i).toNatClampNeg).2.2.1.2.2 i (rv_out (fun p => (I p).2.2.1) s1 i) (I ((rv_out (fun p => (I p).2.2.1) s1 i).2.1 i).toNatClampNeg).2.2.1.1 else rv_out (fun p => (I p).2.2.1) s1 i := rfl
      have stop := fun z => rv_out_stop (US := fun p => (I p).2.2.1) (s := s1) (i := i) z (m + 1)
      rw [show i + (m + 1) = 48 by omega] at stop
      generalize rv_out (fun p => (I p).2.2.1) s1 i = s at hok nxt stop ⊢
      obtain ⟨f0, f1, f2, f5⟩ := rv_h_facts (G := G) (h := h) (s := s) (q3 := q3) (q4 := q4) hd na1 na2 na5
      have hs48 := hok.1
      refine ev_iload_4 i_rv_walk_22 ?_
      refine ev_aload_0 i_rv_walk_24 ?_
      refine ev_get i_rv_walk_25 fl_rv_27 (by repeat (first | assumption | exact va_up_self _ _ _ | refine hu_ne (by first | assumption | exact Ne.symm (by assumption)) ?_)) rfl ?_
      refine ev_icmp_ge i_rv_walk_28 (fun c_28 => ?_) (fun c_28 => ?_)
      · have hle : s.1 ≤ i := (nI_leI (by omega) (by omega)).mp c_28
        refine ev_return i_rv_walk_104 rfl ?_
        rw [stop hle]
        exact ⟨rfl, rfl, hok⟩
      have hlt : i < s.1 := by
        rcases Nat.lt_or_ge i s.1 with z | z
        · exact z
        · exact absurd (nI_le z (by omega)) c_28
      obtain ⟨p, w, hp, hw, eN, eW⟩ := hok.2 i hlt
      rw [if_pos hlt, eN, nI_clamp (by omega)] at nxt
      obtain ⟨hPp, hpk⟩ := hI p hp
      obtain ⟨k1, k2, k3, k4, k5, k6, k7, k8, k9⟩ := hpk
      generalize I p = J at hPp k1 k2 k3 k4 k5 k6 k7 k8 k9 nxt
      obtain ⟨⟨ja, jf, jb, ju, jv⟩, ⟨jn, jB⟩, ⟨jun, jU, jV⟩, jge⟩ := J
      dsimp only at hPp k1 k2 k3 k4 k5 k6 k7 k8 k9 nxt
      have g1 : ∀ s : rvs, rv_h G h a q1 q2 q3 q4 q5 s ja = some (pk_c jf ju jv jun jge) := fun s => hget s ja _ k1 (fun f z => by cases z) (fun m z => by cases z)
      have g4 : ∀ s : rvs, rv_h G h a q1 q2 q3 q4 q5 s ju = some (aI G 6 jU) := fun s => hget s ju _ k4 (fun f z => by cases z) (fun m z => by cases z)
      have g5 : ∀ s : rvs, rv_h G h a q1 q2 q3 q4 q5 s jv = some (aI G 6 jV) := fun s => hget s jv _ k5 (fun f z => by cases z) (fun m z => by cases z)
      refine ev_aload_1 i_rv_walk_31 ?_
      refine ev_aload_0 i_rv_walk_32 ?_
      refine ev_get i_rv_walk_33 fl_rv_11 (by repeat (first | assumption | exact va_up_self _ _ _ | refine hu_ne (by first | assumption | exact Ne.symm (by assumption)) ?_)) rfl ?_
      refine ev_iload_4 i_rv_walk_36 ?_
      refine ev_iaload i_rv_walk_38 ty_int f1 (j := i) rfl (by omega) (by omega) ?_
      refine ev_aaload i_rv_walk_39 ty_pack (hPs s) (j := p) eN (by omega) (by omega) ?_
      rw [hPp]
      refine ev_astore_5 i_rv_walk_40 rfl ?_
      refine ev_iconst (v := 0) i_rv_walk_42 (by decide) ?_
      refine ev_istore_6 i_rv_walk_43 rfl ?_
      have inner : ∀ (mm k : Nat), k + mm = jun → Ev G M_rv_walk 1 0 0 (ev_qv fun h' => h' = rv_h G h a q1 q2 q3 q4 q5 (rv_out (fun p => (I p).2.2.1) s1 48) ∧ rv_ok np (rv_out (fun p => (I p).2.2.1) s1 48)) 45 [some (.ref a), some (.ref pp), some (.int (nI p0)), some (.int (nI w0)), some (.int (nI i)), some (.ref ja), some (.int (nI k))] [] (rv_h G h a q1 q2 q3 q4 q5 (rv_in jU jV i s k)) := by
        intro mm
        induction mm with
        | zero =>
          intro k hk
          obtain rfl : k = jun := by omega
          have hok' := (rv_in_ok (np := np) (U := jU) (V := jV) hok hlt k k9).1
          refine ev_aload_5 i_rv_walk_45 ?_
          refine ev_ifnull i_rv_walk_47 ?_
          refine ev_iload_6 i_rv_walk_50 ?_
          refine ev_aload_5 i_rv_walk_52 ?_
          refine ev_get i_rv_walk_54 fl_rv_35 (g1 _) rfl ?_
          refine ev_icmp_ge i_rv_walk_57 (fun c_57 => ?_) (fun c_57 => ?_)
          · refine ev_iinc_4 i_rv_walk_98 (nI_1 i) rfl ?_
            refine ev_goto i_rv_walk_101 ?_
            have := ih (i + 1) (some (.ref ja)) (some (.int (nI k))) rfl rfl (by omega)
            rw [nxt] at this
            exact this hok'
          · exact absurd (nI_le (Nat.le_refl _) (by omega)) c_57
        | succ mm ihh =>
          intro k hk
          obtain ⟨hok', hge⟩ := rv_in_ok (np := np) (U := jU) (V := jV) hok hlt k (fun i hi => k9 i (by omega))
          obtain ⟨f0, f1, f2, f5⟩ := rv_h_facts (G := G) (h := h) (s := rv_in jU jV i s k) (q3 := q3) (q4 := q4) hd na1 na2 na5
          have ns : rv_in jU jV i s (k + 1) = rv_add (rv_in jU jV i s k) (jU k) (if (rv_in jU jV i s k).2.2.1 i < jV k then jV k else (rv_in jU jV i s k).2.2.1 i) (nI i) := rfl
          refine ev_aload_5 i_rv_walk_45 ?_
          refine ev_ifnull i_rv_walk_47 ?_
          refine ev_iload_6 i_rv_walk_50 ?_
          refine ev_aload_5 i_rv_walk_52 ?_
          refine ev_get i_rv_walk_54 fl_rv_35 (g1 _) rfl ?_
          refine ev_icmp_ge i_rv_walk_57 (fun c_57 => ?_) (fun c_57 => ?_)
          · exact absurd c_57 (nI_ge (by omega) (by omega))
          refine ev_aload_0 i_rv_walk_60 ?_
          refine ev_aload_5 i_rv_walk_61 ?_
          refine ev_get i_rv_walk_63 fl_rv_40 (g1 _) rfl ?_
          refine ev_iload_6 i_rv_walk_66 ?_
          refine ev_iaload i_rv_walk_68 ty_int (g4 _) (j := k) rfl (by omega) (by omega) ?_
          refine ev_aload_0 i_rv_walk_69 ?_
          refine ev_get i_rv_walk_70 fl_rv_15 (by repeat (first | assumption | exact va_up_self _ _ _ | refine hu_ne (by first | assumption | exact Ne.symm (by assumption)) ?_)) rfl ?_
          refine ev_iload_4 i_rv_walk_73 ?_
          refine ev_iaload i_rv_walk_75 ty_int f2 (j := i) rfl (by omega) (by omega) ?_
          refine ev_aload_5 i_rv_walk_76 ?_
          refine ev_get i_rv_walk_78 fl_rv_43 (g1 _) rfl ?_
          refine ev_iload_6 i_rv_walk_81 ?_
          refine ev_iaload i_rv_walk_83 ty_int (g5 _) (j := k) rfl (by omega) (by omega) ?_
          refine ev_mmax i_rv_walk_84 ma_rv_46 (by decide) (Nat.le_of_ble_eq_true rfl) ?_
          refine ev_iload_4 i_rv_walk_87 ?_
          refine ev_vv3 i_rv_walk_89 lk_rv_31 cb_rv_addOnce iv_rv_addOnce (r_rv_addOnce hd f0 f1 f2 f5 hok'.1) f0 rfl (by decide) (Nat.le_of_ble_eq_true rfl) rfl rfl (fun h' hq => ?_)
          subst hq
          rw [rv_h_h hd na1 na2 na5]
          refine ev_iinc_6 i_rv_walk_92 (nI_1 k) rfl ?_
          refine ev_goto i_rv_walk_95 ?_
          have := ihh (k + 1) (by omega)
          rw [ns] at this
          exact this
      exact inner jun 0 (by omega)
  exact loop 48 0 none none rfl rfl (by omega) hs0
end RV3
