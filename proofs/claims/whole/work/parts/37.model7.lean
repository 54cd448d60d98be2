section MO7
variable {G : ev_G} {h h0 : ev_H} {m : Nat} {ad : Nat → Nat} {sc : Nat → Int32} {A : Nat → Nat → Int32} {Wd : Nat → Int64}
variable {pm cm um : Nat → Nat} {pcd : Nat → Nat → Nat}
theorem pgh : ∀ (N n : Nat) (f : Nat → Nat), (∀ i, i < n → f i < N) → (∀ i j, i < n → j < n → f i = f j → i = j) → n ≤ N := by
  intro N
  induction N with
  | zero =>
    intro n f h1 _
    rcases Nat.eq_zero_or_pos n with z | z
    · omega
    · have := h1 0 z
      omega
  | succ N ih =>
    intro n f h1 h2
    rcases Nat.eq_zero_or_pos n with z | z
    · omega
    obtain ⟨k, rfl⟩ : ∃ k, n = k + 1 := ⟨n - 1, by omega⟩
    have := ih k (fun i => if f i = N then f k else f i) (by
      intro i hi
      have a1 := h1 i (by omega)
      have a2 := h1 k (by omega)
      split
      · rename_i e
        have : f k ≠ N := fun e' => by
          have := h2 i k (by omega) (by omega) (e.trans e'.symm)
          omega
        omega
      · omega) (by
      intro i j hi hj e
      split at e <;> split at e
      · rename_i e1 e2
        exact h2 i j (by omega) (by omega) (e1.trans e2.symm)
      · have := h2 k j (by omega) (by omega) e
        omega
      · have := h2 i k (by omega) (by omega) e
        omega
      · exact h2 i j (by omega) (by omega) e)
    omega
/-- no two entries are alike -/
def rv_dis (s : rvs) : Prop := ∀ i j, i < j → j < s.1 → ¬ (s.2.1 i = s.2.1 j ∧ s.2.2.1 i = s.2.2.1 j)
theorem rv_full {np p w : Nat} {s : rvs} (hs : rv_ok np s) (hd : rv_dis s) (hnp : np ≤ 16) (hp : p < np) (hw : w < 3) (h48 : 48 ≤ s.1) : rv_hit s (nI p) (nI w) = true := by
  cases hh : rv_hit s (nI p) (nI w) with
  | true => rfl
  | false =>
    exfalso
    have nh : ∀ i, i < s.1 → ¬ (s.2.1 i = nI p ∧ s.2.2.1 i = nI w) := fun i hi z => by
      have := rv_hit_t hi z.1 z.2
      rw [hh] at this
      cases this
    have ex : ∀ i, i < s.1 → ∃ a b, a < np ∧ b < 3 ∧ s.2.1 i = nI a ∧ s.2.2.1 i = nI b ∧ 3 * (s.2.1 i).toNatClampNeg + (s.2.2.1 i).toNatClampNeg = 3 * a + b := by
      intro i hi
      obtain ⟨a, b, h1, h2, h3, h4⟩ := hs.2 i hi
      exact ⟨a, b, h1, h2, h3, h4, by rw [h3, h4, nI_clamp (by omega), nI_clamp (by omega)]⟩
    have := pgh 48 49 (fun i => if i < 48 then 3 * (s.2.1 i).toNatClampNeg + (s.2.2.1 i).toNatClampNeg else 3 * p + w) (by
      intro i hi
      split
      · obtain ⟨a, b, h1, h2, h3, h4, h5⟩ := ex i (by omega)
        omega
      · omega) (by
      intro i j hi hj e
      split at e <;> split at e
      · obtain ⟨a, b, h1, h2, h3, h4, h5⟩ := ex i (by omega)
        obtain ⟨a', b', g1, g2, g3, g4, g5⟩ := ex j (by omega)
        have ea : a = a' := by omega
        have eb : b = b' := by omega
        subst ea eb
        rcases Nat.lt_trichotomy i j with z | z | z
        · exact absurd ⟨h3.trans g3.symm, h4.trans g4.symm⟩ (hd i j z (by omega))
        · exact z
        · exact absurd ⟨g3.trans h3.symm, g4.trans h4.symm⟩ (hd j i z (by omega))
      · obtain ⟨a, b, h1, h2, h3, h4, h5⟩ := ex i (by omega)
        have ea : a = p := by omega
        have eb : b = w := by omega
        subst ea eb
        exact absurd ⟨h3, h4⟩ (nh i (by omega))
      · obtain ⟨a, b, h1, h2, h3, h4, h5⟩ := ex j (by omega)
        have ea : a = p := by omega
        have eb : b = w := by omega
        subst ea eb
        exact absurd ⟨h3, h4⟩ (nh j (by omega))
      · omega)
    omega
theorem rv_add_h {s : rvs} {x y o : Int32} (hh : rv_hit s x y = true) : rv_add s x y o = s := by unfold rv_add; rw [if_pos (Or.inl hh)]
theorem rv_add_n {np p w : Nat} {s : rvs} {o : Int32} (hs : rv_ok np s) (hd : rv_dis s) (hnp : np ≤ 16) (hp : p < np) (hw : w < 3) (hh : rv_hit s (nI p) (nI w) = false) : s.1 < 48 ∧ rv_add s (nI p) (nI w) o = (s.1 + 1, upd s.2.1 s.1 (nI p), upd s.2.2.1 s.1 (nI w), upd s.2.2.2 s.1 o) := by
  have h48 : s.1 < 48 := by
    rcases Nat.lt_or_ge s.1 48 with z | z
    · exact z
    · rw [rv_full hs hd hnp hp hw z] at hh
      cases hh
  refine ⟨h48, ?_⟩
  unfold rv_add
  rw [if_neg (fun z => z.elim (fun q => by rw [hh] at q; cases q) (fun q => by omega))]
theorem rv_add_dis {np p w : Nat} {s : rvs} {o : Int32} (hs : rv_ok np s) (hd : rv_dis s) (hnp : np ≤ 16) (hp : p < np) (hw : w < 3) : rv_dis (rv_add s (nI p) (nI w) o) := by
  cases hh : rv_hit s (nI p) (nI w) with
  | true => rw [rv_add_h hh]; exact hd
  | false =>
    rw [(rv_add_n hs hd hnp hp hw hh).2]
    intro i j hij hj
    dsimp only at hj ⊢
    by_cases e : j = s.1
    · subst e
      rw [pk_us, pk_us, upd_ne (by omega), upd_ne (by omega)]
      intro z
      have := rv_hit_t hij z.1 z.2
      rw [hh] at this
      cases this
    · rw [upd_ne (by omega), upd_ne (by omega), upd_ne (by omega), upd_ne (by omega)]
      exact hd i j hij (by omega)
/-- what the reference says of a package in a way -/
def mk2 (A : Nat → Nat → Int32) (clk : Int32) (pm cm : Nat → Nat) (p w : Nat) : Int32 × Int32 :=
  (if 0 < cm p ∧ (mbest A p w (pm p) (cm p)).1 = -1 then (if clk < A 17 p then 3 else 2) else if mbd A p w (pm p) (cm p) = 0 then 0 else 1, mbd A p w (pm p) (cm p))
def mag (A B : Nat → Nat → Int32) : Prop := ∀ k, k < 29 → B k = A k
theorem mdut_ag {A B : Nat → Nat → Int32} (hg : mag A B) (p i w : Nat) : ∀ k, mdut B p i w k = mdut A p i w k := by
  intro k
  induction k with
  | zero => rfl
  | succ k ih =>
    unfold mdut mlift
    rw [ih, hg 13 (by omega), hg 7 (by omega), hg 11 (by omega), hg 5 (by omega), hg 6 (by omega)]
theorem mbest_ag {A B : Nat → Nat → Int32} (hg : mag A B) (p w pm : Nat) : ∀ k, mbest B p w pm k = mbest A p w pm k := by
  intro k
  induction k with
  | zero => rfl
  | succ k ih =>
    rw [mbest_s, mbest_s, ih]
    unfold mwt
    rw [mdut_ag hg, hg 13 (by omega)]
theorem mbd_ag {A B : Nat → Nat → Int32} (hg : mag A B) (p w pm cm : Nat) : mbd B p w pm cm = mbd A p w pm cm := by
  unfold mbd
  rw [mbest_ag hg, mdut_ag hg]
theorem mk2_ag {A B : Nat → Nat → Int32} (hg : mag A B) (clk : Int32) (pm cm : Nat → Nat) (p w : Nat) : mk2 B clk pm cm p w = mk2 A clk pm cm p w := by
  unfold mk2
  rw [mbest_ag hg, mbd_ag hg, hg 17 (by omega)]
theorem mag_tr {A B C : Nat → Nat → Int32} (p : mag A B) (q : mag B C) : mag A C := fun k hk => (q k hk).trans (p k hk)
theorem mag_up {A : Nat → Nat → Int32} {k : Nat} {f : Nat → Int32} (hk : 29 ≤ k) : mag A (va_up A k f) := fun j hj => va_up_ne _ _ (by omega)
theorem MP_ag {A B : Nat → Nat → Int32} (hg : mag A B) (hP : MP A pm cm pcd) : MP B pm cm pcd := by
  unfold MP
  rw [hg 10 (by omega), hg 12 (by omega), hg 11 (by omega)]
  exact hP
/-- the entries' kinds and duties -/
def mev (E : Nat → Nat → Int32 × Int32) (A : Nat → Nat → Int32) (n : Nat) : Prop := ∀ q, q < n → A 31 q = (E (A 29 q).toNatClampNeg (A 30 q).toNatClampNeg).1 ∧ A 32 q = (E (A 29 q).toNatClampNeg (A 30 q).toNatClampNeg).2
def mrv (n : Nat) (A : Nat → Nat → Int32) : rvs := (n, A 29, A 30, A 33)
theorem r_mo_come {p w np n : Nat} {o : Int32} (H : MI G h0 h m ad sc A Wd) (hn : sc 28 = nI n) (hs : rv_ok np (mrv n A)) (hd : rv_dis (mrv n A)) (hnp : np ≤ 16) (hp : p < np) (hw : w < 3) (hP : MP A pm cm pcd) (hE : mev (mk2 A (sc 1) pm cm) A n) :
    Rn G M_mo_come 4 0 0 [.ref m, .int (nI p), .int (nI w), .int o] h (ev_qv fun h' => ∃ (n' : Nat) (A' : Nat → Nat → Int32), MI G h0 h' m ad (va_up sc 28 (nI n')) A' Wd ∧ mrv n' A' = rv_add (mrv n A) (nI p) (nI w) o ∧ mag A A' ∧ mev (mk2 A (sc 1) pm cm) A' n') := by
  refine Rn_of (ls := [some (.ref m), some (.int (nI p)), some (.int (nI w)), some (.int o), none]) rfl rfl (Nat.le_of_ble_eq_true rfl) rfl ?_
  refine ev_iconst (v := 0) i_mo_come_0 (by decide) ?_
  refine ev_istore_4 i_mo_come_1 rfl ?_
  have hn48 : n ≤ 48 := hs.1
  obtain ⟨⟨g1, g2⟩, ⟨g3, g4⟩, g5⟩ := hP p (by omega)
  have loop : ∀ (q j : Nat), j + q = n → (∀ t, t < j → ¬ (A 29 t = nI p ∧ A 30 t = nI w)) → Ev G M_mo_come 4 0 0 (ev_qv fun h' => ∃ (n' : Nat) (A' : Nat → Nat → Int32), MI G h0 h' m ad (va_up sc 28 (nI n')) A' Wd ∧ mrv n' A' = rv_add (mrv n A) (nI p) (nI w) o ∧ mag A A' ∧ mev (mk2 A (sc 1) pm cm) A' n') 3 [some (.ref m), some (.int (nI p)), some (.int (nI w)), some (.int o), some (.int (nI j))] [] h := by
    intro q
    induction q with
    | zero =>
      intro j hj hno
      obtain rfl : j = n := by omega
      have hh : rv_hit (mrv j A) (nI p) (nI w) = false := by
        cases hh : rv_hit (mrv j A) (nI p) (nI w) with
        | false => rfl
        | true =>
          obtain ⟨i, hi, e1, e2⟩ := rv_hit_f (j := 0) hh
          exact absurd ⟨e1, e2⟩ (hno i hi)
      obtain ⟨hlt, eadd⟩ := rv_add_n (o := o) hs hd hnp hp hw hh
      have hlt : j < 48 := hlt
      refine ev_iload_4 i_mo_come_3 ?_
      refine ev_aload_0 i_mo_come_5 ?_
      refine ev_get i_mo_come_6 fl_mo_169 H.1 rfl ?_
      refine ev_top (y := nI j) hn ?_
      refine ev_icmp_ge i_mo_come_9 (fun c_9 => ?_) (fun c_9 => ?_)
      rotate_left
      · exact absurd (nI_le (Nat.le_refl _) (by omega)) c_9
      refine ev_aload_0 i_mo_come_41 ?_
      refine ev_get i_mo_come_42 fl_mo_66 H.1 rfl ?_
      refine ev_aload_0 i_mo_come_45 ?_
      refine ev_get i_mo_come_46 fl_mo_169 H.1 rfl ?_
      refine ev_iload_1 i_mo_come_49 ?_
      refine ev_is (L := 48) i_mo_come_50 H rfl rfl (j := j) hn hlt (by omega) (fun h H => ?_)
      refine ev_aload_0 i_mo_come_51 ?_
      refine ev_get i_mo_come_52 fl_mo_69 H.1 rfl ?_
      refine ev_aload_0 i_mo_come_55 ?_
      refine ev_get i_mo_come_56 fl_mo_169 H.1 rfl ?_
      refine ev_iload_2 i_mo_come_59 ?_
      refine ev_is (L := 48) i_mo_come_60 H rfl rfl (j := j) hn hlt (by omega) (fun h H => ?_)
      refine ev_aload_0 i_mo_come_61 ?_
      refine ev_get i_mo_come_62 fl_mo_78 H.1 rfl ?_
      refine ev_aload_0 i_mo_come_65 ?_
      refine ev_get i_mo_come_66 fl_mo_169 H.1 rfl ?_
      refine ev_iload_3 i_mo_come_69 ?_
      refine ev_is (L := 48) i_mo_come_70 H rfl rfl (j := j) hn hlt (by omega) (fun h H => ?_)
      refine ev_aload_0 i_mo_come_71 ?_
      refine ev_get i_mo_come_72 fl_mo_75 H.1 rfl ?_
      refine ev_aload_0 i_mo_come_75 ?_
      refine ev_get i_mo_come_76 fl_mo_169 H.1 rfl ?_
      refine ev_aload_0 i_mo_come_79 ?_
      refine ev_iload_1 i_mo_come_80 ?_
      refine ev_iload_2 i_mo_come_81 ?_
      generalize hB : va_up (va_up (va_up A 29 (upd (A 29) j (nI p))) 30 (upd (va_up A 29 (upd (A 29) j (nI p)) 30) j (nI w))) 33 (upd (va_up (va_up A 29 (upd (A 29) j (nI p))) 30 (upd (va_up A 29 (upd (A 29) j (nI p)) 30) j (nI w)) 33) j o) = B at *
      have agB : mag A B := by rw [← hB]; exact mag_tr (mag_up (by omega)) (mag_tr (mag_up (by omega)) (mag_up (by omega)))
      have hPB := MP_ag agB hP
      obtain ⟨⟨k1, k2⟩, ⟨k3, k4⟩, k5⟩ := hPB p (by omega)
      have b29 : B 29 = upd (A 29) j (nI p) := by rw [← hB]; rfl
      have b30 : B 30 = upd (A 30) j (nI w) := by rw [← hB]; rfl
      have b33 : B 33 = upd (A 33) j o := by rw [← hB]; rfl
      have b31 : B 31 = A 31 := by rw [← hB]; rfl
      have b32 : B 32 = A 32 := by rw [← hB]; rfl
      clear hB
      refine ev_vi2 i_mo_come_82 lk_mo_161 cb_mo_bestDuties iv_mo_bestDuties (r_mo_bestDuties H (show p < 16 by omega) hw k1 k2 k3 k4 k5) H.1 rfl (by decide) (Nat.le_of_ble_eq_true rfl) rfl rfl (fun v h2 hq => ?_)
      obtain ⟨rfl, rfl⟩ := hq
      rw [mbd_ag agB]
      refine ev_is (L := 48) i_mo_come_85 H rfl rfl (j := j) hn hlt (by omega) (fun h H => ?_)
      generalize hC : va_up B 32 (upd (B 32) j (mbd A p w (pm p) (cm p))) = C at *
      have agC : mag A C := by rw [← hC]; exact mag_tr agB (mag_up (by omega))
      have hPC := MP_ag agC hP
      obtain ⟨⟨k1, k2⟩, ⟨k3, k4⟩, k5⟩ := hPC p (by omega)
      have c29 : C 29 = upd (A 29) j (nI p) := by rw [← hC]; exact b29
      have c30 : C 30 = upd (A 30) j (nI w) := by rw [← hC]; exact b30
      have c33 : C 33 = upd (A 33) j o := by rw [← hC]; exact b33
      have c31 : C 31 = A 31 := by rw [← hC]; exact b31
      have c32 : C 32 = upd (A 32) j (mbd A p w (pm p) (cm p)) := by rw [← hC]; show upd (B 32) j _ = _; rw [b32]
      clear hC
      have fin : ∀ (h' : ev_H) (kd : Int32), kd = (mk2 A (sc 1) pm cm p w).1 → MI G h0 h' m ad sc (va_up C 31 (upd (C 31) j kd)) Wd → Ev G M_mo_come 4 0 0 (ev_qv fun h' => ∃ (n' : Nat) (A' : Nat → Nat → Int32), MI G h0 h' m ad (va_up sc 28 (nI n')) A' Wd ∧ mrv n' A' = rv_add (mrv j A) (nI p) (nI w) o ∧ mag A A' ∧ mev (mk2 A (sc 1) pm cm) A' n') 164 [some (.ref m), some (.int (nI p)), some (.int (nI w)), some (.int o), some (.int 0)] [] h' ∧ Ev G M_mo_come 4 0 0 (ev_qv fun h' => ∃ (n' : Nat) (A' : Nat → Nat → Int32), MI G h0 h' m ad (va_up sc 28 (nI n')) A' Wd ∧ mrv n' A' = rv_add (mrv j A) (nI p) (nI w) o ∧ mag A A' ∧ mev (mk2 A (sc 1) pm cm) A' n') 164 [some (.ref m), some (.int (nI p)), some (.int (nI w)), some (.int o), some (.int 1)] [] h' := by
        intro h' kd hkd H
        have done : ∀ h'', MI G h0 h'' m ad (va_up sc 28 (nI (j + 1))) (va_up C 31 (upd (C 31) j kd)) Wd → ∃ (n' : Nat) (A' : Nat → Nat → Int32), MI G h0 h'' m ad (va_up sc 28 (nI n')) A' Wd ∧ mrv n' A' = rv_add (mrv j A) (nI p) (nI w) o ∧ mag A A' ∧ mev (mk2 A (sc 1) pm cm) A' n' := by
          intro h'' H
          refine ⟨j + 1, _, H, ?_, mag_tr agC (mag_up (by omega)), ?_⟩
          · rw [eadd]
            show ((j + 1, C 29, C 30, C 33) : rvs) = _
            rw [c29, c30, c33]
            rfl
          · intro q hq
            show upd (C 31) j kd q = (mk2 A (sc 1) pm cm (C 29 q).toNatClampNeg (C 30 q).toNatClampNeg).1 ∧ C 32 q = (mk2 A (sc 1) pm cm (C 29 q).toNatClampNeg (C 30 q).toNatClampNeg).2
            rw [c29, c30, c31, c32]
            by_cases e : q = j
            · subst e
              rw [pk_us, pk_us, pk_us, pk_us, nI_clamp (by omega), nI_clamp (by omega)]
              exact ⟨hkd, rfl⟩
            · rw [upd_ne e, upd_ne e, upd_ne e, upd_ne e]
              exact hE q (by omega)
        constructor
        · refine ev_aload_0 i_mo_come_164 ?_
          refine ev_dup i_mo_come_165 rfl ?_
          refine ev_get i_mo_come_166 fl_mo_169 H.1 rfl ?_
          refine ev_iconst (v := 1) i_mo_come_169 (by decide) ?_
          refine ev_iadd i_mo_come_170 ?_
          refine ev_top (y := nI (j + 1)) (by rw [hn]; exact nI_1 _) ?_
          refine ev_p28 i_mo_come_171 pl_mo_come_169 H (fun h H => ?_)
          refine ev_return i_mo_come_174 rfl ?_
          exact ⟨rfl, done _ H⟩
        · refine ev_aload_0 i_mo_come_164 ?_
          refine ev_dup i_mo_come_165 rfl ?_
          refine ev_get i_mo_come_166 fl_mo_169 H.1 rfl ?_
          refine ev_iconst (v := 1) i_mo_come_169 (by decide) ?_
          refine ev_iadd i_mo_come_170 ?_
          refine ev_top (y := nI (j + 1)) (by rw [hn]; exact nI_1 _) ?_
          refine ev_p28 i_mo_come_171 pl_mo_come_169 H (fun h H => ?_)
          refine ev_return i_mo_come_174 rfl ?_
          exact ⟨rfl, done _ H⟩
      have k2e : (mk2 A (sc 1) pm cm p w).1 = (if 0 < cm p ∧ (mbest A p w (pm p) (cm p)).1 = -1 then (if sc 1 < A 17 p then 3 else 2) else if mbd A p w (pm p) (cm p) = 0 then 0 else 1) := rfl
      have tail0 : ∀ h', MI G h0 h' m ad sc C Wd → ¬ (0 < cm p ∧ (mbest A p w (pm p) (cm p)).1 = -1) → Ev G M_mo_come 4 0 0 (ev_qv fun h' => ∃ (n' : Nat) (A' : Nat → Nat → Int32), MI G h0 h' m ad (va_up sc 28 (nI n')) A' Wd ∧ mrv n' A' = rv_add (mrv j A) (nI p) (nI w) o ∧ mag A A' ∧ mev (mk2 A (sc 1) pm cm) A' n') 110 [some (.ref m), some (.int (nI p)), some (.int (nI w)), some (.int o), some (.int (nI j))] [.int 0] h' := by
        intro h' H hnb
        rw [if_neg hnb] at k2e
        refine ev_istore_4 i_mo_come_110 rfl ?_
        refine ev_aload_0 i_mo_come_112 ?_
        refine ev_get i_mo_come_113 fl_mo_72 H.1 rfl ?_
        refine ev_aload_0 i_mo_come_116 ?_
        refine ev_get i_mo_come_117 fl_mo_169 H.1 rfl ?_
        refine ev_iload_4 i_mo_come_120 ?_
        refine ev_if_eq i_mo_come_122 (fun c_122 => ?_) (fun c_122 => ?_)
        rotate_left
        · exact absurd rfl c_122
        refine ev_aload_0 i_mo_come_146 ?_
        refine ev_get i_mo_come_147 fl_mo_75 H.1 rfl ?_
        refine ev_aload_0 i_mo_come_150 ?_
        refine ev_get i_mo_come_151 fl_mo_169 H.1 rfl ?_
        refine ev_ia (L := 48) i_mo_come_154 H rfl rfl (j := j) hn hlt (by omega) ?_
        rw [c32, pk_us]
        refine ev_if_ne i_mo_come_155 (fun c_155 => ?_) (fun c_155 => ?_)
        · rw [if_neg c_155] at k2e
          refine ev_iconst (v := 1) i_mo_come_162 (by decide) ?_
          refine ev_is (L := 48) i_mo_come_163 H rfl rfl (j := j) hn hlt (by omega) (fun h H => ?_)
          exact (fin _ _ k2e.symm H).1
        · rw [if_pos c_155] at k2e
          refine ev_iconst (v := 0) i_mo_come_158 (by decide) ?_
          refine ev_goto i_mo_come_159 ?_
          refine ev_is (L := 48) i_mo_come_163 H rfl rfl (j := j) hn hlt (by omega) (fun h H => ?_)
          exact (fin _ _ k2e.symm H).1
      refine ev_aload_0 i_mo_come_86 ?_
      refine ev_get i_mo_come_87 fl_mo_33 H.1 rfl ?_
      refine ev_iload_1 i_mo_come_90 ?_
      refine ev_ia (L := 16) i_mo_come_91 H rfl rfl (j := p) rfl (by omega) (by omega) ?_
      rw [k3]
      refine ev_if_le i_mo_come_92 (fun c_92 => ?_) (fun c_92 => ?_)
      · have : ¬ 0 < cm p := fun z => absurd c_92 (nI_nle z (by omega))
        refine ev_iconst (v := 0) i_mo_come_109 (by decide) ?_
        exact tail0 _ H (fun z => this z.1)
      have hpos : 0 < cm p := by
        rcases Nat.eq_zero_or_pos (cm p) with z | z
        · rw [z] at c_92; exact absurd (by decide) c_92
        · exact z
      refine ev_aload_0 i_mo_come_95 ?_
      refine ev_iload_1 i_mo_come_96 ?_
      refine ev_iload_2 i_mo_come_97 ?_
      refine ev_vi2 i_mo_come_98 lk_mo_157 cb_mo_bestOf iv_mo_bestOf (r_mo_bestOf H (show p < 16 by omega) hw k1 k2 k3 k4 k5) H.1 rfl (by decide) (Nat.le_of_ble_eq_true rfl) rfl rfl (fun v h3 hq => ?_)
      obtain ⟨rfl, rfl⟩ := hq
      rw [mbest_ag agC]
      refine ev_iconst (v := (-1)) i_mo_come_101 (by decide) ?_
      refine ev_icmp_ne i_mo_come_102 (fun c_102 => ?_) (fun c_102 => ?_)
      · refine ev_iconst (v := 0) i_mo_come_109 (by decide) ?_
        exact tail0 _ H (fun z => c_102 z.2)
      rw [if_pos ⟨hpos, c_102⟩] at k2e
      refine ev_iconst (v := 1) i_mo_come_105 (by decide) ?_
      refine ev_goto i_mo_come_106 ?_
      refine ev_istore_4 i_mo_come_110 rfl ?_
      refine ev_aload_0 i_mo_come_112 ?_
      refine ev_get i_mo_come_113 fl_mo_72 H.1 rfl ?_
      refine ev_aload_0 i_mo_come_116 ?_
      refine ev_get i_mo_come_117 fl_mo_169 H.1 rfl ?_
      refine ev_iload_4 i_mo_come_120 ?_
      refine ev_if_eq i_mo_come_122 (fun c_122 => ?_) (fun c_122 => ?_)
      · exact absurd c_122 (by decide)
      refine ev_aload_0 i_mo_come_125 ?_
      refine ev_get i_mo_come_126 fl_mo_165 H.1 rfl ?_
      refine ev_aload_0 i_mo_come_129 ?_
      refine ev_get i_mo_come_130 fl_mo_48 H.1 rfl ?_
      refine ev_iload_1 i_mo_come_133 ?_
      refine ev_ia (L := 16) i_mo_come_134 H rfl rfl (j := p) rfl (by omega) (by omega) ?_
      rw [agC 17 (by omega)]
      refine ev_icmp_ge i_mo_come_135 (fun c_135 => ?_) (fun c_135 => ?_)
      · rw [if_neg (Int32.not_lt.mpr c_135)] at k2e
        refine ev_iconst (v := 2) i_mo_come_142 (by decide) ?_
        refine ev_goto i_mo_come_143 ?_
        refine ev_is (L := 48) i_mo_come_163 H rfl rfl (j := j) hn hlt (by omega) (fun h H => ?_)
        exact (fin _ _ k2e.symm H).2
      · rw [if_pos (Int32.not_le.mp c_135)] at k2e
        refine ev_iconst (v := 3) i_mo_come_138 (by decide) ?_
        refine ev_goto i_mo_come_139 ?_
        refine ev_is (L := 48) i_mo_come_163 H rfl rfl (j := j) hn hlt (by omega) (fun h H => ?_)
        exact (fin _ _ k2e.symm H).2
    | succ q ih =>
      intro j hj hno
      have nx : ¬ (A 29 j = nI p ∧ A 30 j = nI w) → _ := fun z => ih (j + 1) (by omega) (fun t ht => by
        by_cases e : t = j
        · rw [e]; exact z
        · exact hno t (by omega))
      refine ev_iload_4 i_mo_come_3 ?_
      refine ev_aload_0 i_mo_come_5 ?_
      refine ev_get i_mo_come_6 fl_mo_169 H.1 rfl ?_
      refine ev_top (y := nI n) hn ?_
      refine ev_icmp_ge i_mo_come_9 (fun c_9 => ?_) (fun c_9 => ?_)
      · exact absurd c_9 (nI_ge (by omega) (by omega))
      refine ev_aload_0 i_mo_come_12 ?_
      refine ev_get i_mo_come_13 fl_mo_66 H.1 rfl ?_
      refine ev_iload_4 i_mo_come_16 ?_
      refine ev_ia (L := 48) i_mo_come_18 H rfl rfl (j := j) rfl (by omega) (by omega) ?_
      refine ev_iload_1 i_mo_come_19 ?_
      refine ev_icmp_ne i_mo_come_20 (fun c_20 => ?_) (fun c_20 => ?_)
      · refine ev_iinc_4 i_mo_come_35 (nI_1 j) rfl ?_
        refine ev_goto i_mo_come_38 ?_
        exact nx (fun z => c_20 z.1)
      refine ev_aload_0 i_mo_come_23 ?_
      refine ev_get i_mo_come_24 fl_mo_69 H.1 rfl ?_
      refine ev_iload_4 i_mo_come_27 ?_
      refine ev_ia (L := 48) i_mo_come_29 H rfl rfl (j := j) rfl (by omega) (by omega) ?_
      refine ev_iload_2 i_mo_come_30 ?_
      refine ev_icmp_ne i_mo_come_31 (fun c_31 => ?_) (fun c_31 => ?_)
      · refine ev_iinc_4 i_mo_come_35 (nI_1 j) rfl ?_
        refine ev_goto i_mo_come_38 ?_
        exact nx (fun z => c_31 z.2)
      refine ev_return i_mo_come_34 rfl ?_
      refine ⟨rfl, n, A, ?_, ?_, fun _ _ => rfl, hE⟩
      · rw [hu_self hn]; exact H
      · rw [rv_add_h (rv_hit_t (s := mrv n A) (i := j) (show j < n by omega) c_20 c_31)]
  exact loop n 0 (by omega) (fun t ht => by omega)
end MO7
