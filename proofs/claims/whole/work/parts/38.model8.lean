section MO8
variable {G : ev_G} {h h0 : ev_H} {m : Nat} {ad : Nat → Nat} {sc : Nat → Int32} {A : Nat → Nat → Int32} {Wd : Nat → Int64}
variable {pm cm um : Nat → Nat} {pcd : Nat → Nat → Nat}
def USm (A : Nat → Nat → Int32) (um : Nat → Nat) (p : Nat) : Nat × (Nat → Int32) × (Nat → Int32) := (um p, fun k => A 15 (6 * p + k), fun k => A 16 (6 * p + k))
/-- the uses in the reference are in their ranges -/
def MU (A : Nat → Nat → Int32) (np : Nat) (um : Nat → Nat) : Prop := ∀ p, p < 16 → (A 14 p = nI (um p) ∧ um p ≤ 6) ∧ (p < np → ∀ k, k < um p → ∃ a b : Nat, a < np ∧ b < 3 ∧ A 15 (6 * p + k) = nI a ∧ A 16 (6 * p + k) = nI b)
theorem MU_ag {A B : Nat → Nat → Int32} {np : Nat} (hg : mag A B) (hU : MU A np um) : MU B np um := by
  unfold MU
  rw [hg 14 (by omega), hg 15 (by omega), hg 16 (by omega)]
  exact hU
theorem rv_in_dis {np at_ : Nat} {U V : Nat → Int32} {s : rvs} (hnp : np ≤ 16) (hs : rv_ok np s) (hd : rv_dis s) (hat : at_ < s.1) : ∀ k, (∀ i, i < k → ∃ p w : Nat, p < np ∧ w < 3 ∧ U i = nI p ∧ V i = nI w) → rv_dis (rv_in U V at_ s k) := by
  intro k
  induction k with
  | zero => exact fun _ => hd
  | succ k ih =>
    intro hu
    have hu' : ∀ i, i < k → ∃ p w : Nat, p < np ∧ w < 3 ∧ U i = nI p ∧ V i = nI w := fun i hi => hu i (by omega)
    obtain ⟨h1, h2⟩ := rv_in_ok hs hat k hu'
    obtain ⟨p, w, hp, hw, e1, e2⟩ := hu k (by omega)
    obtain ⟨p', w', hp', hw', e3, e4⟩ := h1.2 at_ (by omega)
    obtain ⟨c, hc, ec⟩ := nI_max hw' hw
    have e : rv_in U V at_ s (k + 1) = rv_add (rv_in U V at_ s k) (nI p) (nI c) (nI at_) := by
      show rv_add (rv_in U V at_ s k) (U k) (if (rv_in U V at_ s k).2.2.1 at_ < V k then V k else (rv_in U V at_ s k).2.2.1 at_) (nI at_) = _
      rw [e1, e2, e4, ec]
    rw [e]
    exact rv_add_dis h1 (ih hu') hnp hp hc
theorem mrv_29 {n : Nat} {s : rvs} (h : mrv n A = s) : A 29 = s.2.1 ∧ A 30 = s.2.2.1 ∧ A 33 = s.2.2.2 ∧ n = s.1 := by subst h; exact ⟨rfl, rfl, rfl, rfl⟩
theorem r_mo_review {i y : Int32} {np : Nat} (H : MI G h0 h m ad sc A Wd) (hn : sc 3 = nI np) (hn2 : np ≤ 16) (hP : MP A pm cm pcd) (hU : MU A np um) :
    Rn G M_mo_review 5 0 0 [.ref m, .int i, .int y] h (ev_qi fun v h' => (∃ p k rs' A', ixv i np = some p ∧ ixv y 3 = some k ∧ rs' = rv_out (USm A um) (rv_add (0, A 29, A 30, A 33) (nI p) (nI k) (-1)) 48 ∧ MI G h0 h' m ad (va_up (va_up sc 0 0) 28 (nI rs'.1)) A' Wd ∧ mrv rs'.1 A' = rs' ∧ mag A A' ∧ mev (mk2 A (sc 1) pm cm) A' rs'.1 ∧ rv_ok np rs' ∧ rv_dis rs' ∧ v = nI (sumb (fun q => decide (A' 31 q = 2)) rs'.1)) ∨ ((ixv i np = none ∨ ixv y 3 = none) ∧ v = -1 ∧ MI G h0 h' m ad (va_up sc 0 0) A Wd)) := by
  refine Rn_of (ls := [some (.ref m), some (.int i), some (.int y), none, none, none, none]) rfl rfl (Nat.le_of_ble_eq_true rfl) rfl ?_
  refine ev_aload_0 i_mo_review_0 ?_
  refine ev_iconst (v := 0) i_mo_review_1 (by decide) ?_
  refine ev_p0 i_mo_review_2 pl_mo_review_81 H (fun h H => ?_)
  refine ev_aload_0 i_mo_review_5 ?_
  refine ev_iload_1 i_mo_review_6 ?_
  refine ev_vi1 i_mo_review_7 lk_mo_143 cb_mo_isPack iv_mo_isPack (r_mo_isPack (y := i) (n := np) H hn (by omega)) H.1 rfl (by decide) (Nat.le_of_ble_eq_true rfl) rfl rfl (fun v h' hq => ?_)
  obtain ⟨rfl, rfl⟩ := hq
  rcases ix_cases i (show np < 2 ^ 31 by omega) with ⟨p, hp, rfl, e⟩ | ⟨-, e⟩
  rotate_left
  · rw [isw_0 e]
    refine ev_if_eq i_mo_review_10 (fun c_10 => ?_) (fun c_10 => ?_)
    · refine ev_iconst (v := (-1)) i_mo_review_20 (by decide) ?_
      refine ev_ireturn i_mo_review_21 rfl rfl ?_
      exact ⟨_, rfl, Or.inr ⟨Or.inl e, rfl, H⟩⟩
    · exact absurd rfl c_10
  rw [isw_1 e]
  refine ev_if_eq i_mo_review_10 (fun c_10 => ?_) (fun c_10 => ?_)
  · exact absurd c_10 (by decide)
  refine ev_iload_2 i_mo_review_13 ?_
  refine ev_ti1 i_mo_review_14 lk_mo_95 cb_mo_isWay sv_mo_isWay (r_mo_isWay (y := y)) (by decide) (Nat.le_of_ble_eq_true rfl) rfl rfl (fun v h'' hq => ?_)
  obtain ⟨rfl, rfl⟩ := hq
  rcases ix_cases y (show 3 < 2 ^ 31 by omega) with ⟨k, hk, rfl, ek⟩ | ⟨-, ek⟩
  rotate_left
  · rw [isw_0 ek]
    refine ev_if_ne i_mo_review_17 (fun c_17 => ?_) (fun c_17 => ?_)
    · exact absurd rfl c_17
    refine ev_iconst (v := (-1)) i_mo_review_20 (by decide) ?_
    refine ev_ireturn i_mo_review_21 rfl rfl ?_
    exact ⟨_, rfl, Or.inr ⟨Or.inr ek, rfl, H⟩⟩
  rw [isw_1 ek]
  refine ev_if_ne i_mo_review_17 (fun c_17 => ?_) (fun c_17 => ?_)
  rotate_left
  · exact absurd c_17 (by decide)
  generalize hQ : ev_qi (fun v h' => (∃ p' k' rs' A', ixv (nI p) np = some p' ∧ ixv (nI k) 3 = some k' ∧ rs' = rv_out (USm A um) (rv_add (0, A 29, A 30, A 33) (nI p') (nI k') (-1)) 48 ∧ MI G h0 h' m ad (va_up (va_up sc 0 0) 28 (nI rs'.1)) A' Wd ∧ mrv rs'.1 A' = rs' ∧ mag A A' ∧ mev (mk2 A (sc 1) pm cm) A' rs'.1 ∧ rv_ok np rs' ∧ rv_dis rs' ∧ v = nI (sumb (fun q => decide (A' 31 q = 2)) rs'.1)) ∨ ((ixv (nI p) np = none ∨ ixv (nI k) 3 = none) ∧ v = -1 ∧ MI G h0 h' m ad (va_up sc 0 0) A Wd)) = Q
  generalize hs0 : rv_add (0, A 29, A 30, A 33) (nI p) (nI k) (-1) = s0
  have fin : ∀ h' A' rs', rs' = rv_out (USm A um) s0 48 → MI G h0 h' m ad (va_up (va_up sc 0 0) 28 (nI rs'.1)) A' Wd → mrv rs'.1 A' = rs' → mag A A' → mev (mk2 A (sc 1) pm cm) A' rs'.1 → rv_ok np rs' → rv_dis rs' → Q (some (.int (nI (sumb (fun q => decide (A' 31 q = 2)) rs'.1)))) h' := by
    intro h' A' rs' e1 e2 e3 e4 e5 e6 e7
    rw [← hQ]
    subst hs0
    exact ⟨_, rfl, Or.inl ⟨p, k, rs', A', e, ek, e1, e2, e3, e4, e5, e6, e7, rfl⟩⟩
  clear hQ
  refine ev_aload_0 i_mo_review_22 ?_
  refine ev_iconst (v := 0) i_mo_review_23 (by decide) ?_
  refine ev_p28 i_mo_review_24 pl_mo_review_169 H (fun h H => ?_)
  refine ev_aload_0 i_mo_review_27 ?_
  refine ev_iload_1 i_mo_review_28 ?_
  refine ev_iload_2 i_mo_review_29 ?_
  refine ev_iconst (v := (-1)) i_mo_review_30 (by decide) ?_
  have ok00 : rv_ok np (mrv 0 A) := ⟨Nat.zero_le _, fun i hi => absurd hi (Nat.not_lt_zero _)⟩
  have di00 : rv_dis (mrv 0 A) := fun i j _ hj => absurd hj (Nat.not_lt_zero _)
  refine ev_vv3 i_mo_review_31 lk_mo_172 cb_mo_come iv_mo_come (r_mo_come (n := 0) (pm := pm) (cm := cm) (pcd := pcd) H rfl ok00 di00 hn2 hp hk hP (fun q hq => absurd hq (Nat.not_lt_zero _))) H.1 rfl (by decide) (Nat.le_of_ble_eq_true rfl) rfl rfl (fun h2 hq => ?_)
  obtain ⟨n1, A1, H1, es, ag1, ev1⟩ := hq
  have ok1 : rv_ok np s0 := by rw [← hs0]; exact rv_add_ok ok00 hp hk
  have di1 : rv_dis s0 := by rw [← hs0]; exact rv_add_dis ok00 di00 hn2 hp hk
  rw [show mrv 0 A = (0, A 29, A 30, A 33) from rfl, hs0] at es
  rw [show va_up (va_up (va_up sc 0 0) 28 0) 28 (nI n1) = va_up (va_up sc 0 0) 28 (nI n1) from hu_uu] at H1
  rw [show va_up (va_up sc 0 0) 28 0 1 = sc 1 from rfl] at ev1
  clear hs0 H
  refine ev_iconst (v := 0) i_mo_review_34 (by decide) ?_
  refine ev_istore_3 i_mo_review_35 rfl ?_
  -- the last loop
  have last : ∀ (h' : ev_H) (A' : Nat → Nat → Int32) (rs' : rvs) (w4 w5 w6 : Option Value), ev_nl w4 = true → ev_nl w5 = true → ev_nl w6 = true → rs' = rv_out (USm A um) s0 48 → MI G h0 h' m ad (va_up (va_up sc 0 0) 28 (nI rs'.1)) A' Wd → mrv rs'.1 A' = rs' → mag A A' → mev (mk2 A (sc 1) pm cm) A' rs'.1 → rv_ok np rs' → rv_dis rs' → Ev G M_mo_review 5 0 0 Q 136 [some (.ref m), some (.int (nI p)), some (.int (nI k)), some (.int 0), w4, w5, w6] [] h' := by
    intro h' A' rs' w4 w5 w6 n4 n5 n6 e1 H e3 e4 e5 e6 e7
    have fin' := fin h' A' rs' e1 H e3 e4 e5 e6 e7
    have h48 := e6.1
    refine ev_iconst (v := 0) i_mo_review_136 (by decide) ?_
    refine ev_istore_4 i_mo_review_137 rfl ?_
    have loop : ∀ (q j : Nat), j + q = rs'.1 → Ev G M_mo_review 5 0 0 Q 139 [some (.ref m), some (.int (nI p)), some (.int (nI k)), some (.int (nI (sumb (fun q => decide (A' 31 q = 2)) j))), some (.int (nI j)), w5, w6] [] h' := by
      intro q
      induction q with
      | zero =>
        intro j hj
        obtain rfl : j = rs'.1 := by omega
        refine ev_iload_4 i_mo_review_139 ?_
        refine ev_aload_0 i_mo_review_141 ?_
        refine ev_get i_mo_review_142 fl_mo_169 H.1 rfl ?_
        refine ev_icmp_ge i_mo_review_145 (fun c_145 => ?_) (fun c_145 => ?_)
        · refine ev_iload_3 i_mo_review_173 ?_
          refine ev_ireturn i_mo_review_174 rfl rfl ?_
          exact fin'
        · exact absurd (show nI rs'.1 ≤ nI rs'.1 from nI_le (Nat.le_refl _) (by omega)) c_145
      | succ q ih =>
        intro j hj
        have nx := ih (j + 1) (by omega)
        rw [show sumb (fun q => decide (A' 31 q = 2)) (j + 1) = sumb (fun q => decide (A' 31 q = 2)) j + (if decide (A' 31 j = 2) then 1 else 0) from rfl] at nx
        refine ev_iload_4 i_mo_review_139 ?_
        refine ev_aload_0 i_mo_review_141 ?_
        refine ev_get i_mo_review_142 fl_mo_169 H.1 rfl ?_
        refine ev_icmp_ge i_mo_review_145 (fun c_145 => ?_) (fun c_145 => ?_)
        · exact absurd (show nI rs'.1 ≤ nI j from c_145) (nI_ge (by omega) (by omega))
        refine ev_iload_3 i_mo_review_148 ?_
        refine ev_aload_0 i_mo_review_149 ?_
        refine ev_get i_mo_review_150 fl_mo_72 H.1 rfl ?_
        refine ev_iload_4 i_mo_review_153 ?_
        refine ev_ia (L := 48) i_mo_review_155 H rfl rfl (j := j) rfl (by omega) (by omega) ?_
        refine ev_iconst (v := 2) i_mo_review_156 (by decide) ?_
        refine ev_icmp_ne i_mo_review_157 (fun c_157 => ?_) (fun c_157 => ?_)
        · rw [decide_eq_false c_157] at nx
          refine ev_iconst (v := 0) i_mo_review_164 (by decide) ?_
          refine ev_iadd i_mo_review_165 ?_
          refine ev_top (y := nI (sumb (fun q => decide (A' 31 q = 2)) j)) (show nI _ + nI 0 = _ by rw [nI_add]; rfl) ?_
          refine ev_istore_3 i_mo_review_166 rfl ?_
          refine ev_iinc_4 i_mo_review_167 (nI_1 j) rfl ?_
          refine ev_goto i_mo_review_170 ?_
          exact nx
        · rw [decide_eq_true c_157] at nx
          refine ev_iconst (v := 1) i_mo_review_160 (by decide) ?_
          refine ev_goto i_mo_review_161 ?_
          refine ev_iadd i_mo_review_165 ?_
          refine ev_top (y := nI (sumb (fun q => decide (A' 31 q = 2)) j + 1)) (nI_1 _) ?_
          refine ev_istore_3 i_mo_review_166 rfl ?_
          refine ev_iinc_4 i_mo_review_167 (nI_1 j) rfl ?_
          refine ev_goto i_mo_review_170 ?_
          exact nx
    exact loop rs'.1 0 (by omega)
  have loop : ∀ (q j : Nat) (h' : ev_H) (A' : Nat → Nat → Int32) (s : rvs) (w4 w5 w6 : Option Value), ev_nl w4 = true → ev_nl w5 = true → ev_nl w6 = true → j + q = 48 → s = rv_out (USm A um) s0 j → MI G h0 h' m ad (va_up (va_up sc 0 0) 28 (nI s.1)) A' Wd → mrv s.1 A' = s → mag A A' → mev (mk2 A (sc 1) pm cm) A' s.1 → rv_ok np s → rv_dis s → Ev G M_mo_review 5 0 0 Q 36 [some (.ref m), some (.int (nI p)), some (.int (nI k)), some (.int (nI j)), w4, w5, w6] [] h' := by
    intro q
    induction q with
    | zero =>
      intro j h' A' s w4 w5 w6 n4 n5 n6 hj e1 H e3 e4 e5 e6 e7
      obtain rfl : j = 48 := by omega
      have h48 := e6.1
      refine ev_iload_3 i_mo_review_36 ?_
      refine ev_aload_0 i_mo_review_37 ?_
      refine ev_get i_mo_review_38 fl_mo_169 H.1 rfl ?_
      refine ev_icmp_ge i_mo_review_41 (fun c_41 => ?_) (fun c_41 => ?_)
      rotate_left
      · exact absurd (show nI s.1 ≤ nI 48 from nI_le h48 (by omega)) c_41
      refine ev_iconst (v := 0) i_mo_review_134 (by decide) ?_
      refine ev_istore_3 i_mo_review_135 rfl ?_
      exact last h' A' s w4 w5 w6 n4 n5 n6 e1 H e3 e4 e5 e6 e7
    | succ q ih =>
      intro j h' A' s w4 w5 w6 n4 n5 n6 hj e1 H e3 e4 e5 e6 e7
      have h48 := e6.1
      by_cases hjs : j < s.1
      rotate_left
      · have est : rv_out (USm A um) s0 48 = s := by
          rw [e1]
          have := rv_out_stop (US := USm A um) (s := s0) (i := j) (by rw [← e1]; omega) (48 - j)
          rw [show j + (48 - j) = 48 by omega] at this
          exact this
        refine ev_iload_3 i_mo_review_36 ?_
        refine ev_aload_0 i_mo_review_37 ?_
        refine ev_get i_mo_review_38 fl_mo_169 H.1 rfl ?_
        refine ev_icmp_ge i_mo_review_41 (fun c_41 => ?_) (fun c_41 => ?_)
        rotate_left
        · exact absurd (show nI s.1 ≤ nI j from nI_le (by omega) (by omega)) c_41
        refine ev_iconst (v := 0) i_mo_review_134 (by decide) ?_
        refine ev_istore_3 i_mo_review_135 rfl ?_
        exact last h' A' s w4 w5 w6 n4 n5 n6 est.symm H e3 e4 e5 e6 e7
      refine ev_iload_3 i_mo_review_36 ?_
      refine ev_aload_0 i_mo_review_37 ?_
      refine ev_get i_mo_review_38 fl_mo_169 H.1 rfl ?_
      refine ev_icmp_ge i_mo_review_41 (fun c_41 => ?_) (fun c_41 => ?_)
      · exact absurd (show nI s.1 ≤ nI j from c_41) (nI_ge hjs (by omega))
      obtain ⟨a29, a30, a33, -⟩ := mrv_29 e3
      obtain ⟨pq, wq, hpq, hwq, epq, ewq⟩ := e6.2 j hjs
      have hU' := MU_ag e4 hU
      obtain ⟨⟨u1, u2⟩, u3⟩ := hU' pq (by omega)
      have u3 := u3 hpq
      have e66 : ∀ k : Nat, (6 : Int32) * nI pq + nI k = nI (6 * pq + k) := fun k => by rw [show (6 : Int32) = nI 6 from rfl, pk_mul, nI_add]
      have eout : rv_out (USm A um) s0 (j + 1) = rv_in (fun k => A 15 (6 * pq + k)) (fun k => A 16 (6 * pq + k)) j s (um pq) := by
        show (if j < (rv_out (USm A um) s0 j).1 then _ else _) = _
        rw [← e1, if_pos hjs, epq, nI_clamp (by omega)]
        rfl
      have uu : ∀ i, i < um pq → ∃ p w : Nat, p < np ∧ w < 3 ∧ (fun k => A 15 (6 * pq + k)) i = nI p ∧ (fun k => A 16 (6 * pq + k)) i = nI w := by
        intro i hi
        obtain ⟨a, b, h1, h2, h3, h4⟩ := u3 i hi
        rw [e4 15 (by omega)] at h3
        rw [e4 16 (by omega)] at h4
        exact ⟨a, b, h1, h2, h3, h4⟩
      generalize hUf : (fun k => A 15 (6 * pq + k)) = U at *
      generalize hVf : (fun k => A 16 (6 * pq + k)) = V at *
      have eU : ∀ k, A 15 (6 * pq + k) = U k := fun k => by rw [← hUf]
      have eV : ∀ k, A 16 (6 * pq + k) = V k := fun k => by rw [← hVf]
      refine ev_aload_0 i_mo_review_44 ?_
      refine ev_get i_mo_review_45 fl_mo_66 H.1 rfl ?_
      refine ev_iload_3 i_mo_review_48 ?_
      refine ev_ia (L := 48) i_mo_review_49 H rfl rfl (j := j) rfl (by omega) (by omega) ?_
      rw [a29, epq]
      refine ev_istore_4 i_mo_review_50 rfl ?_
      refine ev_iconst (v := 0) i_mo_review_52 (by decide) ?_
      refine ev_istore_5 i_mo_review_53 rfl ?_
      have inner : ∀ (q2 b : Nat) (h' : ev_H) (A' : Nat → Nat → Int32) (s1 : rvs) (w6 : Option Value), ev_nl w6 = true → b + q2 = um pq → s1 = rv_in U V j s b → MI G h0 h' m ad (va_up (va_up sc 0 0) 28 (nI s1.1)) A' Wd → mrv s1.1 A' = s1 → mag A A' → mev (mk2 A (sc 1) pm cm) A' s1.1 → Ev G M_mo_review 5 0 0 Q 55 [some (.ref m), some (.int (nI p)), some (.int (nI k)), some (.int (nI j)), some (.int (nI pq)), some (.int (nI b)), w6] [] h' := by
        intro q2
        induction q2 with
        | zero =>
          intro b h' A' s1 w6 n6 hb f1 H f3 f4 f5
          obtain rfl : b = um pq := by omega
          have hU'' := MU_ag f4 hU
          obtain ⟨⟨v1, v2⟩, -⟩ := hU'' pq (by omega)
          refine ev_iload_5 i_mo_review_55 ?_
          refine ev_aload_0 i_mo_review_57 ?_
          refine ev_get i_mo_review_58 fl_mo_39 H.1 rfl ?_
          refine ev_iload_4 i_mo_review_61 ?_
          refine ev_ia (L := 16) i_mo_review_63 H rfl rfl (j := pq) rfl (by omega) (by omega) ?_
          rw [v1]
          refine ev_icmp_ge i_mo_review_64 (fun c_64 => ?_) (fun c_64 => ?_)
          rotate_left
          · exact absurd (nI_le (Nat.le_refl _) (by omega)) c_64
          refine ev_iinc_3 i_mo_review_128 (nI_1 j) rfl ?_
          refine ev_goto i_mo_review_131 ?_
          obtain ⟨k1, k2⟩ := rv_in_ok e6 hjs (um pq) uu
          have k3 := rv_in_dis hn2 e6 e7 hjs (um pq) uu
          rw [← f1] at k1 k2 k3
          exact ih (j + 1) h' A' s1 _ _ _ rfl rfl n6 (by omega) (f1.trans eout.symm) H f3 f4 f5 k1 k3
        | succ q2 ih2 =>
          intro b h' A' s1 w6 n6 hb f1 H f3 f4 f5
          have hU'' := MU_ag f4 hU
          have hP'' := MP_ag f4 hP
          obtain ⟨⟨v1, v2⟩, -⟩ := hU'' pq (by omega)
          have uub : ∀ i, i < b → ∃ p w : Nat, p < np ∧ w < 3 ∧ U i = nI p ∧ V i = nI w := fun i hi => uu i (by omega)
          obtain ⟨k1, k2⟩ := rv_in_ok e6 hjs b uub
          have k3 := rv_in_dis hn2 e6 e7 hjs b uub
          rw [← f1] at k1 k2 k3
          obtain ⟨pu, wu, hpu, hwu, epu, ewu⟩ := uu b (by omega)
          obtain ⟨p', w', hp', hw', ep', ew'⟩ := k1.2 j (by omega)
          obtain ⟨c, hc, ec⟩ := nI_max hw' hwu
          obtain ⟨b29, b30, b33, -⟩ := mrv_29 f3
          have g15 : A' 15 (6 * pq + b) = nI pu := by rw [f4 15 (by omega), eU]; exact epu
          have g16 : A' 16 (6 * pq + b) = nI wu := by rw [f4 16 (by omega), eV]; exact ewu
          have g30 : A' 30 j = nI w' := by rw [b30]; exact ew'
          have enx : rv_in U V j s (b + 1) = rv_add s1 (nI pu) (nI c) (nI j) := by
            show rv_add (rv_in U V j s b) (U b) (if (rv_in U V j s b).2.2.1 j < V b then V b else (rv_in U V j s b).2.2.1 j) (nI j) = _
            rw [← f1, epu, ewu, ew', ec]
          have call : ∀ (w6 : Option Value), ev_nl w6 = true → Ev G M_mo_review 5 0 0 Q 119 [some (.ref m), some (.int (nI p)), some (.int (nI k)), some (.int (nI j)), some (.int (nI pq)), some (.int (nI b)), w6] [.int (nI j), .int (nI c), .int (nI pu), .ref m] h' := by
            intro w6 n6
            refine ev_vv3 i_mo_review_119 lk_mo_172 cb_mo_come iv_mo_come (r_mo_come (n := s1.1) (np := np) (pm := pm) (cm := cm) (pcd := pcd) H rfl (by rw [f3]; exact k1) (by rw [f3]; exact k3) hn2 hpu hc hP'' (fun q hq => by rw [mk2_ag f4]; exact f5 q hq)) H.1 rfl (by decide) (Nat.le_of_ble_eq_true rfl) rfl rfl (fun h3 hq => ?_)
            obtain ⟨n', A2, H2, g1, g2, g3⟩ := hq
            rw [f3, ← enx] at g1
            rw [show va_up (va_up (va_up sc 0 0) 28 (nI s1.1)) 28 (nI n') = va_up (va_up sc 0 0) 28 (nI n') from hu_uu] at H2
            have en : n' = (rv_in U V j s (b + 1)).1 := (mrv_29 g1).2.2.2
            rw [en] at H2 g1
            refine ev_iinc_5 i_mo_review_122 (nI_1 b) rfl ?_
            refine ev_goto i_mo_review_125 ?_
            refine ih2 (b + 1) h3 A2 _ w6 n6 (by omega) rfl H2 g1 (mag_tr f4 g2) ?_
            intro q hq
            have := g3 q (by rw [en]; exact hq)
            rw [mk2_ag f4] at this
            exact this
          refine ev_iload_5 i_mo_review_55 ?_
          refine ev_aload_0 i_mo_review_57 ?_
          refine ev_get i_mo_review_58 fl_mo_39 H.1 rfl ?_
          refine ev_iload_4 i_mo_review_61 ?_
          refine ev_ia (L := 16) i_mo_review_63 H rfl rfl (j := pq) rfl (by omega) (by omega) ?_
          rw [v1]
          refine ev_icmp_ge i_mo_review_64 (fun c_64 => ?_) (fun c_64 => ?_)
          · exact absurd c_64 (nI_ge (by omega) (by omega))
          refine ev_aload_0 i_mo_review_67 ?_
          refine ev_get i_mo_review_68 fl_mo_45 H.1 rfl ?_
          refine ev_bipush (v := 6) i_mo_review_71 (by decide) ?_
          refine ev_iload_4 i_mo_review_73 ?_
          refine ev_imul i_mo_review_75 ?_
          refine ev_iload_5 i_mo_review_76 ?_
          refine ev_iadd i_mo_review_78 ?_
          refine ev_ia (L := 96) i_mo_review_79 H rfl rfl (j := 6 * pq + b) (e66 b) (by omega) (by omega) ?_
          rw [g16]
          refine ev_istore_6 i_mo_review_80 rfl ?_
          refine ev_aload_0 i_mo_review_82 ?_
          refine ev_aload_0 i_mo_review_83 ?_
          refine ev_get i_mo_review_84 fl_mo_42 H.1 rfl ?_
          refine ev_bipush (v := 6) i_mo_review_87 (by decide) ?_
          refine ev_iload_4 i_mo_review_89 ?_
          refine ev_imul i_mo_review_91 ?_
          refine ev_iload_5 i_mo_review_92 ?_
          refine ev_iadd i_mo_review_94 ?_
          refine ev_ia (L := 96) i_mo_review_95 H rfl rfl (j := 6 * pq + b) (e66 b) (by omega) (by omega) ?_
          rw [g15]
          refine ev_iload_6 i_mo_review_96 ?_
          refine ev_aload_0 i_mo_review_98 ?_
          refine ev_get i_mo_review_99 fl_mo_69 H.1 rfl ?_
          refine ev_iload_3 i_mo_review_102 ?_
          refine ev_ia (L := 48) i_mo_review_103 H rfl rfl (j := j) rfl (by omega) (by omega) ?_
          rw [g30]
          refine ev_icmp_le i_mo_review_104 (fun c_104 => ?_) (fun c_104 => ?_)
          · refine ev_aload_0 i_mo_review_112 ?_
            refine ev_get i_mo_review_113 fl_mo_69 H.1 rfl ?_
            refine ev_iload_3 i_mo_review_116 ?_
            refine ev_ia (L := 48) i_mo_review_117 H rfl rfl (j := j) rfl (by omega) (by omega) ?_
            rw [g30]
            refine ev_iload_3 i_mo_review_118 ?_
            rw [if_neg (Int32.not_lt.mpr c_104)] at ec
            rw [ec]
            exact call _ rfl
          · refine ev_iload_6 i_mo_review_107 ?_
            refine ev_goto i_mo_review_109 ?_
            refine ev_iload_3 i_mo_review_118 ?_
            rw [if_pos (Int32.not_le.mp c_104)] at ec
            rw [ec]
            exact call _ rfl
      exact inner (um pq) 0 h' A' s w6 n6 (by omega) rfl H e3 e4 e5
  obtain ⟨-, -, -, en1⟩ := mrv_29 es
  subst en1
  exact loop 48 0 h2 A1 s0 none none none rfl rfl rfl (by omega) rfl H1 es ag1 ev1 ok1 di1
end MO8
