section MO3
variable {G : ev_G} {h h0 : ev_H} {m : Nat} {ad : Nat → Nat} {sc : Nat → Int32} {A : Nat → Nat → Int32} {Wd : Nat → Int64}
/-- how many bits, as the reference counts them -/
def cn31 (x : Int32) : Nat → Int32
  | 0 => 0
  | k + 1 => cn31 x k + ((x >>> (nI k &&& 31)) &&& 1)
theorem r_mo_count {x : Int32} : Rn G M_mo_count 0 0 0 [.int x] h (ev_qi fun v h' => v = cn31 x 31 ∧ h' = h) := by
  refine Rn_of (ls := [some (.int x), none, none]) rfl rfl (Nat.le_of_ble_eq_true rfl) rfl ?_
  refine ev_iconst (v := 0) i_mo_count_0 (by decide) ?_
  refine ev_istore_1 i_mo_count_1 rfl ?_
  refine ev_iconst (v := 0) i_mo_count_2 (by decide) ?_
  refine ev_istore_2 i_mo_count_3 rfl ?_
  have loop : ∀ q j : Nat, j + q = 31 → Ev G M_mo_count 0 0 0 (ev_qi fun v h' => v = cn31 x 31 ∧ h' = h) 4 [some (.int x), some (.int (cn31 x j)), some (.int (nI j))] [] h := by
    intro q
    induction q with
    | zero =>
      intro j hj
      obtain rfl : j = 31 := by omega
      refine ev_iload_2 i_mo_count_4 ?_
      refine ev_bipush (v := 31) i_mo_count_5 (by decide) ?_
      refine ev_icmp_ge i_mo_count_7 (fun c_7 => ?_) (fun c_7 => ?_)
      · refine ev_iload_1 i_mo_count_24 ?_
        refine ev_ireturn i_mo_count_25 rfl rfl ?_
        exact ⟨_, rfl, rfl, rfl⟩
      · exact absurd (by decide) c_7
    | succ q ih =>
      intro j hj
      refine ev_iload_2 i_mo_count_4 ?_
      refine ev_bipush (v := 31) i_mo_count_5 (by decide) ?_
      refine ev_icmp_ge i_mo_count_7 (fun c_7 => ?_) (fun c_7 => ?_)
      · exact absurd c_7 (show ¬ nI 31 ≤ nI j from nI_ge (by omega) (by omega))
      refine ev_iload_1 i_mo_count_10 ?_
      refine ev_iload_0 i_mo_count_11 ?_
      refine ev_iload_2 i_mo_count_12 ?_
      refine ev_ishr i_mo_count_13 ?_
      refine ev_iconst (v := 1) i_mo_count_14 (by decide) ?_
      refine ev_iand i_mo_count_15 ?_
      refine ev_iadd i_mo_count_16 ?_
      refine ev_istore_1 i_mo_count_17 rfl ?_
      refine ev_iinc_2 i_mo_count_18 (nI_1 j) rfl ?_
      refine ev_goto i_mo_count_21 ?_
      exact ih (j + 1) (by omega)
  exact loop 31 0 (by omega)
def mlift (A : Nat → Nat → Int32) (w c : Nat) : Bool := decide (0 < c % 9 ∧ ¬ A 7 (3 * (c % 9 - 1) + w) = 0)
theorem r_mo_isLifted {c w : Nat} (H : MI G h0 h m ad sc A Wd) (hc : c < 144) (hw : w < 3) : Rn G M_mo_isLifted 0 0 0 [.ref m, .int (nI c), .int (nI w)] h (ev_qi fun v h' => v = (if mlift A w c then 1 else 0) ∧ h' = h) := by
  refine Rn_of (ls := [some (.ref m), some (.int (nI c)), some (.int (nI w))]) rfl rfl (Nat.le_of_ble_eq_true rfl) rfl ?_
  refine ev_iload_1 i_mo_isLifted_0 ?_
  refine ev_bipush (v := 9) i_mo_isLifted_1 (by decide) ?_
  refine ev_irem i_mo_isLifted_3 (by decide) ?_
  refine ev_top (nI_rem9 (by omega)) ?_
  refine ev_if_le i_mo_isLifted_4 (fun c_4 => ?_) (fun c_4 => ?_)
  · have : ¬ 0 < c % 9 := fun z => absurd c_4 (nI_nle z (by omega))
    refine ev_iconst (v := 0) i_mo_isLifted_29 (by decide) ?_
    refine ev_ireturn i_mo_isLifted_30 rfl rfl ?_
    exact ⟨_, rfl, by rw [if_neg]; unfold mlift; rw [decide_eq_true_eq]; exact fun z => this z.1, rfl⟩
  have hpos : 0 < c % 9 := by
    rcases Nat.eq_zero_or_pos (c % 9) with z | z
    · rw [z] at c_4; exact absurd (by decide) c_4
    · exact z
  have e1 : nI (c % 9) - 1 = nI (c % 9 - 1) := by
    have := nI_pred (c % 9 - 1)
    rw [show c % 9 - 1 + 1 = c % 9 by omega] at this
    exact this
  refine ev_aload_0 i_mo_isLifted_7 ?_
  refine ev_get i_mo_isLifted_8 fl_mo_20 H.1 rfl ?_
  refine ev_iconst (v := 3) i_mo_isLifted_11 (by decide) ?_
  refine ev_iload_1 i_mo_isLifted_12 ?_
  refine ev_bipush (v := 9) i_mo_isLifted_13 (by decide) ?_
  refine ev_irem i_mo_isLifted_15 (by decide) ?_
  refine ev_iconst (v := 1) i_mo_isLifted_16 (by decide) ?_
  refine ev_isub i_mo_isLifted_17 ?_
  refine ev_imul i_mo_isLifted_18 ?_
  refine ev_iload_2 i_mo_isLifted_19 ?_
  refine ev_iadd i_mo_isLifted_20 ?_
  refine ev_zaload i_mo_isLifted_21 ty_boolean H.2.2.2.1 (j := 3 * (c % 9 - 1) + w) (by rw [nI_rem9 (by omega), e1, nI_3, pk_mul, nI_add]) (by omega) (by omega) ?_
  refine ev_if_eq i_mo_isLifted_22 (fun c_22 => ?_) (fun c_22 => ?_)
  · refine ev_iconst (v := 0) i_mo_isLifted_29 (by decide) ?_
    refine ev_ireturn i_mo_isLifted_30 rfl rfl ?_
    exact ⟨_, rfl, by rw [if_neg]; unfold mlift; rw [decide_eq_true_eq]; exact fun z => z.2 c_22, rfl⟩
  · refine ev_iconst (v := 1) i_mo_isLifted_25 (by decide) ?_
    refine ev_goto i_mo_isLifted_26 ?_
    refine ev_ireturn i_mo_isLifted_30 rfl rfl ?_
    exact ⟨_, rfl, by rw [if_pos]; unfold mlift; rw [decide_eq_true_eq]; exact ⟨hpos, c_22⟩, rfl⟩
/-- duties of a choice: none if it is barred -/
def mdut (A : Nat → Nat → Int32) (p i w : Nat) : Nat → Option Int32
  | 0 => some 0
  | k + 1 => match mdut A p i w k with
    | none => none
    | some a => if (A 13 (20 * p + i) >>> (nI k &&& 31)) &&& 1 = 0 ∨ mlift A w (A 11 (30 * p + k)).toNatClampNeg = true then some a else if A 5 (3 * ((A 11 (30 * p + k)).toNatClampNeg / 9) + w) = 2 then none else some (a ||| A 6 (3 * ((A 11 (30 * p + k)).toNatClampNeg / 9) + w))
def mdv (o : Option Int32) : Int32 := match o with
  | none => -1
  | some a => a
theorem mdut_none {A : Nat → Nat → Int32} {p i w k : Nat} (h : mdut A p i w k = none) : ∀ q, mdut A p i w (k + q) = none := by
  intro q
  induction q with
  | zero => exact h
  | succ q ih =>
    show (match mdut A p i w (k + q) with | none => none | some a => _) = none
    rw [ih]
theorem r_mo_dutiesOf {p i w pm : Nat} {pcd : Nat → Nat} (H : MI G h0 h m ad sc A Wd) (hp : p < 16) (hi : i < 20) (hw : w < 3) (hpm : A 10 p = nI pm) (hpm2 : pm ≤ 30) (hpc : ∀ k, k < pm → A 11 (30 * p + k) = nI (pcd k) ∧ pcd k < 144) : Rn G M_mo_dutiesOf 1 0 0 [.ref m, .int (nI p), .int (nI i), .int (nI w)] h (ev_qi fun v h' => v = mdv (mdut A p i w pm) ∧ h' = h) := by
  refine Rn_of (ls := [some (.ref m), some (.int (nI p)), some (.int (nI i)), some (.int (nI w)), none, none, none]) rfl rfl (Nat.le_of_ble_eq_true rfl) rfl ?_
  refine ev_iconst (v := 0) i_mo_dutiesOf_0 (by decide) ?_
  refine ev_istore_4 i_mo_dutiesOf_1 rfl ?_
  refine ev_iconst (v := 0) i_mo_dutiesOf_3 (by decide) ?_
  refine ev_istore_5 i_mo_dutiesOf_4 rfl ?_
  have e30 : ∀ k : Nat, (30 : Int32) * nI p + nI k = nI (30 * p + k) := fun k => by rw [show (30 : Int32) = nI 30 from rfl, pk_mul, nI_add]
  have e20 : ∀ k : Nat, (20 : Int32) * nI p + nI k = nI (20 * p + k) := fun k => by rw [show (20 : Int32) = nI 20 from rfl, pk_mul, nI_add]
  have loop : ∀ (q j : Nat) (a : Int32) (w6 : Option Value), ev_nl w6 = true → j + q = pm → mdut A p i w j = some a → Ev G M_mo_dutiesOf 1 0 0 (ev_qi fun v h' => v = mdv (mdut A p i w pm) ∧ h' = h) 6 [some (.ref m), some (.int (nI p)), some (.int (nI i)), some (.int (nI w)), some (.int a), some (.int (nI j)), w6] [] h := by
    intro q
    induction q with
    | zero =>
      intro j a w6 hw6 hj ha
      obtain rfl : j = pm := by omega
      refine ev_iload_5 i_mo_dutiesOf_6 ?_
      refine ev_aload_0 i_mo_dutiesOf_8 ?_
      refine ev_get i_mo_dutiesOf_9 fl_mo_27 H.1 rfl ?_
      refine ev_iload_1 i_mo_dutiesOf_12 ?_
      refine ev_ia (L := 16) i_mo_dutiesOf_13 H rfl rfl (j := p) rfl hp (by omega) ?_
      rw [hpm]
      refine ev_icmp_ge i_mo_dutiesOf_14 (fun c_14 => ?_) (fun c_14 => ?_)
      · refine ev_iload_4 i_mo_dutiesOf_108 ?_
        refine ev_ireturn i_mo_dutiesOf_110 rfl rfl ?_
        exact ⟨_, rfl, by rw [ha]; rfl, rfl⟩
      · exact absurd (nI_le (Nat.le_refl _) (by omega)) c_14
    | succ q ih =>
      intro j a w6 hw6 hj ha
      obtain ⟨ec, hc⟩ := hpc j (by omega)
      have es : mdut A p i w (j + 1) = if (A 13 (20 * p + i) >>> (nI j &&& 31)) &&& 1 = 0 ∨ mlift A w (pcd j) = true then some a else if A 5 (3 * (pcd j / 9) + w) = 2 then none else some (a ||| A 6 (3 * (pcd j / 9) + w)) := by
        show (match mdut A p i w j with | none => none | some a => _) = _
        rw [ha, ec, nI_clamp (by omega)]
      have e39 : (3 : Int32) * (nI (pcd j) / 9) + nI w = nI (3 * (pcd j / 9) + w) := by rw [nI_div9 (by omega), nI_3, pk_mul, nI_add]
      refine ev_iload_5 i_mo_dutiesOf_6 ?_
      refine ev_aload_0 i_mo_dutiesOf_8 ?_
      refine ev_get i_mo_dutiesOf_9 fl_mo_27 H.1 rfl ?_
      refine ev_iload_1 i_mo_dutiesOf_12 ?_
      refine ev_ia (L := 16) i_mo_dutiesOf_13 H rfl rfl (j := p) rfl hp (by omega) ?_
      rw [hpm]
      refine ev_icmp_ge i_mo_dutiesOf_14 (fun c_14 => ?_) (fun c_14 => ?_)
      · exact absurd c_14 (nI_ge (by omega) (by omega))
      refine ev_aload_0 i_mo_dutiesOf_17 ?_
      refine ev_get i_mo_dutiesOf_18 fl_mo_30 H.1 rfl ?_
      refine ev_bipush (v := 30) i_mo_dutiesOf_21 (by decide) ?_
      refine ev_iload_1 i_mo_dutiesOf_23 ?_
      refine ev_imul i_mo_dutiesOf_24 ?_
      refine ev_iload_5 i_mo_dutiesOf_25 ?_
      refine ev_iadd i_mo_dutiesOf_27 ?_
      refine ev_ia (L := 480) i_mo_dutiesOf_28 H rfl rfl (j := 30 * p + j) (e30 j) (by omega) (by omega) ?_
      rw [ec]
      refine ev_istore_6 i_mo_dutiesOf_29 rfl ?_
      refine ev_aload_0 i_mo_dutiesOf_31 ?_
      refine ev_get i_mo_dutiesOf_32 fl_mo_36 H.1 rfl ?_
      refine ev_bipush (v := 20) i_mo_dutiesOf_35 (by decide) ?_
      refine ev_iload_1 i_mo_dutiesOf_37 ?_
      refine ev_imul i_mo_dutiesOf_38 ?_
      refine ev_iload_2 i_mo_dutiesOf_39 ?_
      refine ev_iadd i_mo_dutiesOf_40 ?_
      refine ev_ia (L := 320) i_mo_dutiesOf_41 H rfl rfl (j := 20 * p + i) (e20 i) (by omega) (by omega) ?_
      refine ev_iload_5 i_mo_dutiesOf_42 ?_
      refine ev_ishr i_mo_dutiesOf_44 ?_
      refine ev_iconst (v := 1) i_mo_dutiesOf_45 (by decide) ?_
      refine ev_iand i_mo_dutiesOf_46 ?_
      refine ev_if_eq i_mo_dutiesOf_47 (fun c_47 => ?_) (fun c_47 => ?_)
      · rw [if_pos (Or.inl c_47)] at es
        refine ev_iinc_5 i_mo_dutiesOf_102 (nI_1 j) rfl ?_
        refine ev_goto i_mo_dutiesOf_105 ?_
        exact ih (j + 1) a _ rfl (by omega) es
      refine ev_aload_0 i_mo_dutiesOf_50 ?_
      refine ev_iload_6 i_mo_dutiesOf_51 ?_
      refine ev_iload_3 i_mo_dutiesOf_53 ?_
      refine ev_vi2 i_mo_dutiesOf_54 lk_mo_146 cb_mo_isLifted iv_mo_isLifted (r_mo_isLifted H hc hw) H.1 rfl (by decide) (Nat.le_of_ble_eq_true rfl) rfl rfl (fun v h' hq => ?_)
      obtain ⟨rfl, rfl⟩ := hq
      refine ev_if_eq i_mo_dutiesOf_57 (fun c_57 => ?_) (fun c_57 => ?_)
      rotate_left
      · rw [if_pos (Or.inr (if_11 c_57))] at es
        refine ev_goto i_mo_dutiesOf_60 ?_
        refine ev_iinc_5 i_mo_dutiesOf_102 (nI_1 j) rfl ?_
        refine ev_goto i_mo_dutiesOf_105 ?_
        exact ih (j + 1) a _ rfl (by omega) es
      rw [if_neg (fun z => z.elim c_47 (if_10 c_57))] at es
      refine ev_aload_0 i_mo_dutiesOf_63 ?_
      refine ev_get i_mo_dutiesOf_64 fl_mo_13 H.1 rfl ?_
      refine ev_iconst (v := 3) i_mo_dutiesOf_67 (by decide) ?_
      refine ev_iload_6 i_mo_dutiesOf_68 ?_
      refine ev_bipush (v := 9) i_mo_dutiesOf_70 (by decide) ?_
      refine ev_idiv i_mo_dutiesOf_72 (by decide) ?_
      refine ev_imul i_mo_dutiesOf_73 ?_
      refine ev_iload_3 i_mo_dutiesOf_74 ?_
      refine ev_iadd i_mo_dutiesOf_75 ?_
      refine ev_ia (L := 48) i_mo_dutiesOf_76 H rfl rfl (j := 3 * (pcd j / 9) + w) e39 (by omega) (by omega) ?_
      refine ev_iconst (v := 2) i_mo_dutiesOf_77 (by decide) ?_
      refine ev_icmp_ne i_mo_dutiesOf_78 (fun c_78 => ?_) (fun c_78 => ?_)
      · rw [if_neg c_78] at es
        refine ev_iload_4 i_mo_dutiesOf_83 ?_
        refine ev_aload_0 i_mo_dutiesOf_85 ?_
        refine ev_get i_mo_dutiesOf_86 fl_mo_17 H.1 rfl ?_
        refine ev_iconst (v := 3) i_mo_dutiesOf_89 (by decide) ?_
        refine ev_iload_6 i_mo_dutiesOf_90 ?_
        refine ev_bipush (v := 9) i_mo_dutiesOf_92 (by decide) ?_
        refine ev_idiv i_mo_dutiesOf_94 (by decide) ?_
        refine ev_imul i_mo_dutiesOf_95 ?_
        refine ev_iload_3 i_mo_dutiesOf_96 ?_
        refine ev_iadd i_mo_dutiesOf_97 ?_
        refine ev_ia (L := 48) i_mo_dutiesOf_98 H rfl rfl (j := 3 * (pcd j / 9) + w) e39 (by omega) (by omega) ?_
        refine ev_ior i_mo_dutiesOf_99 ?_
        refine ev_istore_4 i_mo_dutiesOf_100 rfl ?_
        refine ev_iinc_5 i_mo_dutiesOf_102 (nI_1 j) rfl ?_
        refine ev_goto i_mo_dutiesOf_105 ?_
        exact ih (j + 1) _ _ rfl (by omega) es
      · rw [if_pos c_78] at es
        refine ev_iconst (v := (-1)) i_mo_dutiesOf_81 (by decide) ?_
        refine ev_ireturn i_mo_dutiesOf_82 rfl rfl ?_
        refine ⟨_, rfl, ?_, rfl⟩
        have := mdut_none es (pm - (j + 1))
        rw [show j + 1 + (pm - (j + 1)) = pm by omega] at this
        rw [this]
        rfl
  exact loop pm 0 0 none rfl (by omega) rfl
/-- the best choice, as the reference looks for it -/
def mwt (A : Nat → Nat → Int32) (p w pm i : Nat) : Int32 := 100 * cn31 (mdv (mdut A p i w pm)) 31 + cn31 (A 13 (20 * p + i)) 31
def mbest (A : Nat → Nat → Int32) (p w pm : Nat) : Nat → Int32 × Int32
  | 0 => (-1, 0)
  | i + 1 => if mdv (mdut A p i w pm) = -1 ∨ (¬ (mbest A p w pm i).1 = -1 ∧ (mbest A p w pm i).2 ≤ mwt A p w pm i) then mbest A p w pm i else (nI i, mwt A p w pm i)
theorem mbest_s (A : Nat → Nat → Int32) (p w pm i : Nat) : mbest A p w pm (i + 1) = if mdv (mdut A p i w pm) = -1 ∨ (¬ (mbest A p w pm i).1 = -1 ∧ (mbest A p w pm i).2 ≤ mwt A p w pm i) then mbest A p w pm i else (nI i, mwt A p w pm i) := rfl
theorem r_mo_bestOf {p w pm cm : Nat} {pcd : Nat → Nat} (H : MI G h0 h m ad sc A Wd) (hp : p < 16) (hw : w < 3) (hpm : A 10 p = nI pm) (hpm2 : pm ≤ 30) (hcm : A 12 p = nI cm) (hcm2 : cm ≤ 20) (hpc : ∀ k, k < pm → A 11 (30 * p + k) = nI (pcd k) ∧ pcd k < 144) : Rn G M_mo_bestOf 2 0 0 [.ref m, .int (nI p), .int (nI w)] h (ev_qi fun v h' => v = (mbest A p w pm cm).1 ∧ h' = h) := by
  refine Rn_of (ls := [some (.ref m), some (.int (nI p)), some (.int (nI w)), none, none, none, none, none]) rfl rfl (Nat.le_of_ble_eq_true rfl) rfl ?_
  refine ev_iconst (v := (-1)) i_mo_bestOf_0 (by decide) ?_
  refine ev_istore_3 i_mo_bestOf_1 rfl ?_
  refine ev_iconst (v := 0) i_mo_bestOf_2 (by decide) ?_
  refine ev_istore_4 i_mo_bestOf_3 rfl ?_
  refine ev_iconst (v := 0) i_mo_bestOf_5 (by decide) ?_
  refine ev_istore_5 i_mo_bestOf_6 rfl ?_
  have e20 : ∀ k : Nat, (20 : Int32) * nI p + nI k = nI (20 * p + k) := fun k => by rw [show (20 : Int32) = nI 20 from rfl, pk_mul, nI_add]
  have loop : ∀ (q j : Nat) (w6 w7 : Option Value), ev_nl w6 = true → ev_nl w7 = true → j + q = cm → Ev G M_mo_bestOf 2 0 0 (ev_qi fun v h' => v = (mbest A p w pm cm).1 ∧ h' = h) 8 [some (.ref m), some (.int (nI p)), some (.int (nI w)), some (.int (mbest A p w pm j).1), some (.int (mbest A p w pm j).2), some (.int (nI j)), w6, w7] [] h := by
    intro q
    induction q with
    | zero =>
      intro j w6 w7 hw6 hw7 hj
      obtain rfl : j = cm := by omega
      refine ev_iload_5 i_mo_bestOf_8 ?_
      refine ev_aload_0 i_mo_bestOf_10 ?_
      refine ev_get i_mo_bestOf_11 fl_mo_33 H.1 rfl ?_
      refine ev_iload_1 i_mo_bestOf_14 ?_
      refine ev_ia (L := 16) i_mo_bestOf_15 H rfl rfl (j := p) rfl hp (by omega) ?_
      rw [hcm]
      refine ev_icmp_ge i_mo_bestOf_16 (fun c_16 => ?_) (fun c_16 => ?_)
      · refine ev_iload_3 i_mo_bestOf_89 ?_
        refine ev_ireturn i_mo_bestOf_90 rfl rfl ?_
        exact ⟨_, rfl, rfl, rfl⟩
      · exact absurd (nI_le (Nat.le_refl _) (by omega)) c_16
    | succ q ih =>
      intro j w6 w7 hw6 hw7 hj
      have nx := ih (j + 1) (some (.int (mdv (mdut A p j w pm)))) (some (.int (mwt A p w pm j))) rfl rfl (by omega)
      rw [mbest_s] at nx
      refine ev_iload_5 i_mo_bestOf_8 ?_
      refine ev_aload_0 i_mo_bestOf_10 ?_
      refine ev_get i_mo_bestOf_11 fl_mo_33 H.1 rfl ?_
      refine ev_iload_1 i_mo_bestOf_14 ?_
      refine ev_ia (L := 16) i_mo_bestOf_15 H rfl rfl (j := p) rfl hp (by omega) ?_
      rw [hcm]
      refine ev_icmp_ge i_mo_bestOf_16 (fun c_16 => ?_) (fun c_16 => ?_)
      · exact absurd c_16 (nI_ge (by omega) (by omega))
      refine ev_aload_0 i_mo_bestOf_19 ?_
      refine ev_iload_1 i_mo_bestOf_20 ?_
      refine ev_iload_5 i_mo_bestOf_21 ?_
      refine ev_iload_2 i_mo_bestOf_23 ?_
      refine ev_vi3 i_mo_bestOf_24 lk_mo_150 cb_mo_dutiesOf iv_mo_dutiesOf (r_mo_dutiesOf H hp (show j < 20 by omega) hw hpm hpm2 hpc) H.1 rfl (by decide) (Nat.le_of_ble_eq_true rfl) rfl rfl (fun v h' hq => ?_)
      obtain ⟨rfl, rfl⟩ := hq
      refine ev_istore_6 i_mo_bestOf_27 rfl ?_
      refine ev_bipush (v := 100) i_mo_bestOf_29 (by decide) ?_
      refine ev_iload_6 i_mo_bestOf_31 ?_
      refine ev_ti1 i_mo_bestOf_33 lk_mo_154 cb_mo_count sv_mo_count (r_mo_count) (by decide) (Nat.le_of_ble_eq_true rfl) rfl rfl (fun v h' hq => ?_)
      obtain ⟨rfl, rfl⟩ := hq
      refine ev_imul i_mo_bestOf_36 ?_
      refine ev_aload_0 i_mo_bestOf_37 ?_
      refine ev_get i_mo_bestOf_38 fl_mo_36 H.1 rfl ?_
      refine ev_bipush (v := 20) i_mo_bestOf_41 (by decide) ?_
      refine ev_iload_1 i_mo_bestOf_43 ?_
      refine ev_imul i_mo_bestOf_44 ?_
      refine ev_iload_5 i_mo_bestOf_45 ?_
      refine ev_iadd i_mo_bestOf_47 ?_
      refine ev_ia (L := 320) i_mo_bestOf_48 H rfl rfl (j := 20 * p + j) (e20 j) (by omega) (by omega) ?_
      refine ev_ti1 i_mo_bestOf_49 lk_mo_154 cb_mo_count sv_mo_count (r_mo_count) (by decide) (Nat.le_of_ble_eq_true rfl) rfl rfl (fun v h' hq => ?_)
      obtain ⟨rfl, rfl⟩ := hq
      refine ev_iadd i_mo_bestOf_52 ?_
      refine ev_istore_7 i_mo_bestOf_53 rfl ?_
      refine ev_iload_6 i_mo_bestOf_55 ?_
      refine ev_iconst (v := (-1)) i_mo_bestOf_57 (by decide) ?_
      refine ev_icmp_eq i_mo_bestOf_58 (fun c_58 => ?_) (fun c_58 => ?_)
      · rw [if_pos (Or.inl c_58)] at nx
        refine ev_iinc_5 i_mo_bestOf_83 (nI_1 j) rfl ?_
        refine ev_goto i_mo_bestOf_86 ?_
        exact nx
      refine ev_iload_3 i_mo_bestOf_61 ?_
      refine ev_iconst (v := (-1)) i_mo_bestOf_62 (by decide) ?_
      refine ev_icmp_eq i_mo_bestOf_63 (fun c_63 => ?_) (fun c_63 => ?_)
      · rw [if_neg (fun z => z.elim c_58 (fun y => y.1 c_63))] at nx
        refine ev_iload_5 i_mo_bestOf_76 ?_
        refine ev_istore_3 i_mo_bestOf_78 rfl ?_
        refine ev_iload_7 i_mo_bestOf_79 ?_
        refine ev_istore_4 i_mo_bestOf_81 rfl ?_
        refine ev_iinc_5 i_mo_bestOf_83 (nI_1 j) rfl ?_
        refine ev_goto i_mo_bestOf_86 ?_
        exact nx
      refine ev_iload_7 i_mo_bestOf_66 ?_
      refine ev_iload_4 i_mo_bestOf_68 ?_
      refine ev_icmp_lt i_mo_bestOf_70 (fun c_70 => ?_) (fun c_70 => ?_)
      · rw [if_neg (fun z => z.elim c_58 (fun y => absurd y.2 (Int32.not_le.mpr c_70)))] at nx
        refine ev_iload_5 i_mo_bestOf_76 ?_
        refine ev_istore_3 i_mo_bestOf_78 rfl ?_
        refine ev_iload_7 i_mo_bestOf_79 ?_
        refine ev_istore_4 i_mo_bestOf_81 rfl ?_
        refine ev_iinc_5 i_mo_bestOf_83 (nI_1 j) rfl ?_
        refine ev_goto i_mo_bestOf_86 ?_
        exact nx
      · rw [if_pos (Or.inr ⟨c_63, Int32.not_lt.mp c_70⟩)] at nx
        refine ev_goto i_mo_bestOf_73 ?_
        refine ev_iinc_5 i_mo_bestOf_83 (nI_1 j) rfl ?_
        refine ev_goto i_mo_bestOf_86 ?_
        exact nx
  exact loop cm 0 none none rfl rfl (by omega)
theorem mbest_rng (A : Nat → Nat → Int32) (p w pm : Nat) : ∀ n, (mbest A p w pm n).1 = -1 ∨ ∃ i, i < n ∧ (mbest A p w pm n).1 = nI i := by
  intro n
  induction n with
  | zero => exact Or.inl rfl
  | succ n ih =>
    rw [mbest_s]
    split
    · rcases ih with e | ⟨i, hi, e⟩
      · exact Or.inl e
      · exact Or.inr ⟨i, by omega, e⟩
    · exact Or.inr ⟨n, by omega, rfl⟩
def mbd (A : Nat → Nat → Int32) (p w pm cm : Nat) : Int32 := if (mbest A p w pm cm).1 = -1 then 0 else mdv (mdut A p (mbest A p w pm cm).1.toNatClampNeg w pm)
theorem r_mo_bestDuties {p w pm cm : Nat} {pcd : Nat → Nat} (H : MI G h0 h m ad sc A Wd) (hp : p < 16) (hw : w < 3) (hpm : A 10 p = nI pm) (hpm2 : pm ≤ 30) (hcm : A 12 p = nI cm) (hcm2 : cm ≤ 20) (hpc : ∀ k, k < pm → A 11 (30 * p + k) = nI (pcd k) ∧ pcd k < 144) : Rn G M_mo_bestDuties 3 0 0 [.ref m, .int (nI p), .int (nI w)] h (ev_qi fun v h' => v = mbd A p w pm cm ∧ h' = h) := by
  refine Rn_of (ls := [some (.ref m), some (.int (nI p)), some (.int (nI w))]) rfl rfl (Nat.le_of_ble_eq_true rfl) rfl ?_
  refine ev_aload_0 i_mo_bestDuties_0 ?_
  refine ev_iload_1 i_mo_bestDuties_1 ?_
  refine ev_iload_2 i_mo_bestDuties_2 ?_
  refine ev_vi2 i_mo_bestDuties_3 lk_mo_157 cb_mo_bestOf iv_mo_bestOf (r_mo_bestOf H hp hw hpm hpm2 hcm hcm2 hpc) H.1 rfl (by decide) (Nat.le_of_ble_eq_true rfl) rfl rfl (fun v h' hq => ?_)
  obtain ⟨rfl, rfl⟩ := hq
  rcases mbest_rng A p w pm cm with e | ⟨i, hi, e⟩
  · have eb : mbd A p w pm cm = 0 := by unfold mbd; rw [if_pos e]
    rw [e]
    refine ev_iconst (v := (-1)) i_mo_bestDuties_6 (by decide) ?_
    refine ev_icmp_ne i_mo_bestDuties_7 (fun c_7 => ?_) (fun c_7 => ?_)
    · exact absurd rfl c_7
    refine ev_iconst (v := 0) i_mo_bestDuties_10 (by decide) ?_
    refine ev_goto i_mo_bestDuties_11 ?_
    refine ev_ireturn i_mo_bestDuties_26 rfl rfl ?_
    exact ⟨_, rfl, eb.symm, rfl⟩
  · have eb : mbd A p w pm cm = mdv (mdut A p i w pm) := by unfold mbd; rw [if_neg (by rw [e]; exact nI_nm1 (by omega)), e, nI_clamp (by omega)]
    rw [e]
    refine ev_iconst (v := (-1)) i_mo_bestDuties_6 (by decide) ?_
    refine ev_icmp_ne i_mo_bestDuties_7 (fun c_7 => ?_) (fun c_7 => ?_)
    rotate_left
    · exact absurd c_7 (nI_nm1 (by omega))
    refine ev_aload_0 i_mo_bestDuties_14 ?_
    refine ev_iload_1 i_mo_bestDuties_15 ?_
    refine ev_aload_0 i_mo_bestDuties_16 ?_
    refine ev_iload_1 i_mo_bestDuties_17 ?_
    refine ev_iload_2 i_mo_bestDuties_18 ?_
    refine ev_vi2 i_mo_bestDuties_19 lk_mo_157 cb_mo_bestOf iv_mo_bestOf (r_mo_bestOf H hp hw hpm hpm2 hcm hcm2 hpc) H.1 rfl (by decide) (Nat.le_of_ble_eq_true rfl) rfl rfl (fun v h'' hq => ?_)
    obtain ⟨rfl, rfl⟩ := hq
    rw [e]
    refine ev_iload_2 i_mo_bestDuties_22 ?_
    refine ev_vi3 i_mo_bestDuties_23 lk_mo_150 cb_mo_dutiesOf iv_mo_dutiesOf (r_mo_dutiesOf H hp (show i < 20 by omega) hw hpm hpm2 hpc) H.1 rfl (by decide) (Nat.le_of_ble_eq_true rfl) rfl rfl (fun v h''' hq => ?_)
    obtain ⟨rfl, rfl⟩ := hq
    refine ev_ireturn i_mo_bestDuties_26 rfl rfl ?_
    exact ⟨_, rfl, eb.symm, rfl⟩
end MO3
