section MR6
variable {G : ev_G} {h h0 : ev_H} {m : Nat} {ad : Nat → Nat} {sc0 : Nat → Int32} {A0 : Nat → Nat → Int32} {Wd : Nat → Int64}
theorem sgAt_push {A : Nat → Nat → Int32} {n : Nat} {v : Int32} : ∀ S : List Nat, S.length ≤ n → sgAt A S → sgAt (va_up A 22 (upd (A 22) n v)) S := by
  intro S
  induction S with
  | nil => intros; trivial
  | cons c S ihS =>
    intro hS hA
    rw [List.length_cons] at hS
    refine ⟨?_, ihS (by omega) hA.2⟩
    show upd (A 22) n v S.length = _
    rw [upd_ne (by omega)]
    exact hA.1
/-- what reading leaves -/
def rdQ (G : ev_G) (h0 : ev_H) (m : Nat) (ad : Nat → Nat) (Wd : Nat → Int64) (sc0 : Nat → Int32) (A0 : Nat → Nat → Int32) (len : Nat) (r : Nat ⊕ RS) (v : Int32) (h' : ev_H) : Prop :=
  ∃ sc' A', MI G h0 h' m ad sc' A' Wd ∧ sg0 sc0 sc' ∧ ag0 A0 A' ∧ ((∃ i, r = .inl i ∧ i ≤ len ∧ v = nI i) ∨ (v = -1 ∧ ∃ s' cn C R, r = .inr s' ∧ s'.2.2.2.2 2 = mp C cn R ∧ GR cn R ∧ rowAt A' 0 R ∧ sc' 27 = s'.2.2.2.1 ∧ sc' 23 = nI cn ∧ cn ≤ 30 ∧ mcd A' cn C ∧ cinj cn C))
theorem r_mo_read {lic len : Nat} {tc : Nat → Nat} {sx : RS} (H : MI G h0 h m ad sc0 A0 Wd) (hl : sc0 9 = nI len) (hl2 : len ≤ 60) (ht : mtx A0 len tc) (hlic : sc0 2 = nI lic) (hlic2 : lic ≤ 16) :
    Rn G M_mo_read 2 0 0 [.ref m] h (ev_qi fun v h' => rdQ G h0 m ad Wd sc0 A0 len (sRead lic tc len sx) v h') := by
  rw [SG_0]
  generalize hr : SG lic tc len 0 (sStart sx) = r
  have tb : ∀ j, j < len → tc j ≤ 126 := fun j hj => (ht j hj).2.2
  have both : ∀ (q : Nat), (∀ (i : Nat) (h : ev_H) (sc : Nat → Int32) (A : Nat → Nat → Int32) (cn : Nat) (C : Nat → Nat) (RL : List (List Int32)) (SL : List Nat) (fl : Int32) (s : RS) (w1 : Option Value), ev_nl w1 = true → i + q = len → SG lic tc len i s = r → MI G h0 h m ad sc A Wd → RI sc0 A0 sc A cn C RL SL fl s.1 i → BH C cn s fl RL SL → 2 * cn ≤ i + 1 → 2 * RL.length ≤ i + 1 → SL.length ≤ i → Ev G M_mo_read 2 0 0 (ev_qi fun v h' => rdQ G h0 m ad Wd sc0 A0 len r v h') 42 [some (.ref m), w1] [] h) ∧ (∀ (i : Nat) (h : ev_H) (sc : Nat → Int32) (A : Nat → Nat → Int32) (cn : Nat) (C : Nat → Nat) (RL : List (List Int32)) (SL : List Nat) (s : RS) (w1 : Option Value), ev_nl w1 = true → i + q = len → SG lic tc len i s = r → MI G h0 h m ad sc A Wd → RI sc0 A0 sc A cn C RL SL s.2.2.2.1 s.1 i → WT C cn s RL SL → 2 * cn ≤ i → 2 * RL.length ≤ i → SL.length ≤ i → Ev G M_mo_read 2 0 0 (ev_qi fun v h' => rdQ G h0 m ad Wd sc0 A0 len r v h') 30 [some (.ref m), w1] [] h) := by
    intro q
    induction q using Nat.strongRecOn with
    | _ q ih =>
    have IN : ∀ (i : Nat) (h : ev_H) (sc : Nat → Int32) (A : Nat → Nat → Int32) (cn : Nat) (C : Nat → Nat) (RL : List (List Int32)) (SL : List Nat) (fl : Int32) (s : RS) (w1 : Option Value), ev_nl w1 = true → i + q = len → SG lic tc len i s = r → MI G h0 h m ad sc A Wd → RI sc0 A0 sc A cn C RL SL fl s.1 i → BH C cn s fl RL SL → 2 * cn ≤ i + 1 → 2 * RL.length ≤ i + 1 → SL.length ≤ i → Ev G M_mo_read 2 0 0 (ev_qi fun v h' => rdQ G h0 m ad Wd sc0 A0 len r v h') 42 [some (.ref m), w1] [] h := by
      intro i h sc A cn C RL SL fl s w1 nw1 hi hr H hR hB b1 b2 b3
      obtain ⟨rdm, r8, r9, r10, r11, r12, r13, r14⟩ := id hR
      obtain ⟨t1, t2, E, P, R, RL0, SL0, g1, g2, g3, g4, g5, g6, g7, g8, g9, g10⟩ := id hB
      subst g8 g9
      have hC : ∀ k, k < cn → C k < 192 := fun k hk => by have := (r11 k hk).2; omega
      have hl' : sc 9 = nI len := (r13 9 (by decide) (by decide) (by decide) (by decide) (by decide) (by decide)).trans hl
      have ht' : mtx A len tc := by unfold mtx; rw [r14 8 (by decide) (by decide) (by decide) (by decide) (by decide)]; exact ht
      have len0 : (opL P ++ (opL E ++ RL0)).length ≥ RL0.length := by simp only [List.length_append]; omega
      have lenE : (opL P ++ (opL E ++ RL0)).length ≥ (opL E ++ RL0).length := by simp only [List.length_append]; omega
      have slen0 : (sgL P 38 ++ (sgL E 124 ++ SL0)).length ≥ SL0.length := by simp only [List.length_append]; omega
      have slenE : (sgL P 38 ++ (sgL E 124 ++ SL0)).length ≥ (sgL E 124 ++ SL0).length := by simp only [List.length_append]; omega
      rw [List.length_cons] at b2
      refine ev_aload_0 i_mo_read_42 ?_
      refine ev_vi0 i_mo_read_43 lk_mo_121 cb_mo_next iv_mo_next (r_mo_next H hl' hl2 ht' r9 (show i ≤ len by omega)) H.1 rfl (by decide) (Nat.le_of_ble_eq_true rfl) rfl rfl (fun v h2 hq => ?_)
      obtain ⟨i1, H, rfl, a1, a2, a3, a4⟩ := hq
      have er : SG lic tc len i1 s = r := by rw [← hr]; exact (SG_skip a1 a2 a3).symm
      have sN : sName s = s := sName_n (by rw [t1]; decide)
      have sT : ∀ c, sTake lic s c = sSign s c := by
        intro c
        unfold sTake
        rw [t1, if_neg (by decide), if_neg (by decide), if_neg (fun z => absurd z.1 (by decide)), sN]
      have rdm1 : RDM (va_up sc 34 (nI i1)) A (R :: (opL P ++ (opL E ++ RL0))) (sgL P 38 ++ (sgL E 124 ++ SL0)) fl := rdm
      generalize hcc : nxc tc len i1 = cc
      have ccb : cc ≤ 126 := by
        rw [← hcc]
        unfold nxc
        split
        · exact tb i1 (by assumption)
        · omega
      have ecc : i1 < len → tc i1 = cc := fun z => by rw [← hcc]; unfold nxc; rw [if_pos z]
      have lcc : 0 < cc → i1 < len := by
        intro hp
        rcases Nat.lt_or_ge i1 len with z | z
        · exact z
        · unfold nxc at hcc; rw [if_neg (by omega)] at hcc; omega
      have tail : ¬ (cc = 41 ∧ 0 < s.1) → Ev G M_mo_read 2 0 0 (ev_qi fun v h' => rdQ G h0 m ad Wd sc0 A0 len r v h') 96 [some (.ref m), w1] [] h2 := by
        intro hnc
        refine ev_aload_0 i_mo_read_96 ?_
        refine ev_vi0 i_mo_read_97 lk_mo_121 cb_mo_next iv_mo_next (r_mo_next H hl' hl2 ht' rfl a2) H.1 rfl (by decide) (Nat.le_of_ble_eq_true rfl) rfl rfl (fun v h3 hq => ?_)
        obtain ⟨i2, H, rfl, d1, d2, d3, d4⟩ := hq
        have e21 : i2 = i1 := by
          rcases Nat.lt_or_ge i1 i2 with z | z
          · exact absurd (d3 i1 (Nat.le_refl _) z) (a4 (by omega))
          · omega
        subst e21
        rw [show va_up (va_up sc 34 (nI i2)) 34 (nI i2) = va_up sc 34 (nI i2) from hu_uu] at H
        rw [hcc]
        refine ev_istore_1 i_mo_read_100 rfl ?_
        refine ev_iload_1 i_mo_read_101 ?_
        refine ev_bipush (v := 124) i_mo_read_102 (by decide) ?_
        refine ev_icmp_eq i_mo_read_104 (fun c_104 => ?_) (fun c_104 => ?_)
        · -- or
          have e124 : cc = 124 := (nI_eq (by omega) (by omega)).mp (show nI cc = nI 124 from c_104)
          have hlt := lcc (by omega)
          obtain ⟨k1, k2⟩ := BH_or hC r12 t2 g1 g2 g3 g4 g5 g6 g10
          refine ev_aload_0 i_mo_read_116 ?_
          refine ev_iload_1 i_mo_read_117 ?_
          refine ev_bipush (v := 124) i_mo_read_118 (by decide) ?_
          refine ev_icmp_ne i_mo_read_120 (fun c_120 => ?_) (fun c_120 => ?_)
          · exact absurd c_104 c_120
          refine ev_iconst (v := 1) i_mo_read_123 (by decide) ?_
          refine ev_goto i_mo_read_124 ?_
          refine ev_vv1 i_mo_read_128 lk_mo_136 cb_mo_workOff iv_mo_workOff (r_mo_workOff1 H rdm1 (bel_hd g10)) H.1 rfl (by decide) (Nat.le_of_ble_eq_true rfl) rfl rfl (fun h4 hq => ?_)
          obtain ⟨sc', A', H, ⟨q1, q2, q3, q4, q5, q6, q7⟩, q8, q9⟩ := hq
          rw [List.length_cons] at q2
          refine ev_aload_0 i_mo_read_131 ?_
          refine ev_get i_mo_read_132 fl_mo_63 H.1 rfl ?_
          refine ev_aload_0 i_mo_read_135 ?_
          refine ev_get i_mo_read_136 fl_mo_111 H.1 rfl ?_
          refine ev_iload_1 i_mo_read_139 ?_
          refine ev_is (L := 80) i_mo_read_140 H rfl rfl (j := SL0.length) q4 (by omega) (by omega) (fun h H => ?_)
          refine ev_aload_0 i_mo_read_141 ?_
          refine ev_dup i_mo_read_142 rfl ?_
          refine ev_get i_mo_read_143 fl_mo_111 H.1 rfl ?_
          refine ev_iconst (v := 1) i_mo_read_146 (by decide) ?_
          refine ev_iadd i_mo_read_147 ?_
          refine ev_top (y := nI (SL0.length + 1)) (show sc' 25 + 1 = _ by rw [q4]; exact nI_1 _) ?_
          refine ev_p25 i_mo_read_148 pl_mo_read_111 H (fun h H => ?_)
          refine ev_aload_0 i_mo_read_151 ?_
          refine ev_dup i_mo_read_152 rfl ?_
          refine ev_get i_mo_read_153 fl_mo_118 H.1 rfl ?_
          refine ev_iconst (v := 1) i_mo_read_156 (by decide) ?_
          refine ev_iadd i_mo_read_157 ?_
          refine ev_top (y := nI (i2 + 1)) (show sc' 34 + 1 = _ by rw [q8 34 (by decide) (by decide) (by decide)]; exact nI_1 _) ?_
          refine ev_p34 i_mo_read_158 pl_mo_read_118 H (fun h H => ?_)
          refine ev_goto i_mo_read_161 ?_
          refine (ih (len - (i2 + 1)) (by omega)).2 (i2 + 1) _ _ _ cn C (jE E (jA P R) :: RL0) (124 :: SL0) (s.1, 0, s.2.2.1, mAlso s.2.2.2.1 s.2.2.2.2 s.1, xAlso s.2.2.2.2 s.1) _ rfl (by omega) ?_ H ⟨⟨q1, by rw [List.length_cons]; omega, ?_, rfl, by rw [List.length_cons]; omega, ⟨?_, sgAt_push SL0 (Nat.le_refl _) q6⟩, ?_⟩, ?_, rfl, ?_, ?_, r12, ?_, ?_⟩ k1 (by omega) (by rw [List.length_cons]; omega) (by rw [List.length_cons]; omega)
          · rw [← er]
            refine (SG_t hlt (a4 hlt) ?_).symm
            rw [ecc hlt, sT]
            unfold sSign
            rw [if_neg (by omega), if_pos e124]
          · refine rowsAt_cg2 (A := A') (a := RL0.length + 1) ?_ ?_ _ (by rw [List.length_cons]; exact Nat.le_refl _) q3 <;> intros <;> rfl
          · show upd (A' 22) SL0.length (nI cc) SL0.length = _
            rw [pk_us, e124]
          · show sc' 27 = _
            rw [q7]
            show _ = mAlso s.2.2.2.1 s.2.2.2.2 s.1
            rw [k2, g7]
          · show sc' 26 = _
            rw [q8 26 (by decide) (by decide) (by decide)]
            exact r8
          · show sc' 23 = _
            rw [q8 23 (by decide) (by decide) (by decide)]
            exact r10
          · show mcd (va_up A' 22 _) cn C
            unfold mcd
            rw [show ∀ f, va_up A' 22 f 18 = A' 18 from fun _ => rfl, q9 18 (by decide) (by decide) (by decide)]
            exact r11
          · exact sg0_up (sg0_up (sg0_sfr (sg0_up r13 (by omega)) q8) (by omega)) (by omega)
          · exact ag0_up (ag0_afr r14 q9) (by omega)
        refine ev_iload_1 i_mo_read_107 ?_
        refine ev_bipush (v := 38) i_mo_read_108 (by decide) ?_
        refine ev_icmp_eq i_mo_read_110 (fun c_110 => ?_) (fun c_110 => ?_)
        · -- and
          have e38 : cc = 38 := (nI_eq (by omega) (by omega)).mp (show nI cc = nI 38 from c_110)
          have hlt := lcc (by omega)
          have k1 := BH_and (fl := fl) t2 g1 g2 g3 g4 g5 g6 g10
          refine ev_aload_0 i_mo_read_116 ?_
          refine ev_iload_1 i_mo_read_117 ?_
          refine ev_bipush (v := 124) i_mo_read_118 (by decide) ?_
          refine ev_icmp_ne i_mo_read_120 (fun c_120 => ?_) (fun c_120 => ?_)
          rotate_left
          · exact absurd c_120 c_104
          refine ev_iconst (v := 0) i_mo_read_127 (by decide) ?_
          refine ev_vv1 i_mo_read_128 lk_mo_136 cb_mo_workOff iv_mo_workOff (r_mo_workOff0 H rdm1 (bel_hd g10)) H.1 rfl (by decide) (Nat.le_of_ble_eq_true rfl) rfl rfl (fun h4 hq => ?_)
          obtain ⟨sc', A', H, ⟨q1, q2, q3, q4, q5, q6, q7⟩, q8, q9⟩ := hq
          rw [List.length_cons] at q2
          refine ev_aload_0 i_mo_read_131 ?_
          refine ev_get i_mo_read_132 fl_mo_63 H.1 rfl ?_
          refine ev_aload_0 i_mo_read_135 ?_
          refine ev_get i_mo_read_136 fl_mo_111 H.1 rfl ?_
          refine ev_iload_1 i_mo_read_139 ?_
          refine ev_is (L := 80) i_mo_read_140 H rfl rfl (j := (sgL E 124 ++ SL0).length) q4 (by omega) (by omega) (fun h H => ?_)
          refine ev_aload_0 i_mo_read_141 ?_
          refine ev_dup i_mo_read_142 rfl ?_
          refine ev_get i_mo_read_143 fl_mo_111 H.1 rfl ?_
          refine ev_iconst (v := 1) i_mo_read_146 (by decide) ?_
          refine ev_iadd i_mo_read_147 ?_
          refine ev_top (y := nI ((sgL E 124 ++ SL0).length + 1)) (show sc' 25 + 1 = _ by rw [q4]; exact nI_1 _) ?_
          refine ev_p25 i_mo_read_148 pl_mo_read_111 H (fun h H => ?_)
          refine ev_aload_0 i_mo_read_151 ?_
          refine ev_dup i_mo_read_152 rfl ?_
          refine ev_get i_mo_read_153 fl_mo_118 H.1 rfl ?_
          refine ev_iconst (v := 1) i_mo_read_156 (by decide) ?_
          refine ev_iadd i_mo_read_157 ?_
          refine ev_top (y := nI (i2 + 1)) (show sc' 34 + 1 = _ by rw [q8 34 (by decide) (by decide) (by decide)]; exact nI_1 _) ?_
          refine ev_p34 i_mo_read_158 pl_mo_read_118 H (fun h H => ?_)
          refine ev_goto i_mo_read_161 ?_
          refine (ih (len - (i2 + 1)) (by omega)).2 (i2 + 1) _ _ _ cn C (jA P R :: (opL E ++ RL0)) (38 :: (sgL E 124 ++ SL0)) (s.1, 0, s.2.2.1, s.2.2.2.1, s.2.2.2.2) _ rfl (by omega) ?_ H ⟨⟨q1, by rw [List.length_cons]; omega, ?_, rfl, by rw [List.length_cons]; omega, ⟨?_, sgAt_push _ (Nat.le_refl _) q6⟩, ?_⟩, ?_, rfl, ?_, ?_, r12, ?_, ?_⟩ k1 (by omega) (by rw [List.length_cons]; omega) (by rw [List.length_cons]; omega)
          · rw [← er]
            refine (SG_t hlt (a4 hlt) ?_).symm
            rw [ecc hlt, sT]
            unfold sSign
            rw [if_neg (by omega), if_neg (by omega), if_pos e38]
          · refine rowsAt_cg2 (A := A') (a := (opL E ++ RL0).length + 1) ?_ ?_ _ (by rw [List.length_cons]; exact Nat.le_refl _) q3 <;> intros <;> rfl
          · show upd (A' 22) (sgL E 124 ++ SL0).length (nI cc) (sgL E 124 ++ SL0).length = _
            rw [pk_us, e38]
          · show sc' 27 = _
            rw [q7]
            exact g7.symm
          · show sc' 26 = _
            rw [q8 26 (by decide) (by decide) (by decide)]
            exact r8
          · show sc' 23 = _
            rw [q8 23 (by decide) (by decide) (by decide)]
            exact r10
          · show mcd (va_up A' 22 _) cn C
            unfold mcd
            rw [show ∀ f, va_up A' 22 f 18 = A' 18 from fun _ => rfl, q9 18 (by decide) (by decide) (by decide)]
            exact r11
          · exact sg0_up (sg0_up (sg0_sfr (sg0_up r13 (by omega)) q8) (by omega)) (by omega)
          · exact ag0_up (ag0_afr r14 q9) (by omega)
        -- the end
        have n124 : ¬ cc = 124 := fun z => c_104 (by rw [z]; rfl)
        have n38 : ¬ cc = 38 := fun z => c_110 (by rw [z]; rfl)
        have bad : (i2 < len ∨ 0 < s.1) → r = .inl i2 := by
          intro z
          rw [← er]
          by_cases hlt : i2 < len
          · refine SG_n hlt (a4 hlt) ?_
            rw [ecc hlt, sT]
            unfold sSign
            by_cases e41 : cc = 41
            · rw [if_pos e41, if_neg (fun z => hnc ⟨e41, z⟩)]
            · rw [if_neg e41, if_neg n124, if_neg n38]
          · refine SG_bad a2 (fun z => absurd z hlt) (fun z2 => ?_)
            rw [sN] at z2
            omega
        refine ev_goto i_mo_read_113 ?_
        refine ev_aload_0 i_mo_read_164 ?_
        refine ev_get i_mo_read_165 fl_mo_118 H.1 rfl ?_
        refine ev_aload_0 i_mo_read_168 ?_
        refine ev_get i_mo_read_169 fl_mo_98 H.1 rfl ?_
        refine ev_top (y := nI len) hl' ?_
        refine ev_icmp_lt i_mo_read_172 (fun c_172 => ?_) (fun c_172 => ?_)
        · have hlt : i2 < len := (nI_ltI (by omega) (by omega)).mp (show nI i2 < nI len from c_172)
          refine ev_aload_0 i_mo_read_182 ?_
          refine ev_get i_mo_read_183 fl_mo_118 H.1 rfl ?_
          refine ev_ireturn i_mo_read_186 rfl rfl ?_
          exact ⟨_, rfl, _, _, H, sg0_up r13 (by omega), r14, Or.inl ⟨i2, bad (Or.inl hlt), a2, rfl⟩⟩
        have hge : ¬ i2 < len := fun z => c_172 (show nI i2 < nI len from nI_lt z (by omega))
        refine ev_aload_0 i_mo_read_175 ?_
        refine ev_get i_mo_read_176 fl_mo_125 H.1 rfl ?_
        refine ev_top (y := nI s.1) r8 ?_
        refine ev_if_le i_mo_read_179 (fun c_179 => ?_) (fun c_179 => ?_)
        rotate_left
        · have hp : 0 < s.1 := by
            rcases Nat.eq_zero_or_pos s.1 with z | z
            · rw [z] at c_179; exact absurd (by decide) c_179
            · exact z
          refine ev_aload_0 i_mo_read_182 ?_
          refine ev_get i_mo_read_183 fl_mo_118 H.1 rfl ?_
          refine ev_ireturn i_mo_read_186 rfl rfl ?_
          exact ⟨_, rfl, _, _, H, sg0_up r13 (by omega), r14, Or.inl ⟨i2, bad (Or.inr hp), a2, rfl⟩⟩
        have o0 : s.1 = 0 := by
          rcases Nat.eq_zero_or_pos s.1 with z | z
          · exact z
          · exact absurd c_179 (nI_nle z (by omega))
        refine ev_aload_0 i_mo_read_187 ?_
        refine ev_iconst (v := 1) i_mo_read_188 (by decide) ?_
        refine ev_vv1 i_mo_read_189 lk_mo_136 cb_mo_workOff iv_mo_workOff (r_mo_workOff1 H rdm1 (bel_hd g10)) H.1 rfl (by decide) (Nat.le_of_ble_eq_true rfl) rfl rfl (fun h4 hq => ?_)
        obtain ⟨sc', A', H, ⟨q1, q2, q3, q4, q5, q6, q7⟩, q8, q9⟩ := hq
        refine ev_iconst (v := (-1)) i_mo_read_192 (by decide) ?_
        refine ev_ireturn i_mo_read_193 rfl rfl ?_
        have eRL0 : RL0 = [] := by
          rw [o0] at g10
          exact g10.1
        subst eRL0
        have e5 : s.2.2.2.2 (2 + 0) = mp C cn E := by rw [← o0]; exact g5
        have e6 : s.2.2.2.2 (13 + 0) = mp C cn (jA P R) := by rw [← o0]; exact g6
        obtain ⟨k1, k2, -⟩ := also_map hC r12 g1 (jA_GR g2 g3) e5 e6 s.2.2.2.1
        refine ⟨_, rfl, sc', A', H, sg0_sfr (sg0_up r13 (by omega)) q8, ag0_afr r14 q9, Or.inr ⟨rfl, (0, 3, s.2.2.1, mAlso s.2.2.2.1 s.2.2.2.2 0, xAlso s.2.2.2.2 0), cn, C, jE E (jA P R), ?_, k1, jE_GR g1 (jA_GR g2 g3), q3.1, ?_, ?_, by omega, ?_, r12⟩⟩
        · rw [← er, show i2 = len by omega, SG_end]
          show (if (sName s).2.1 = 3 ∧ (sName s).1 = 0 then (Sum.inr (0, 3, (sName s).2.2.1, mAlso (sName s).2.2.2.1 (sName s).2.2.2.2 0, xAlso (sName s).2.2.2.2 0) : Nat ⊕ RS) else .inl len) = _
          rw [sN, if_pos ⟨t1, o0⟩]
        · rw [q7]
          show _ = mAlso s.2.2.2.1 s.2.2.2.2 0
          rw [k2, g7]
        · rw [q8 23 (by decide) (by decide) (by decide)]
          exact r10
        · unfold mcd
          rw [q9 18 (by decide) (by decide) (by decide)]
          exact r11
      refine ev_bipush (v := 41) i_mo_read_46 (by decide) ?_
      refine ev_icmp_ne i_mo_read_48 (fun c_48 => ?_) (fun c_48 => ?_)
      · exact tail (fun z => c_48 (by rw [z.1]; rfl))
      have e41 : cc = 41 := (nI_eq (by omega) (by omega)).mp (show nI cc = nI 41 from c_48)
      have hlt := lcc (by omega)
      refine ev_aload_0 i_mo_read_51 ?_
      refine ev_get i_mo_read_52 fl_mo_125 H.1 rfl ?_
      refine ev_top (y := nI s.1) r8 ?_
      refine ev_if_le i_mo_read_55 (fun c_55 => ?_) (fun c_55 => ?_)
      · exact tail (fun z => absurd c_55 (nI_nle z.2 (by omega)))
      have hp : 0 < s.1 := by
        rcases Nat.eq_zero_or_pos s.1 with z | z
        · rw [z] at c_55; exact absurd (by decide) c_55
        · exact z
      obtain ⟨SL1, eS, k1⟩ := BH_close hC r12 t2 hp g1 g2 g3 g4 g5 g6 g7 g10
      subst eS
      refine ev_aload_0 i_mo_read_58 ?_
      refine ev_iconst (v := 1) i_mo_read_59 (by decide) ?_
      refine ev_vv1 i_mo_read_60 lk_mo_136 cb_mo_workOff iv_mo_workOff (r_mo_workOff1 H rdm1 (bel_hd g10)) H.1 rfl (by decide) (Nat.le_of_ble_eq_true rfl) rfl rfl (fun h4 hq => ?_)
      obtain ⟨sc', A', H, ⟨q1, q2, q3, q4, q5, q6, q7⟩, q8, q9⟩ := hq
      rw [List.length_cons] at q2 q4 q5 slen0
      refine ev_aload_0 i_mo_read_63 ?_
      refine ev_dup i_mo_read_64 rfl ?_
      refine ev_get i_mo_read_65 fl_mo_111 H.1 rfl ?_
      refine ev_iconst (v := 1) i_mo_read_68 (by decide) ?_
      refine ev_isub i_mo_read_69 ?_
      refine ev_top (y := nI SL1.length) (show sc' 25 - 1 = _ by rw [q4]; exact nI_pred _) ?_
      refine ev_p25 i_mo_read_70 pl_mo_read_111 H (fun h H => ?_)
      refine ev_aload_0 i_mo_read_73 ?_
      refine ev_dup i_mo_read_74 rfl ?_
      refine ev_get i_mo_read_75 fl_mo_125 H.1 rfl ?_
      refine ev_iconst (v := 1) i_mo_read_78 (by decide) ?_
      refine ev_isub i_mo_read_79 ?_
      refine ev_top (y := nI (s.1 - 1)) (show sc' 26 - 1 = _ by rw [q8 26 (by decide) (by decide) (by decide)]; show sc 26 - 1 = _; rw [r8]; exact pk_sub (a := s.1) (b := 1) (by omega)) ?_
      refine ev_p26 i_mo_read_80 pl_mo_read_125 H (fun h H => ?_)
      refine ev_aload_0 i_mo_read_83 ?_
      refine ev_dup i_mo_read_84 rfl ?_
      refine ev_get i_mo_read_85 fl_mo_118 H.1 rfl ?_
      refine ev_iconst (v := 1) i_mo_read_88 (by decide) ?_
      refine ev_iadd i_mo_read_89 ?_
      refine ev_top (y := nI (i1 + 1)) (show sc' 34 + 1 = _ by rw [q8 34 (by decide) (by decide) (by decide)]; exact nI_1 _) ?_
      refine ev_p34 i_mo_read_90 pl_mo_read_118 H (fun h H => ?_)
      refine ev_goto i_mo_read_93 ?_
      refine (ih (len - (i1 + 1)) (by omega)).1 (i1 + 1) _ _ _ cn C (jE E (jA P R) :: RL0) SL1 _ (s.1 - 1, 3, s.2.2.1, mAtom (mAlso s.2.2.2.1 s.2.2.2.2 s.1) (xAlso s.2.2.2.2 s.1) (13 + (s.1 - 1)) (2 + s.1), xAtom (xAlso s.2.2.2.2 s.1) (13 + (s.1 - 1)) (2 + s.1)) w1 nw1 (by omega) ?_ H ⟨⟨q1, by rw [List.length_cons]; omega, q3, rfl, by omega, q6.2, q7⟩, rfl, rfl, ?_, ?_, r12, ?_, ag0_afr r14 q9⟩ k1 (by omega) (by rw [List.length_cons]; omega) (by omega)
      · rw [← er]
        refine (SG_t hlt (a4 hlt) ?_).symm
        rw [ecc hlt, sT]
        unfold sSign
        rw [if_pos e41, if_pos hp]
      · show sc' 23 = _
        rw [q8 23 (by decide) (by decide) (by decide)]
        exact r10
      · unfold mcd
        rw [q9 18 (by decide) (by decide) (by decide)]
        exact r11
      · exact sg0_up (sg0_up (sg0_up (sg0_sfr (sg0_up r13 (by omega)) q8) (by omega)) (by omega)) (by omega)
    refine ⟨IN, ?_⟩
    intro i h sc A cn C RL SL s w1 nw1 hi hr H hR hW b1 b2 b3
    refine ev_aload_0 i_mo_read_30 ?_
    refine ev_vi0 i_mo_read_31 lk_mo_132 cb_mo_operand iv_mo_operand (r_mo_operand hl hl2 ht hlic hlic2 H hR hW (show i ≤ len by omega) b1 b2 b3) H.1 rfl (by decide) (Nat.le_of_ble_eq_true rfl) rfl rfl (fun v h2 hq => ?_)
    rw [hr] at hq
    rcases hq with ⟨rfl, sc', A', i', H', k1, k2, k3, k4, k5⟩ | ⟨rfl, sc', A', cn', C', RL', SL', fl', i', s', H', k1, k2, k3, k4, k5, k6, k7, k8⟩
    · refine ev_if_ne i_mo_read_34 (fun c_34 => ?_) (fun c_34 => ?_)
      · exact absurd rfl c_34
      have H := H'
      refine ev_aload_0 i_mo_read_37 ?_
      refine ev_get i_mo_read_38 fl_mo_118 H.1 rfl ?_
      refine ev_ireturn i_mo_read_41 rfl rfl ?_
      exact ⟨_, rfl, sc', A', H', k1, k2, Or.inl ⟨i', k5, k4, k3⟩⟩
    · refine ev_if_ne i_mo_read_34 (fun c_34 => ?_) (fun c_34 => ?_)
      rotate_left
      · exact absurd c_34 (by decide)
      by_cases e : i' = i
      · subst e
        exact IN i' h2 sc' A' cn' C' RL' SL' fl' s' w1 nw1 hi k3.symm H' k1 k2 k6 k7 k8
      · exact (ih (len - i') (by omega)).1 i' h2 sc' A' cn' C' RL' SL' fl' s' w1 nw1 (by omega) k3.symm H' k1 k2 k6 k7 k8
  refine Rn_of (ls := [some (.ref m), none]) rfl rfl (Nat.le_of_ble_eq_true rfl) rfl ?_
  refine ev_aload_0 i_mo_read_0 ?_
  refine ev_iconst (v := 0) i_mo_read_1 (by decide) ?_
  refine ev_p34 i_mo_read_2 pl_mo_read_118 H (fun h H => ?_)
  refine ev_aload_0 i_mo_read_5 ?_
  refine ev_iconst (v := 0) i_mo_read_6 (by decide) ?_
  refine ev_p25 i_mo_read_7 pl_mo_read_111 H (fun h H => ?_)
  refine ev_aload_0 i_mo_read_10 ?_
  refine ev_iconst (v := 0) i_mo_read_11 (by decide) ?_
  refine ev_p24 i_mo_read_12 pl_mo_read_104 H (fun h H => ?_)
  refine ev_aload_0 i_mo_read_15 ?_
  refine ev_iconst (v := 0) i_mo_read_16 (by decide) ?_
  refine ev_p23 i_mo_read_17 pl_mo_read_101 H (fun h H => ?_)
  refine ev_aload_0 i_mo_read_20 ?_
  refine ev_iconst (v := 0) i_mo_read_21 (by decide) ?_
  refine ev_p26 i_mo_read_22 pl_mo_read_125 H (fun h H => ?_)
  refine ev_aload_0 i_mo_read_25 ?_
  refine ev_iconst (v := 0) i_mo_read_26 (by decide) ?_
  refine ev_p27 i_mo_read_27 pl_mo_read_107 (Or.inl rfl) H (fun h H => ?_)
  refine (both len).2 0 _ _ _ 0 (fun _ => 0) [] [] (sStart sx) none rfl (by omega) hr H ⟨⟨rfl, by simp, trivial, rfl, by simp, trivial, rfl⟩, rfl, rfl, rfl, fun k hk => absurd hk (Nat.not_lt_zero _), fun a b ha => absurd ha (Nat.not_lt_zero _), ?_, fun _ _ _ _ _ _ => rfl⟩ ⟨rfl, Nat.zero_le _, [], [], [], [], GR_nil, GR_nil, ?_, ?_, rfl, rfl, rfl, rfl⟩ (by omega) (by simp) (by simp)
  · exact sg0_up (sg0_up (sg0_up (sg0_up (sg0_up (sg0_up (fun _ _ _ _ _ _ _ => rfl) (by omega)) (by omega)) (by omega)) (by omega)) (by omega)) (by omega)
  · rfl
  · rfl
end MR6
