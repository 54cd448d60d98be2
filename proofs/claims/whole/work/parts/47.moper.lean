section MR5
variable {G : ev_G} {h h0 : ev_H} {m : Nat} {ad : Nat → Nat} {sc sc0 : Nat → Int32} {A A0 : Nat → Nat → Int32} {Wd : Nat → Int64}
/-- what reading leaves as it was -/
def sg0 (sc0 sc : Nat → Int32) : Prop := ∀ k, k ≠ 23 → k ≠ 24 → k ≠ 25 → k ≠ 26 → k ≠ 27 → k ≠ 34 → sc k = sc0 k
def ag0 (A0 A : Nat → Nat → Int32) : Prop := ∀ k, k ≠ 18 → k ≠ 19 → k ≠ 20 → k ≠ 21 → k ≠ 22 → A k = A0 k
theorem sg0_up {k : Nat} {v : Int32} (h : sg0 sc0 sc) (hk : k = 23 ∨ k = 24 ∨ k = 25 ∨ k = 26 ∨ k = 27 ∨ k = 34) : sg0 sc0 (va_up sc k v) := fun j a b c d e f => by rw [va_up_ne _ _ (by omega)]; exact h j a b c d e f
theorem ag0_up {k : Nat} {f : Nat → Int32} (h : ag0 A0 A) (hk : k = 18 ∨ k = 19 ∨ k = 20 ∨ k = 21 ∨ k = 22) : ag0 A0 (va_up A k f) := fun j a b c d e => by rw [va_up_ne _ _ (by omega)]; exact h j a b c d e
theorem sg0_sfr {sc' : Nat → Int32} (h : sg0 sc0 sc) (q : sfr sc sc') : sg0 sc0 sc' := fun j a b c d e f => (q j b c e).trans (h j a b c d e f)
theorem ag0_afr {A' : Nat → Nat → Int32} (h : ag0 A0 A) (q : afr A A') : ag0 A0 A' := fun j a b c d e => (q j b c d).trans (h j a b c d e)
/-- the reference while it reads -/
def RI (sc0 : Nat → Int32) (A0 : Nat → Nat → Int32) (sc : Nat → Int32) (A : Nat → Nat → Int32) (cn : Nat) (C : Nat → Nat) (RL : List (List Int32)) (SL : List Nat) (fl : Int32) (o i : Nat) : Prop :=
  RDM sc A RL SL fl ∧ sc 26 = nI o ∧ sc 34 = nI i ∧ sc 23 = nI cn ∧ mcd A cn C ∧ cinj cn C ∧ sg0 sc0 sc ∧ ag0 A0 A
theorem rowsAt_cg2 {A A' : Nat → Nat → Int32} {a : Nat} (h1 : ∀ j, j < 20 * a → A' 19 j = A 19 j) (h2 : ∀ r, r < a → A' 20 r = A 20 r) : ∀ RL : List (List Int32), RL.length ≤ a → rowsAt A RL → rowsAt A' RL := by
  intro RL
  induction RL with
  | nil => intros; trivial
  | cons R RL ih =>
    intro hl hr
    rw [List.length_cons] at hl
    refine ⟨⟨?_, hr.1.2.1, fun i hi => ?_⟩, ih (by omega) hr.2⟩
    · rw [h2 _ (by omega)]; exact hr.1.1
    · rw [h1 _ (by have := hr.1.2.1; omega)]; exact hr.1.2.2 i hi
theorem r_mo_opEnd {cn c i nm : Nat} {C : Nat → Nat} {RL : List (List Int32)} {SL : List Nat} {s : RS} {w1 w3 : Option Value} (n1 : ev_nl w1 = true) (n3 : ev_nl w3 = true) (H : MI G h0 h m ad sc A Wd) (hR : RI sc0 A0 sc A cn C RL SL s.2.2.2.1 s.1 i) (hW : WT C cn s RL SL) (hcn : cn < 30) (hrl : RL.length < 40) (hc : c < 144) :
    Ev G M_mo_operand 1 0 0 (ev_qi fun v h' => v = 1 ∧ ∃ sc' A' cn' C', MI G h0 h' m ad sc' A' Wd ∧ ∃ x, RI sc0 A0 sc' A' cn' C' ([x] :: RL) SL s.2.2.2.1 s.1 i ∧ BH C' cn' (s.1, 3, nm, mAtom s.2.2.2.1 (xSet s.2.2.2.2 c) (13 + s.1) 0, xAtom (xSet s.2.2.2.2 c) (13 + s.1) 0) s.2.2.2.1 ([x] :: RL) SL ∧ cn' ≤ cn + 1) 154 [some (.ref m), w1, some (.int (nI c)), w3] [] h := by
  obtain ⟨⟨r1, r2, r3, r4, r5, r6, r7⟩, r8, r9, r10, r11, r12, r13, r14⟩ := hR
  have main : ∀ (k cn' : Nat) (C' : Nat → Nat) (sc' : Nat → Int32) (A' : Nat → Nat → Int32) (h' : ev_H), MI G h0 h' m ad sc' A' Wd → RI sc0 A0 sc' A' cn' C' RL SL s.2.2.2.1 s.1 i → WT C' cn' s RL SL → k < cn' → C' k = c → cn' ≤ cn + 1 → Ev G M_mo_operand 1 0 0 (ev_qi fun v h' => v = 1 ∧ ∃ sc' A' cn' C', MI G h0 h' m ad sc' A' Wd ∧ ∃ x, RI sc0 A0 sc' A' cn' C' ([x] :: RL) SL s.2.2.2.1 s.1 i ∧ BH C' cn' (s.1, 3, nm, mAtom s.2.2.2.1 (xSet s.2.2.2.2 c) (13 + s.1) 0, xAtom (xSet s.2.2.2.2 c) (13 + s.1) 0) s.2.2.2.1 ([x] :: RL) SL ∧ cn' ≤ cn + 1) 171 [some (.ref m), w1, some (.int (nI c)), w3] [.int (nI k), .int 1, .int (nI (20 * RL.length)), .ref (ad 19)] h' := by
    intro k cn' C' sc' A' h' H hR' hW' hk ek hcn'
    obtain ⟨⟨q1, q2, q3, q4, q5, q6, q7⟩, q8, q9, q10, q11, q12, q13, q14⟩ := hR'
    have hB := WT_atom (nm := nm) (fun j hj => by have := (q11 j hj).2; omega) q12 (by omega) hW' hk
    rw [ek] at hB
    refine ev_ishl i_mo_operand_171 ?_
    refine ev_is (L := 800) i_mo_operand_172 H rfl rfl (j := 20 * RL.length) rfl (by omega) (by omega) (fun h H => ?_)
    refine ev_aload_0 i_mo_operand_173 ?_
    refine ev_get i_mo_operand_174 fl_mo_57 H.1 rfl ?_
    refine ev_aload_0 i_mo_operand_177 ?_
    refine ev_get i_mo_operand_178 fl_mo_104 H.1 rfl ?_
    refine ev_iconst (v := 1) i_mo_operand_181 (by decide) ?_
    refine ev_is (L := 40) i_mo_operand_182 H rfl rfl (j := RL.length) q1 (by omega) (by omega) (fun h H => ?_)
    refine ev_aload_0 i_mo_operand_183 ?_
    refine ev_dup i_mo_operand_184 rfl ?_
    refine ev_get i_mo_operand_185 fl_mo_104 H.1 rfl ?_
    refine ev_iconst (v := 1) i_mo_operand_188 (by decide) ?_
    refine ev_iadd i_mo_operand_189 ?_
    refine ev_top (y := nI (RL.length + 1)) (by rw [q1]; exact nI_1 _) ?_
    refine ev_p24 i_mo_operand_190 pl_mo_operand_104 H (fun h H => ?_)
    refine ev_iconst (v := 1) i_mo_operand_193 (by decide) ?_
    refine ev_ireturn i_mo_operand_194 rfl rfl ?_
    refine ⟨_, rfl, rfl, _, _, cn', C', H, _, ⟨⟨rfl, by rw [List.length_cons]; omega, ⟨⟨?_, Nat.le_of_ble_eq_true rfl, ?_⟩, ?_⟩, q4, q5, (by refine sgAt_cg ?_ SL q6; rfl), q7⟩, q8, q9, q10, q11, q12, sg0_up q13 (by omega), ag0_up (ag0_up q14 (by omega)) (by omega)⟩, hB, hcn'⟩
    · show upd (A' 20) RL.length 1 RL.length = _
      rw [pk_us]
      rfl
    · intro t ht
      have : t = 0 := by simp at ht; omega
      subst this
      show upd (A' 19) (20 * RL.length) _ (20 * RL.length + 0) = _
      rw [Nat.add_zero, pk_us]
      rfl
    · refine rowsAt_cg2 (A := A') (a := RL.length) (fun j hj => ?_) (fun r hr => ?_) RL (Nat.le_refl _) q3
      · show upd (A' 19) (20 * RL.length) _ j = _
        rw [upd_ne (by omega)]
      · show upd (A' 20) RL.length 1 r = _
        rw [upd_ne (by omega)]
  refine ev_aload_0 i_mo_operand_154 ?_
  refine ev_get i_mo_operand_155 fl_mo_54 H.1 rfl ?_
  refine ev_bipush (v := 20) i_mo_operand_158 (by decide) ?_
  refine ev_aload_0 i_mo_operand_160 ?_
  refine ev_get i_mo_operand_161 fl_mo_104 H.1 rfl ?_
  refine ev_top (y := nI (RL.length)) r1 ?_
  refine ev_imul i_mo_operand_164 ?_
  refine ev_top (y := nI (20 * RL.length)) (by rw [show (20 : Int32) = nI 20 from rfl, pk_mul]) ?_
  refine ev_iconst (v := 1) i_mo_operand_165 (by decide) ?_
  refine ev_aload_0 i_mo_operand_166 ?_
  refine ev_iload_2 i_mo_operand_167 ?_
  refine ev_vi1 i_mo_operand_168 lk_mo_128 cb_mo_pairOf iv_mo_pairOf (r_mo_pairOf H r10 hcn r11 hc) H.1 rfl (by decide) (Nat.le_of_ble_eq_true rfl) rfl rfl (fun v h2 hq => ?_)
  rcases hq with ⟨k, hk, ek, rfl, H⟩ | ⟨hno, rfl, H⟩
  · exact main k cn C _ _ h2 H ⟨⟨r1, r2, r3, r4, r5, r6, r7⟩, r8, r9, r10, r11, r12, r13, r14⟩ hW hk ek (by omega)
  · have eC : ∀ k, k < cn → va_up C cn c k = C k := fun k hk => va_up_ne _ _ (by omega)
    refine main cn (cn + 1) (va_up C cn c) _ _ h2 H ⟨⟨r1, r2, ?_, r4, r5, (by refine sgAt_cg ?_ SL r6; rfl), r7⟩, r8, r9, rfl, ?_, ?_, sg0_up r13 (by omega), ag0_up r14 (by omega)⟩ (WT_ext eC hW) (by omega) (va_up_self _ _ _) (by omega)
    · refine rowsAt_cg2 (A := A) (a := RL.length) ?_ ?_ RL (Nat.le_refl _) r3 <;> intros <;> rfl
    · intro k hk
      show upd (A 18) cn (nI c) k = nI (va_up C cn c k) ∧ va_up C cn c k < 144
      by_cases e : k = cn
      · subst e; rw [pk_us, va_up_self]; exact ⟨rfl, hc⟩
      · rw [upd_ne e, va_up_ne _ _ e]; exact r11 k (by omega)
    · intro a b ha hb e
      by_cases ea : a = cn <;> by_cases eb : b = cn
      · omega
      · subst ea
        rw [va_up_self, va_up_ne _ _ eb] at e
        exact absurd e.symm (hno b (by omega))
      · subst eb
        rw [va_up_self, va_up_ne _ _ ea] at e
        exact absurd e (hno a (by omega))
      · rw [va_up_ne _ _ ea, va_up_ne _ _ eb] at e
        exact r12 a b (by omega) (by omega) e
/-- what operand leaves -/
def opQ (G : ev_G) (h0 : ev_H) (m : Nat) (ad : Nat → Nat) (Wd : Nat → Int64) (sc0 : Nat → Int32) (A0 : Nat → Nat → Int32) (lic : Nat) (tc : Nat → Nat) (len i0 : Nat) (r : Nat ⊕ RS) (v : Int32) (h' : ev_H) : Prop :=
  (v = 0 ∧ ∃ sc' A' i', MI G h0 h' m ad sc' A' Wd ∧ sg0 sc0 sc' ∧ ag0 A0 A' ∧ sc' 34 = nI i' ∧ i' ≤ len ∧ r = .inl i') ∨
  (v = 1 ∧ ∃ sc' A' cn C RL SL fl i' s', MI G h0 h' m ad sc' A' Wd ∧ RI sc0 A0 sc' A' cn C RL SL fl s'.1 i' ∧ BH C cn s' fl RL SL ∧ r = SG lic tc len i' s' ∧ i0 ≤ i' ∧ i' ≤ len ∧ 2 * cn ≤ i' + 1 ∧ 2 * RL.length ≤ i' + 1 ∧ SL.length ≤ i')
theorem sName_1e {s : RS} (h : s.2.1 = 1) : sName s = (s.1, 3, s.2.2.1, mAtom s.2.2.2.1 (xSet s.2.2.2.2 (9 * s.2.2.1)) (13 + s.1) 0, xAtom (xSet s.2.2.2.2 (9 * s.2.2.1)) (13 + s.1) 0) := by unfold sName; rw [if_pos h]
theorem r_mo_operand {lic len : Nat} {tc : Nat → Nat} (hl : sc0 9 = nI len) (hl2 : len ≤ 60) (ht : mtx A0 len tc) (hlic : sc0 2 = nI lic) (hlic2 : lic ≤ 16) {cn i0 : Nat} {C : Nat → Nat} {RL : List (List Int32)} {SL : List Nat} {s : RS} (H : MI G h0 h m ad sc A Wd) (hR : RI sc0 A0 sc A cn C RL SL s.2.2.2.1 s.1 i0) (hW : WT C cn s RL SL) (hi : i0 ≤ len) (b1 : 2 * cn ≤ i0) (b2 : 2 * RL.length ≤ i0) (b3 : SL.length ≤ i0) :
    Rn G M_mo_operand 1 0 0 [.ref m] h (ev_qi fun v h' => opQ G h0 m ad Wd sc0 A0 lic tc len i0 (SG lic tc len i0 s) v h') := by
  generalize hr : SG lic tc len i0 s = r
  refine Rn_of (ls := [some (.ref m), none, none, none]) rfl rfl (Nat.le_of_ble_eq_true rfl) rfl ?_
  have loop : ∀ (q : Nat) (i : Nat) (h : ev_H) (sc : Nat → Int32) (A : Nat → Nat → Int32) (SL : List Nat) (s : RS), i0 ≤ i → i + q = len → SG lic tc len i s = r → MI G h0 h m ad sc A Wd → RI sc0 A0 sc A cn C RL SL s.2.2.2.1 s.1 i → WT C cn s RL SL → 2 * cn ≤ i → 2 * RL.length ≤ i → SL.length ≤ i → Ev G M_mo_operand 1 0 0 (ev_qi fun v h' => opQ G h0 m ad Wd sc0 A0 lic tc len i0 r v h') 0 [some (.ref m), none, none, none] [] h := by
    intro q
    induction q using Nat.strongRecOn with
    | _ q ih =>
    intro i h sc A SL s hii hi hr H hR hW b1 b2 b3
    obtain ⟨⟨r1, r2, r3, r4, r5, r6, r7⟩, r8, r9, r10, r11, r12, r13, r14⟩ := id hR
    have hl' : sc 9 = nI len := (r13 9 (by decide) (by decide) (by decide) (by decide) (by decide) (by decide)).trans hl
    have hlic' : sc 2 = nI lic := (r13 2 (by decide) (by decide) (by decide) (by decide) (by decide) (by decide)).trans hlic
    have ht' : mtx A len tc := by unfold mtx; rw [r14 8 (by decide) (by decide) (by decide) (by decide) (by decide)]; exact ht
    have tb : ∀ j, j < len → tc j ≤ 126 := fun j hj => (ht j hj).2.2
    refine ev_aload_0 i_mo_operand_0 ?_
    refine ev_vi0 i_mo_operand_1 lk_mo_121 cb_mo_next iv_mo_next (r_mo_next H hl' hl2 ht' r9 (show i ≤ len by omega)) H.1 rfl (by decide) (Nat.le_of_ble_eq_true rfl) rfl rfl (fun v h2 hq => ?_)
    obtain ⟨i1, H, rfl, a1, a2, a3, a4⟩ := hq
    have er : SG lic tc len i1 s = r := by rw [← hr]; exact (SG_skip a1 a2 a3).symm
    have hR1 : RI sc0 A0 (va_up sc 34 (nI i1)) A cn C RL SL s.2.2.2.1 s.1 i1 := ⟨⟨r1, r2, r3, r4, r5, r6, r7⟩, r8, rfl, r10, r11, r12, sg0_up r13 (by omega), r14⟩
    have s0 : s.2.1 = 0 := hW.1
    refine ev_bipush (v := 40) i_mo_operand_4 (by decide) ?_
    refine ev_icmp_ne i_mo_operand_6 (fun c_6 => ?_) (fun c_6 => ?_)
    rotate_left
    · -- an open bracket
      have nx40 : nxc tc len i1 = 40 := by
        refine (nI_eq ?_ (by omega)).mp (show nI _ = nI 40 from c_6)
        unfold nxc
        split
        · have := tb i1 (by assumption); omega
        · omega
      have hlt : i1 < len := by
        rcases Nat.lt_or_ge i1 len with z | z
        · exact z
        · unfold nxc at nx40; rw [if_neg (by omega)] at nx40; omega
      have e40 : tc i1 = 40 := by unfold nxc at nx40; rw [if_pos hlt] at nx40; exact nx40
      refine ev_aload_0 i_mo_operand_9 ?_
      refine ev_get i_mo_operand_10 fl_mo_125 H.1 rfl ?_
      refine ev_bipush (v := 10) i_mo_operand_13 (by decide) ?_
      refine ev_icmp_ne i_mo_operand_15 (fun c_15 => ?_) (fun c_15 => ?_)
      rotate_left
      · have e10 : s.1 = 10 := (nI_eq (by have := hW.2.1; omega) (by omega)).mp (by rw [← r8]; exact c_15)
        refine ev_iconst (v := 0) i_mo_operand_18 (by decide) ?_
        refine ev_ireturn i_mo_operand_19 rfl rfl ?_
        refine ⟨_, rfl, Or.inl ⟨rfl, _, _, i1, H, sg0_up r13 (by omega), r14, rfl, a2, ?_⟩⟩
        rw [← er]
        refine SG_n hlt (a4 hlt) ?_
        unfold sTake
        rw [if_pos s0, if_pos e40, if_neg (by omega)]
      have h10 : s.1 < 10 := by
        rcases Nat.lt_or_ge s.1 10 with z | z
        · exact z
        · have := hW.2.1
          exact absurd (show sc 26 = 10 by rw [r8, show s.1 = 10 by omega]; rfl) c_15
      refine ev_aload_0 i_mo_operand_20 ?_
      refine ev_get i_mo_operand_21 fl_mo_63 H.1 rfl ?_
      refine ev_aload_0 i_mo_operand_24 ?_
      refine ev_get i_mo_operand_25 fl_mo_111 H.1 rfl ?_
      refine ev_bipush (v := 40) i_mo_operand_28 (by decide) ?_
      refine ev_is (L := 80) i_mo_operand_30 H rfl rfl (j := SL.length) r4 (by omega) (by omega) (fun h H => ?_)
      refine ev_aload_0 i_mo_operand_31 ?_
      refine ev_dup i_mo_operand_32 rfl ?_
      refine ev_get i_mo_operand_33 fl_mo_111 H.1 rfl ?_
      refine ev_iconst (v := 1) i_mo_operand_36 (by decide) ?_
      refine ev_iadd i_mo_operand_37 ?_
      refine ev_top (y := nI (SL.length + 1)) (show sc 25 + 1 = _ by rw [r4]; exact nI_1 _) ?_
      refine ev_p25 i_mo_operand_38 pl_mo_operand_111 H (fun h H => ?_)
      refine ev_aload_0 i_mo_operand_41 ?_
      refine ev_dup i_mo_operand_42 rfl ?_
      refine ev_get i_mo_operand_43 fl_mo_125 H.1 rfl ?_
      refine ev_iconst (v := 1) i_mo_operand_46 (by decide) ?_
      refine ev_iadd i_mo_operand_47 ?_
      refine ev_top (y := nI (s.1 + 1)) (show sc 26 + 1 = _ by rw [r8]; exact nI_1 _) ?_
      refine ev_p26 i_mo_operand_48 pl_mo_operand_125 H (fun h H => ?_)
      refine ev_aload_0 i_mo_operand_51 ?_
      refine ev_dup i_mo_operand_52 rfl ?_
      refine ev_get i_mo_operand_53 fl_mo_118 H.1 rfl ?_
      refine ev_iconst (v := 1) i_mo_operand_56 (by decide) ?_
      refine ev_iadd i_mo_operand_57 ?_
      refine ev_top (y := nI (i1 + 1)) (show nI i1 + 1 = _ from nI_1 _) ?_
      refine ev_p34 i_mo_operand_58 pl_mo_operand_118 H (fun h H => ?_)
      refine ev_goto i_mo_operand_61 ?_
      refine ih (len - (i1 + 1)) (by omega) (i1 + 1) _ _ _ (40 :: SL) (s.1 + 1, 0, s.2.2.1, s.2.2.2.1, va_up (va_up s.2.2.2.2 (2 + (s.1 + 1)) []) (13 + (s.1 + 1)) []) (by omega) (by omega) ?_ H ⟨⟨r1, r2, ?_, rfl, by rw [List.length_cons]; omega, ⟨pk_us, ?_⟩, r7⟩, rfl, rfl, r10, r11, r12, sg0_up (sg0_up (sg0_up (sg0_up r13 (by omega)) (by omega)) (by omega)) (by omega), ag0_up r14 (by omega)⟩ (WT_open hW h10) (by omega) (by omega) (by rw [List.length_cons]; omega)
      · rw [← er]
        refine (SG_t hlt (a4 hlt) ?_).symm
        unfold sTake
        rw [if_pos s0, if_pos e40, if_pos h10]
      · refine rowsAt_cg2 (A := A) (a := RL.length) ?_ ?_ RL (Nat.le_refl _) r3 <;> intros <;> rfl
      · have : ∀ S : List Nat, S.length ≤ SL.length → sgAt A S → sgAt (va_up A 22 (upd (A 22) SL.length 40)) S := by
          intro S
          induction S with
          | nil => intros; trivial
          | cons c S ihS =>
            intro hS hA
            rw [List.length_cons] at hS
            refine ⟨?_, ihS (by omega) hA.2⟩
            show upd (A 22) SL.length 40 S.length = _
            rw [upd_ne (by omega)]
            exact hA.1
        exact this SL (Nat.le_refl _) r6
    -- no bracket
    have n40 : i1 < len → ¬ tc i1 = 40 := fun hlt e => c_6 (by unfold nxc; rw [if_pos hlt, e]; rfl)
    refine ev_aload_0 i_mo_operand_64 ?_
    refine ev_vi0 i_mo_operand_65 lk_mo_121 cb_mo_next iv_mo_next (r_mo_next H hl' hl2 ht' rfl a2) H.1 rfl (by decide) (Nat.le_of_ble_eq_true rfl) rfl rfl (fun v h3 hq => ?_)
    obtain ⟨i2, H, rfl, d1, d2, d3, d4⟩ := hq
    have e21 : i2 = i1 := by
      rcases Nat.lt_or_ge i1 i2 with z | z
      · exact absurd (d3 i1 (Nat.le_refl _) z) (a4 (by omega))
      · omega
    subst e21
    rw [show va_up (va_up sc 34 (nI i2)) 34 (nI i2) = va_up sc 34 (nI i2) from hu_uu] at H
    generalize hcc : nxc tc len i2 = cc
    have ccb : cc ≤ 126 := by
      rw [← hcc]
      unfold nxc
      split
      · exact tb i2 (by assumption)
      · omega
    refine ev_bipush (v := 97) i_mo_operand_68 (by decide) ?_
    refine ev_isub i_mo_operand_70 ?_
    refine ev_istore_1 i_mo_operand_71 rfl ?_
    have hix : (97 ≤ cc ∧ cc - 97 < lic ∧ nI cc - 97 = nI (cc - 97) ∧ ixv (nI cc - 97) lic = some (cc - 97)) ∨ (¬ (97 ≤ cc ∧ cc - 97 < lic) ∧ ixv (nI cc - 97) lic = none) := by
      rcases Nat.lt_or_ge cc 97 with z | z
      · refine Or.inr ⟨by omega, ?_⟩
        rcases ix_cases (nI cc - 97) (show lic < 2 ^ 31 by omega) with ⟨j, hj, e, -⟩ | ⟨-, e⟩
        · have := pk_sneg (a := cc) (b := 97) (by omega) z
          rw [show nI cc - nI 97 = nI j from e] at this
          exact absurd this (nI_pos (by omega))
        · exact e
      · have es : nI cc - 97 = nI (cc - 97) := pk_sub (a := cc) (b := 97) z
        rcases ix_cases (nI cc - 97) (show lic < 2 ^ 31 by omega) with ⟨j, hj, e, e2⟩ | ⟨z2, e⟩
        · rw [es, nI_eq (by omega) (by omega)] at e
          exact Or.inl ⟨z, by omega, es, by rw [e]; exact e2⟩
        · refine Or.inr ⟨fun q => ?_, e⟩
          rw [es] at z2
          rcases z2 with z2 | z2
          · exact absurd z2 (nI_pos (by omega))
          · exact absurd z2 (nI_ge q.2 (by omega))
    refine ev_aload_0 i_mo_operand_72 ?_
    refine ev_iload_1 i_mo_operand_73 ?_
    refine ev_vi1 i_mo_operand_74 lk_mo_91 cb_mo_isLicence iv_mo_isLicence (r_mo_isLicence (y := nI cc - 97) (n := lic) H hlic' (by omega)) H.1 rfl (by decide) (Nat.le_of_ble_eq_true rfl) rfl rfl (fun v h4 hq => ?_)
    obtain ⟨rfl, rfl⟩ := hq
    rcases hix with ⟨g1, g2, g3, g4⟩ | ⟨g1, g2⟩
    rotate_left
    · rw [isw_0 g2]
      refine ev_if_ne i_mo_operand_77 (fun c_77 => ?_) (fun c_77 => ?_)
      · exact absurd rfl c_77
      refine ev_iconst (v := 0) i_mo_operand_80 (by decide) ?_
      refine ev_ireturn i_mo_operand_81 rfl rfl ?_
      refine ⟨_, rfl, Or.inl ⟨rfl, _, _, i2, H, sg0_up r13 (by omega), r14, rfl, a2, ?_⟩⟩
      rw [← er]
      refine SG_bad a2 (fun hlt => ⟨a4 hlt, ?_⟩) (fun z => ?_)
      · unfold sTake
        rw [if_pos s0, if_neg (n40 hlt), if_neg]
        have : tc i2 = cc := by rw [← hcc]; unfold nxc; rw [if_pos hlt]
        rw [this]
        exact g1
      · rw [sName_n (by rw [s0]; decide), s0] at z
        exact absurd z.1 (by decide)
    rw [isw_1 g4, g3]
    refine ev_if_ne i_mo_operand_77 (fun c_77 => ?_) (fun c_77 => ?_)
    rotate_left
    · exact absurd c_77 (by decide)
    have hlt : i2 < len := by
      rcases Nat.lt_or_ge i2 len with z | z
      · exact z
      · unfold nxc at hcc; rw [if_neg (by omega)] at hcc; omega
    have ecc : tc i2 = cc := by rw [← hcc]; unfold nxc; rw [if_pos hlt]
    generalize hnm : cc - 97 = nm at *
    have er1 : SG lic tc len (i2 + 1) (s.1, 1, nm, s.2.2.2.1, s.2.2.2.2) = r := by
      rw [← er]
      refine (SG_t hlt (a4 hlt) ?_).symm
      unfold sTake
      rw [if_pos s0, if_neg (n40 hlt), ecc, if_pos ⟨g1, by omega⟩, hnm]
    refine ev_aload_0 i_mo_operand_82 ?_
    refine ev_dup i_mo_operand_83 rfl ?_
    refine ev_get i_mo_operand_84 fl_mo_118 H.1 rfl ?_
    refine ev_iconst (v := 1) i_mo_operand_87 (by decide) ?_
    refine ev_iadd i_mo_operand_88 ?_
    refine ev_top (y := nI (i2 + 1)) (show nI i2 + 1 = _ from nI_1 _) ?_
    refine ev_p34 i_mo_operand_89 pl_mo_operand_118 H (fun h H => ?_)
    refine ev_bipush (v := 9) i_mo_operand_92 (by decide) ?_
    refine ev_iload_1 i_mo_operand_94 ?_
    refine ev_imul i_mo_operand_95 ?_
    refine ev_top (y := nI (9 * nm)) (show nI 9 * nI nm = _ from pk_mul _ _) ?_
    rw [show va_up (va_up sc 34 (nI i2)) 34 (nI (i2 + 1)) = va_up sc 34 (nI (i2 + 1)) from hu_uu] at H
    refine ev_istore_2 i_mo_operand_96 rfl ?_
    refine ev_aload_0 i_mo_operand_97 ?_
    refine ev_vi0 i_mo_operand_98 lk_mo_121 cb_mo_next iv_mo_next (r_mo_next H hl' hl2 ht' rfl (show i2 + 1 ≤ len by omega)) H.1 rfl (by decide) (Nat.le_of_ble_eq_true rfl) rfl rfl (fun v h5 hq => ?_)
    obtain ⟨i3, H, rfl, f1, f2, f3, f4⟩ := hq
    rw [show va_up (va_up sc 34 (nI (i2 + 1))) 34 (nI i3) = va_up sc 34 (nI i3) from hu_uu] at H
    have er2 : SG lic tc len i3 (s.1, 1, nm, s.2.2.2.1, s.2.2.2.2) = r := by rw [← er1]; exact (SG_skip f1 f2 f3).symm
    have last : ∀ (i' c : Nat) (h : ev_H) (w3 : Option Value), ev_nl w3 = true → MI G h0 h m ad (va_up sc 34 (nI i')) A Wd → i < i' → i' ≤ len → c < 144 → SG lic tc len i' (s.1, 3, nm, mAtom s.2.2.2.1 (xSet s.2.2.2.2 c) (13 + s.1) 0, xAtom (xSet s.2.2.2.2 c) (13 + s.1) 0) = r → Ev G M_mo_operand 1 0 0 (ev_qi fun v h' => opQ G h0 m ad Wd sc0 A0 lic tc len i0 r v h') 154 [some (.ref m), some (.int (nI nm)), some (.int (nI c)), w3] [] h := by
      intro i' c h w3 n3 H hi1 hi2 hc144 hr2
      refine ev_mono ?_ (r_mo_opEnd (nm := nm) (i := i') rfl n3 H ⟨⟨r1, r2, r3, r4, r5, r6, r7⟩, r8, rfl, r10, r11, r12, sg0_up r13 (by omega), r14⟩ hW (by omega) (by omega) hc144)
      rintro v' h' ⟨v, rfl, rfl, sc', A', cn', C', H', x, q1, q2, q3⟩
      exact ⟨_, rfl, Or.inr ⟨rfl, sc', A', cn', C', [x] :: RL, SL, s.2.2.2.1, i', (s.1, 3, nm, mAtom s.2.2.2.1 (xSet s.2.2.2.2 c) (13 + s.1) 0, xAtom (xSet s.2.2.2.2 c) (13 + s.1) 0), H', q1, q2, hr2.symm, by omega, hi2, by omega, by rw [List.length_cons]; omega, by omega⟩⟩
    generalize hc3 : nxc tc len i3 = cc3
    have cc3b : cc3 ≤ 126 := by
      rw [← hc3]
      unfold nxc
      split
      · exact tb i3 (by assumption)
      · omega
    refine ev_bipush (v := 94) i_mo_operand_101 (by decide) ?_
    refine ev_icmp_ne i_mo_operand_103 (fun c_103 => ?_) (fun c_103 => ?_)
    · refine last i3 (9 * nm) _ none rfl H (by omega) f2 (by omega) ?_
      have en := SG_nm (lic := lic) (tc := tc) (s := (s.1, 1, nm, s.2.2.2.1, s.2.2.2.2)) f2 (fun z => ⟨f4 z, fun e => c_103 (by rw [← hc3]; unfold nxc; rw [if_pos z, e]; rfl)⟩) rfl
      rw [er2, sName_1e rfl] at en
      exact en.symm
    have e94 : cc3 = 94 := (nI_eq (by omega) (by omega)).mp (show nI _ = nI 94 from c_103)
    have hlt3 : i3 < len := by
      rcases Nat.lt_or_ge i3 len with z | z
      · exact z
      · unfold nxc at hc3; rw [if_neg (by omega)] at hc3; omega
    have et3 : tc i3 = 94 := by unfold nxc at hc3; rw [if_pos hlt3] at hc3; omega
    have er3 : SG lic tc len (i3 + 1) (s.1, 2, nm, s.2.2.2.1, s.2.2.2.2) = r := by
      rw [← er2]
      refine (SG_t hlt3 (f4 hlt3) ?_).symm
      unfold sTake
      rw [if_neg (show ¬ (1 : Int32) = 0 by decide), if_neg (show ¬ (1 : Int32) = 2 by decide), if_pos ⟨rfl, et3⟩]
    refine ev_aload_0 i_mo_operand_106 ?_
    refine ev_dup i_mo_operand_107 rfl ?_
    refine ev_get i_mo_operand_108 fl_mo_118 H.1 rfl ?_
    refine ev_iconst (v := 1) i_mo_operand_111 (by decide) ?_
    refine ev_iadd i_mo_operand_112 ?_
    refine ev_top (y := nI (i3 + 1)) (show nI i3 + 1 = _ from nI_1 _) ?_
    refine ev_p34 i_mo_operand_113 pl_mo_operand_118 H (fun h H => ?_)
    refine ev_aload_0 i_mo_operand_116 ?_
    rw [show va_up (va_up sc 34 (nI i3)) 34 (nI (i3 + 1)) = va_up sc 34 (nI (i3 + 1)) from hu_uu] at H
    refine ev_vi0 i_mo_operand_117 lk_mo_121 cb_mo_next iv_mo_next (r_mo_next H hl' hl2 ht' rfl (show i3 + 1 ≤ len by omega)) H.1 rfl (by decide) (Nat.le_of_ble_eq_true rfl) rfl rfl (fun v h6 hq => ?_)
    obtain ⟨i4, H, rfl, k1, k2, k3, k4⟩ := hq
    rw [show va_up (va_up sc 34 (nI (i3 + 1))) 34 (nI i4) = va_up sc 34 (nI i4) from hu_uu] at H
    have er4 : SG lic tc len i4 (s.1, 2, nm, s.2.2.2.1, s.2.2.2.2) = r := by rw [← er3]; exact (SG_skip k1 k2 k3).symm
    generalize hc4 : nxc tc len i4 = cc4
    have cc4b : cc4 ≤ 126 := by
      rw [← hc4]
      unfold nxc
      split
      · exact tb i4 (by assumption)
      · omega
    have e4 : i4 < len → tc i4 = cc4 := fun z => by rw [← hc4]; unfold nxc; rw [if_pos z]
    have bad : ¬ (48 ≤ cc4 ∧ cc4 - 48 < 8) → r = .inl i4 := by
      intro z
      rw [← er4]
      refine SG_bad k2 (fun hlt => ⟨k4 hlt, ?_⟩) (fun z2 => ?_)
      · unfold sTake
        rw [if_neg (show ¬ (2 : Int32) = 0 by decide), if_pos rfl, e4 hlt, if_neg z]
      · rw [sName_n (show ¬ (2 : Int32) = 1 by decide)] at z2
        exact absurd z2.1 (show ¬ (2 : Int32) = 3 by decide)
    refine ev_istore_3 i_mo_operand_120 rfl ?_
    refine ev_iload_3 i_mo_operand_121 ?_
    refine ev_bipush (v := 48) i_mo_operand_122 (by decide) ?_
    refine ev_icmp_lt i_mo_operand_124 (fun c_124 => ?_) (fun c_124 => ?_)
    · have : cc4 < 48 := (nI_ltI (by omega) (by omega)).mp (show nI cc4 < nI 48 from c_124)
      refine ev_iconst (v := 0) i_mo_operand_133 (by decide) ?_
      refine ev_ireturn i_mo_operand_134 rfl rfl ?_
      exact ⟨_, rfl, Or.inl ⟨rfl, _, _, i4, H, sg0_up r13 (by omega), r14, rfl, k2, bad (by omega)⟩⟩
    have h48 : 48 ≤ cc4 := by
      rcases Nat.lt_or_ge cc4 48 with z | z
      · exact absurd (show nI cc4 < nI 48 from nI_lt z (by omega)) c_124
      · exact z
    refine ev_iload_3 i_mo_operand_127 ?_
    refine ev_bipush (v := 55) i_mo_operand_128 (by decide) ?_
    refine ev_icmp_le i_mo_operand_130 (fun c_130 => ?_) (fun c_130 => ?_)
    rotate_left
    · have : ¬ cc4 ≤ 55 := fun z => c_130 (show nI cc4 ≤ nI 55 from nI_le z (by omega))
      refine ev_iconst (v := 0) i_mo_operand_133 (by decide) ?_
      refine ev_ireturn i_mo_operand_134 rfl rfl ?_
      exact ⟨_, rfl, Or.inl ⟨rfl, _, _, i4, H, sg0_up r13 (by omega), r14, rfl, k2, bad (by omega)⟩⟩
    have h55 : cc4 ≤ 55 := (nI_leI (by omega) (by omega)).mp (show nI cc4 ≤ nI 55 from c_130)
    have hlt4 : i4 < len := by
      rcases Nat.lt_or_ge i4 len with z | z
      · exact z
      · unfold nxc at hc4; rw [if_neg (by omega)] at hc4; omega
    refine ev_iload_2 i_mo_operand_135 ?_
    refine ev_iload_3 i_mo_operand_136 ?_
    refine ev_bipush (v := 48) i_mo_operand_137 (by decide) ?_
    refine ev_isub i_mo_operand_139 ?_
    refine ev_iconst (v := 1) i_mo_operand_140 (by decide) ?_
    refine ev_iadd i_mo_operand_141 ?_
    refine ev_iadd i_mo_operand_142 ?_
    refine ev_top (y := nI (9 * nm + (cc4 - 48) + 1)) (by rw [show nI cc4 - 48 = nI (cc4 - 48) from pk_sub (a := cc4) (b := 48) h48, nI_1, nI_add]; rfl) ?_
    refine ev_istore_2 i_mo_operand_143 rfl ?_
    refine ev_aload_0 i_mo_operand_144 ?_
    refine ev_dup i_mo_operand_145 rfl ?_
    refine ev_get i_mo_operand_146 fl_mo_118 H.1 rfl ?_
    refine ev_iconst (v := 1) i_mo_operand_149 (by decide) ?_
    refine ev_iadd i_mo_operand_150 ?_
    refine ev_top (y := nI (i4 + 1)) (show nI i4 + 1 = _ from nI_1 _) ?_
    refine ev_p34 i_mo_operand_151 pl_mo_operand_118 H (fun h H => ?_)
    rw [show va_up (va_up sc 34 (nI i4)) 34 (nI (i4 + 1)) = va_up sc 34 (nI (i4 + 1)) from hu_uu] at H
    refine last (i4 + 1) (9 * nm + (cc4 - 48) + 1) _ _ rfl H (by omega) (by omega) (by omega) ?_
    rw [← er4]
    refine (SG_t hlt4 (k4 hlt4) ?_).symm
    unfold sTake
    rw [if_neg (show ¬ (2 : Int32) = 0 by decide), if_pos rfl, e4 hlt4, if_pos ⟨h48, by omega⟩]
  exact loop (len - i0) i0 h sc A SL s (Nat.le_refl _) (by omega) hr H hR hW b1 b2 b3
end MR5
