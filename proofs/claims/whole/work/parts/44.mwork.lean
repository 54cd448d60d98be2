section MR4
variable {G : ev_G} {h h0 : ev_H} {m : Nat} {ad : Nat → Nat} {sc : Nat → Int32} {A : Nat → Nat → Int32} {Wd : Nat → Int64}
/-- the stacks, their tops first -/
def rowsAt (A : Nat → Nat → Int32) : List (List Int32) → Prop
  | [] => True
  | R :: RL => rowAt A RL.length R ∧ rowsAt A RL
def sgAt (A : Nat → Nat → Int32) : List Nat → Prop
  | [] => True
  | c :: SL => A 22 SL.length = nI c ∧ sgAt A SL
def RDM (sc : Nat → Int32) (A : Nat → Nat → Int32) (RL : List (List Int32)) (SL : List Nat) (fl : Int32) : Prop := sc 24 = nI RL.length ∧ RL.length ≤ 40 ∧ rowsAt A RL ∧ sc 25 = nI SL.length ∧ SL.length ≤ 80 ∧ sgAt A SL ∧ sc 27 = fl
def sfr (sc sc' : Nat → Int32) : Prop := ∀ k, k ≠ 24 → k ≠ 25 → k ≠ 27 → sc' k = sc k
def afr (A A' : Nat → Nat → Int32) : Prop := ∀ k, k ≠ 19 → k ≠ 20 → k ≠ 21 → A' k = A k
theorem sfr_tr {s1 s2 s3 : Nat → Int32} (p : sfr s1 s2) (q : sfr s2 s3) : sfr s1 s3 := fun k a b c => (q k a b c).trans (p k a b c)
theorem afr_tr {s1 s2 s3 : Nat → Nat → Int32} (p : afr s1 s2) (q : afr s2 s3) : afr s1 s3 := fun k a b c => (q k a b c).trans (p k a b c)
theorem rowsAt_jfr {A A' : Nat → Nat → Int32} {a : Nat} (hj : jfr A A' a) : ∀ RL : List (List Int32), RL.length ≤ a → rowsAt A RL → rowsAt A' RL := by
  intro RL
  induction RL with
  | nil => intros; trivial
  | cons R RL ih =>
    intro hl hr
    rw [List.length_cons] at hl
    refine ⟨⟨?_, hr.1.2.1, fun i hi => ?_⟩, ih (by omega) hr.2⟩
    · rw [hj.2.2 _ (by omega)]; exact hr.1.1
    · rw [hj.2.1 _ (by have := hr.1.2.1; omega)]; exact hr.1.2.2 i hi
theorem sgAt_cg {A A' : Nat → Nat → Int32} (e : A' 22 = A 22) : ∀ SL : List Nat, sgAt A SL → sgAt A' SL := by
  intro SL
  induction SL with
  | nil => intros; trivial
  | cons c SL ih => exact fun hr => ⟨by rw [e]; exact hr.1, ih hr.2⟩
theorem wo_step {all : Int32} {Q : Option Value → ev_H → Prop} {X Y : List Int32} {RL : List (List Int32)} {c : Nat} {SL : List Nat} {fl : Int32} (H : MI G h0 h m ad sc A Wd) (hR : RDM sc A (Y :: X :: RL) (c :: SL) fl) (hc : c = 124 ∨ c = 38)
    (k : ∀ h' sc' A', MI G h0 h' m ad sc' A' Wd → RDM sc' A' (cutM (jW (nI c) X Y) :: RL) SL (ovM (jW (nI c) X Y) fl) → sfr sc sc' → afr A A' → Ev G M_mo_workOff 1 0 0 Q 0 [some (.ref m), some (.int all)] [] h') :
    Ev G M_mo_workOff 1 0 0 Q 43 [some (.ref m), some (.int all)] [] h := by
  obtain ⟨g1, g2, ⟨g3, g4, g5⟩, g6, g7, ⟨g8, g9⟩, g10⟩ := hR
  simp only [List.length_cons] at g1 g2 g6 g7 g3 g8
  refine ev_aload_0 i_mo_workOff_43 ?_
  refine ev_dup i_mo_workOff_44 rfl ?_
  refine ev_get i_mo_workOff_45 fl_mo_111 H.1 rfl ?_
  refine ev_iconst (v := 1) i_mo_workOff_48 (by decide) ?_
  refine ev_isub i_mo_workOff_49 ?_
  refine ev_top (y := nI SL.length) (by rw [g6]; exact nI_pred _) ?_
  refine ev_p25 i_mo_workOff_50 pl_mo_workOff_111 H (fun h H => ?_)
  refine ev_aload_0 i_mo_workOff_53 ?_
  refine ev_aload_0 i_mo_workOff_54 ?_
  refine ev_get i_mo_workOff_55 fl_mo_63 H.1 rfl ?_
  refine ev_aload_0 i_mo_workOff_58 ?_
  refine ev_get i_mo_workOff_59 fl_mo_111 H.1 rfl ?_
  refine ev_ia (L := 80) i_mo_workOff_62 H rfl rfl (j := SL.length) rfl (by omega) (by omega) ?_
  refine ev_top (y := nI c) g8 ?_
  have hc' : nI c = 124 ∨ nI c = 38 := by rcases hc with rfl | rfl <;> decide
  refine ev_vv1 i_mo_workOff_63 lk_mo_114 cb_mo_join iv_mo_join (r_mo_join (a := RL.length) H g1 (by omega) g4 g3 hc') H.1 rfl (by decide) (Nat.le_of_ble_eq_true rfl) rfl rfl (fun h2 hq => ?_)
  obtain ⟨A', H, k1, k2⟩ := hq
  refine ev_goto i_mo_workOff_66 ?_
  refine k _ _ _ H ⟨rfl, by rw [List.length_cons]; omega, ⟨k1, rowsAt_jfr k2 RL (Nat.le_refl _) g5⟩, rfl, by omega, sgAt_cg (k2.1 22 (by decide) (by decide) (by decide)) SL g9, ?_⟩ ?_ k2.1
  · show ovM (jW (nI c) X Y) (sc 27) = _
    rw [g10]
  · intro j a b c
    rw [va_up_ne _ _ c, va_up_ne _ _ a, va_up_ne _ _ b]
theorem wo_go {all : Int32} {Q : Option Value → ev_H → Prop} {RL : List (List Int32)} {c : Nat} {SL : List Nat} {fl : Int32} (H : MI G h0 h m ad sc A Wd) (hR : RDM sc A RL (c :: SL) fl) (hc : c = 124 ∨ c = 38) (ha : ¬ all = 0 ∨ c = 38)
    (k : Ev G M_mo_workOff 1 0 0 Q 43 [some (.ref m), some (.int all)] [] h) :
    Ev G M_mo_workOff 1 0 0 Q 0 [some (.ref m), some (.int all)] [] h := by
  obtain ⟨g1, g2, -, g6, g7, ⟨g8, g9⟩, g10⟩ := hR
  simp only [List.length_cons] at g6 g7 g8
  refine ev_aload_0 i_mo_workOff_0 ?_
  refine ev_get i_mo_workOff_1 fl_mo_111 H.1 rfl ?_
  refine ev_if_le i_mo_workOff_4 (fun c_4 => ?_) (fun c_4 => ?_)
  · rw [g6] at c_4
    exact absurd c_4 (nI_nle (by omega) (by omega))
  refine ev_aload_0 i_mo_workOff_7 ?_
  refine ev_get i_mo_workOff_8 fl_mo_63 H.1 rfl ?_
  refine ev_aload_0 i_mo_workOff_11 ?_
  refine ev_get i_mo_workOff_12 fl_mo_111 H.1 rfl ?_
  refine ev_iconst (v := 1) i_mo_workOff_15 (by decide) ?_
  refine ev_isub i_mo_workOff_16 ?_
  refine ev_ia (L := 80) i_mo_workOff_17 H rfl rfl (j := SL.length) (by rw [g6]; exact nI_pred _) (by omega) (by omega) ?_
  refine ev_top (y := nI c) g8 ?_
  refine ev_bipush (v := 40) i_mo_workOff_18 (by decide) ?_
  refine ev_icmp_eq i_mo_workOff_20 (fun c_20 => ?_) (fun c_20 => ?_)
  · have := (nI_eq (by omega) (by omega)).mp (show nI c = nI 40 from c_20)
    omega
  refine ev_iload_1 i_mo_workOff_23 ?_
  refine ev_if_ne i_mo_workOff_24 (fun c_24 => ?_) (fun c_24 => ?_)
  · exact k
  have e38 : c = 38 := ha.resolve_left (fun z => z c_24)
  subst e38
  refine ev_aload_0 i_mo_workOff_27 ?_
  refine ev_get i_mo_workOff_28 fl_mo_63 H.1 rfl ?_
  refine ev_aload_0 i_mo_workOff_31 ?_
  refine ev_get i_mo_workOff_32 fl_mo_111 H.1 rfl ?_
  refine ev_iconst (v := 1) i_mo_workOff_35 (by decide) ?_
  refine ev_isub i_mo_workOff_36 ?_
  refine ev_ia (L := 80) i_mo_workOff_37 H rfl rfl (j := SL.length) (by rw [g6]; exact nI_pred _) (by omega) (by omega) ?_
  refine ev_top (y := nI 38) g8 ?_
  refine ev_bipush (v := 38) i_mo_workOff_38 (by decide) ?_
  refine ev_icmp_ne i_mo_workOff_40 (fun c_40 => ?_) (fun c_40 => ?_)
  · exact absurd rfl c_40
  · exact k
/-- where it stops -/
def stops (all : Int32) (SL : List Nat) : Prop := SL = [] ∨ (∃ t, SL = 40 :: t) ∨ (all = 0 ∧ ∃ t, SL = 124 :: t)
theorem wo_stop {all : Int32} {Q : Option Value → ev_H → Prop} {RL : List (List Int32)} {SL : List Nat} {fl : Int32} (H : MI G h0 h m ad sc A Wd) (hR : RDM sc A RL SL fl) (hs : stops all SL)
    (k : Q none h) :
    Ev G M_mo_workOff 1 0 0 Q 0 [some (.ref m), some (.int all)] [] h := by
  obtain ⟨g1, g2, -, g6, g7, g8, g10⟩ := hR
  rcases hs with rfl | ⟨t, rfl⟩ | ⟨rfl, t, rfl⟩
  · refine ev_aload_0 i_mo_workOff_0 ?_
    refine ev_get i_mo_workOff_1 fl_mo_111 H.1 rfl ?_
    refine ev_if_le i_mo_workOff_4 (fun c_4 => ?_) (fun c_4 => ?_)
    · refine ev_return i_mo_workOff_69 rfl ?_
      exact k
    · rw [g6] at c_4; exact absurd (by decide) c_4
  · obtain ⟨g8, g9⟩ := g8
    simp only [List.length_cons] at g6 g7 g8
    refine ev_aload_0 i_mo_workOff_0 ?_
    refine ev_get i_mo_workOff_1 fl_mo_111 H.1 rfl ?_
    refine ev_if_le i_mo_workOff_4 (fun c_4 => ?_) (fun c_4 => ?_)
    · refine ev_return i_mo_workOff_69 rfl ?_
      exact k
    refine ev_aload_0 i_mo_workOff_7 ?_
    refine ev_get i_mo_workOff_8 fl_mo_63 H.1 rfl ?_
    refine ev_aload_0 i_mo_workOff_11 ?_
    refine ev_get i_mo_workOff_12 fl_mo_111 H.1 rfl ?_
    refine ev_iconst (v := 1) i_mo_workOff_15 (by decide) ?_
    refine ev_isub i_mo_workOff_16 ?_
    refine ev_ia (L := 80) i_mo_workOff_17 H rfl rfl (j := t.length) (by rw [g6]; exact nI_pred _) (by omega) (by omega) ?_
    refine ev_top (y := nI 40) g8 ?_
    refine ev_bipush (v := 40) i_mo_workOff_18 (by decide) ?_
    refine ev_icmp_eq i_mo_workOff_20 (fun c_20 => ?_) (fun c_20 => ?_)
    · refine ev_return i_mo_workOff_69 rfl ?_
      exact k
    · exact absurd rfl c_20
  · obtain ⟨g8, g9⟩ := g8
    simp only [List.length_cons] at g6 g7 g8
    refine ev_aload_0 i_mo_workOff_0 ?_
    refine ev_get i_mo_workOff_1 fl_mo_111 H.1 rfl ?_
    refine ev_if_le i_mo_workOff_4 (fun c_4 => ?_) (fun c_4 => ?_)
    · refine ev_return i_mo_workOff_69 rfl ?_
      exact k
    refine ev_aload_0 i_mo_workOff_7 ?_
    refine ev_get i_mo_workOff_8 fl_mo_63 H.1 rfl ?_
    refine ev_aload_0 i_mo_workOff_11 ?_
    refine ev_get i_mo_workOff_12 fl_mo_111 H.1 rfl ?_
    refine ev_iconst (v := 1) i_mo_workOff_15 (by decide) ?_
    refine ev_isub i_mo_workOff_16 ?_
    refine ev_ia (L := 80) i_mo_workOff_17 H rfl rfl (j := t.length) (by rw [g6]; exact nI_pred _) (by omega) (by omega) ?_
    refine ev_top (y := nI 124) g8 ?_
    refine ev_bipush (v := 40) i_mo_workOff_18 (by decide) ?_
    refine ev_icmp_eq i_mo_workOff_20 (fun c_20 => ?_) (fun c_20 => ?_)
    · exact absurd c_20 (by decide)
    refine ev_iload_1 i_mo_workOff_23 ?_
    refine ev_if_ne i_mo_workOff_24 (fun c_24 => ?_) (fun c_24 => ?_)
    · exact absurd rfl c_24
    refine ev_aload_0 i_mo_workOff_27 ?_
    refine ev_get i_mo_workOff_28 fl_mo_63 H.1 rfl ?_
    refine ev_aload_0 i_mo_workOff_31 ?_
    refine ev_get i_mo_workOff_32 fl_mo_111 H.1 rfl ?_
    refine ev_iconst (v := 1) i_mo_workOff_35 (by decide) ?_
    refine ev_isub i_mo_workOff_36 ?_
    refine ev_ia (L := 80) i_mo_workOff_37 H rfl rfl (j := t.length) (by rw [g6]; exact nI_pred _) (by omega) (by omega) ?_
    refine ev_top (y := nI 124) g8 ?_
    refine ev_bipush (v := 38) i_mo_workOff_38 (by decide) ?_
    refine ev_icmp_ne i_mo_workOff_40 (fun c_40 => ?_) (fun c_40 => ?_)
    · refine ev_return i_mo_workOff_69 rfl ?_
      exact k
    · exact absurd c_40 (by decide)
def opL (L : List Int32) : List (List Int32) := if L = [] then [] else [L]
def sgL (L : List Int32) (c : Nat) : List Nat := if L = [] then [] else [c]
def jA (P R : List Int32) : List Int32 := if P = [] then R else cutM (andL P R)
def fA (P R : List Int32) (f : Int32) : Int32 := if P = [] then f else ovM (andL P R) f
def jE (E R : List Int32) : List Int32 := if E = [] then R else cutM (E ++ R)
def fE (E R : List Int32) (f : Int32) : Int32 := if E = [] then f else ovM (E ++ R) f
theorem r_mo_workOff0 {R P E : List Int32} {RL0 : List (List Int32)} {SL0 : List Nat} {fl : Int32} (H : MI G h0 h m ad sc A Wd) (hR : RDM sc A (R :: (opL P ++ (opL E ++ RL0))) (sgL P 38 ++ (sgL E 124 ++ SL0)) fl) (h0s : SL0 = [] ∨ ∃ t, SL0 = 40 :: t) :
    Rn G M_mo_workOff 1 0 0 [.ref m, .int 0] h (ev_qv fun h' => ∃ sc' A', MI G h0 h' m ad sc' A' Wd ∧ RDM sc' A' (jA P R :: (opL E ++ RL0)) (sgL E 124 ++ SL0) (fA P R fl) ∧ sfr sc sc' ∧ afr A A') := by
  refine Rn_of (ls := [some (.ref m), some (.int 0)]) rfl rfl (Nat.le_of_ble_eq_true rfl) rfl ?_
  have hst : stops 0 (sgL E 124 ++ SL0) := by
    unfold sgL
    split
    · rcases h0s with e | ⟨t, e⟩
      · exact Or.inl e
      · exact Or.inr (Or.inl ⟨t, e⟩)
    · exact Or.inr (Or.inr ⟨rfl, SL0, rfl⟩)
  by_cases hP : P = []
  · subst hP
    exact wo_stop H hR hst ⟨rfl, sc, A, H, hR, fun _ _ _ _ => rfl, fun _ _ _ _ => rfl⟩
  · have e1 : opL P = [P] := if_neg hP
    have e2 : sgL P 38 = [38] := if_neg hP
    rw [e1, e2] at hR
    refine wo_go H hR (Or.inr rfl) (Or.inr rfl) (wo_step H hR (Or.inr rfl) ?_)
    intro h' sc' A' H' hR' s1 a1
    refine wo_stop H' hR' hst ⟨rfl, sc', A', H', ?_, s1, a1⟩
    rw [show jA P R = cutM (andL P R) from if_neg hP, show fA P R fl = ovM (andL P R) fl from if_neg hP]
    exact hR'
theorem r_mo_workOff1 {R P E : List Int32} {RL0 : List (List Int32)} {SL0 : List Nat} {fl : Int32} (H : MI G h0 h m ad sc A Wd) (hR : RDM sc A (R :: (opL P ++ (opL E ++ RL0))) (sgL P 38 ++ (sgL E 124 ++ SL0)) fl) (h0s : SL0 = [] ∨ ∃ t, SL0 = 40 :: t) :
    Rn G M_mo_workOff 1 0 0 [.ref m, .int 1] h (ev_qv fun h' => ∃ sc' A', MI G h0 h' m ad sc' A' Wd ∧ RDM sc' A' (jE E (jA P R) :: RL0) SL0 (fE E (jA P R) (fA P R fl)) ∧ sfr sc sc' ∧ afr A A') := by
  refine Rn_of (ls := [some (.ref m), some (.int 1)]) rfl rfl (Nat.le_of_ble_eq_true rfl) rfl ?_
  have hst : stops 1 SL0 := by
    rcases h0s with e | ⟨t, e⟩
    · exact Or.inl e
    · exact Or.inr (Or.inl ⟨t, e⟩)
  have two : ∀ h' sc' A', MI G h0 h' m ad sc' A' Wd → RDM sc' A' (jA P R :: (opL E ++ RL0)) (sgL E 124 ++ SL0) (fA P R fl) → sfr sc sc' → afr A A' → Ev G M_mo_workOff 1 0 0 (ev_qv fun h' => ∃ sc' A', MI G h0 h' m ad sc' A' Wd ∧ RDM sc' A' (jE E (jA P R) :: RL0) SL0 (fE E (jA P R) (fA P R fl)) ∧ sfr sc sc' ∧ afr A A') 0 [some (.ref m), some (.int 1)] [] h' := by
    intro h' sc' A' H' hR' s1 a1
    by_cases hE : E = []
    · subst hE
      exact wo_stop H' hR' hst ⟨rfl, sc', A', H', hR', s1, a1⟩
    · have e1 : opL E = [E] := if_neg hE
      have e2 : sgL E 124 = [124] := if_neg hE
      rw [e1, e2] at hR'
      refine wo_go H' hR' (Or.inl rfl) (Or.inl (by decide)) (wo_step H' hR' (Or.inl rfl) ?_)
      intro h2 sc2 A2 H2 hR2 s2 a2
      refine wo_stop H2 hR2 hst ⟨rfl, sc2, A2, H2, ?_, sfr_tr s1 s2, afr_tr a1 a2⟩
      rw [show jE E (jA P R) = cutM (E ++ jA P R) from if_neg hE, show fE E (jA P R) (fA P R fl) = ovM (E ++ jA P R) (fA P R fl) from if_neg hE]
      exact hR2
  by_cases hP : P = []
  · subst hP
    exact two h sc A H hR (fun _ _ _ _ => rfl) (fun _ _ _ _ => rfl)
  · have e1 : opL P = [P] := if_neg hP
    have e2 : sgL P 38 = [38] := if_neg hP
    rw [e1, e2] at hR
    refine wo_go H hR (Or.inr rfl) (Or.inr rfl) (wo_step H hR (Or.inr rfl) ?_)
    intro h' sc' A' H' hR' s1 a1
    refine two h' sc' A' H' ?_ s1 a1
    rw [show jA P R = cutM (andL P R) from if_neg hP, show fA P R fl = ovM (andL P R) fl from if_neg hP]
    exact hR'
end MR4
