section MO6
variable {G : ev_G} {h h0 : ev_H} {m : Nat} {ad : Nat → Nat} {sc : Nat → Int32} {A : Nat → Nat → Int32} {Wd : Nat → Int64}
variable {pm cm : Nat → Nat} {pcd : Nat → Nat → Nat}
/-- bits counted by the reference -/
def mcn (z : Int64) : Nat → Int32
  | 0 => 0
  | k + 1 => ((mcn z k).toInt64 + ((z >>> ((nI k).toInt64 &&& 63)) &&& 1)).toInt32
def msc (x y : Int64) : Int32 := if mcn (x ||| y) 64 = 0 then 0 else 100 * mcn (x &&& y) 64 / mcn (x ||| y) 64
theorem r_mo_scoreOf {y : Int64} {i : Nat} (H : MI G h0 h m ad sc A Wd) (hi : i < 16) : Rn G M_mo_scoreOf 0 0 0 [.ref m, .long y, .int (nI i)] h (ev_qi fun v h' => v = msc y (Wd i) ∧ h' = h) := by
  refine Rn_of (ls := [some (.ref m), some (.long y), none, some (.int (nI i)), none, none, none]) rfl rfl (Nat.le_of_ble_eq_true rfl) rfl ?_
  refine ev_iconst (v := 0) i_mo_scoreOf_0 (by decide) ?_
  refine ev_istore_4 i_mo_scoreOf_1 rfl ?_
  refine ev_iconst (v := 0) i_mo_scoreOf_3 (by decide) ?_
  refine ev_istore_5 i_mo_scoreOf_4 rfl ?_
  refine ev_iconst (v := 0) i_mo_scoreOf_6 (by decide) ?_
  refine ev_istore_6 i_mo_scoreOf_7 rfl ?_
  have loop : ∀ (q j : Nat), j + q = 64 → Ev G M_mo_scoreOf 0 0 0 (ev_qi fun v h' => v = msc y (Wd i) ∧ h' = h) 9 [some (.ref m), some (.long y), none, some (.int (nI i)), some (.int (mcn (y &&& Wd i) j)), some (.int (mcn (y ||| Wd i) j)), some (.int (nI j))] [] h := by
    intro q
    induction q with
    | zero =>
      intro j hj
      obtain rfl : j = 64 := by omega
      refine ev_iload_6 i_mo_scoreOf_9 ?_
      refine ev_bipush (v := 64) i_mo_scoreOf_11 (by decide) ?_
      refine ev_icmp_ge i_mo_scoreOf_13 (fun c_13 => ?_) (fun c_13 => ?_)
      rotate_left
      · exact absurd (by decide) c_13
      refine ev_iload_5 i_mo_scoreOf_62 ?_
      refine ev_if_ne i_mo_scoreOf_64 (fun c_64 => ?_) (fun c_64 => ?_)
      · refine ev_bipush (v := 100) i_mo_scoreOf_71 (by decide) ?_
        refine ev_iload_4 i_mo_scoreOf_73 ?_
        refine ev_imul i_mo_scoreOf_75 ?_
        refine ev_iload_5 i_mo_scoreOf_76 ?_
        refine ev_idiv i_mo_scoreOf_78 c_64 ?_
        refine ev_ireturn i_mo_scoreOf_79 rfl rfl ?_
        exact ⟨_, rfl, by unfold msc; rw [if_neg c_64], rfl⟩
      · refine ev_iconst (v := 0) i_mo_scoreOf_67 (by decide) ?_
        refine ev_goto i_mo_scoreOf_68 ?_
        refine ev_ireturn i_mo_scoreOf_79 rfl rfl ?_
        exact ⟨_, rfl, by unfold msc; rw [if_pos c_64], rfl⟩
    | succ q ih =>
      intro j hj
      refine ev_iload_6 i_mo_scoreOf_9 ?_
      refine ev_bipush (v := 64) i_mo_scoreOf_11 (by decide) ?_
      refine ev_icmp_ge i_mo_scoreOf_13 (fun c_13 => ?_) (fun c_13 => ?_)
      · exact absurd c_13 (show ¬ nI 64 ≤ nI j from nI_ge (by omega) (by omega))
      refine ev_iload_4 i_mo_scoreOf_16 ?_
      refine ev_i2l i_mo_scoreOf_18 ?_
      refine ev_lload_1 i_mo_scoreOf_19 ?_
      refine ev_aload_0 i_mo_scoreOf_20 ?_
      refine ev_get i_mo_scoreOf_21 fl_mo_7 H.1 rfl ?_
      refine ev_iload_3 i_mo_scoreOf_24 ?_
      refine ev_laload i_mo_scoreOf_25 ty_long H.2.2.1 (j := i) rfl (by omega) (by omega) ?_
      refine ev_land i_mo_scoreOf_26 ?_
      refine ev_iload_6 i_mo_scoreOf_27 ?_
      refine ev_lshr i_mo_scoreOf_29 ?_
      refine ev_lconst (v := 1) i_mo_scoreOf_30 (by decide) ?_
      refine ev_land i_mo_scoreOf_31 ?_
      refine ev_ladd i_mo_scoreOf_32 ?_
      refine ev_l2i i_mo_scoreOf_33 ?_
      refine ev_istore_4 i_mo_scoreOf_34 rfl ?_
      refine ev_iload_5 i_mo_scoreOf_36 ?_
      refine ev_i2l i_mo_scoreOf_38 ?_
      refine ev_lload_1 i_mo_scoreOf_39 ?_
      refine ev_aload_0 i_mo_scoreOf_40 ?_
      refine ev_get i_mo_scoreOf_41 fl_mo_7 H.1 rfl ?_
      refine ev_iload_3 i_mo_scoreOf_44 ?_
      refine ev_laload i_mo_scoreOf_45 ty_long H.2.2.1 (j := i) rfl (by omega) (by omega) ?_
      refine ev_lor i_mo_scoreOf_46 ?_
      refine ev_iload_6 i_mo_scoreOf_47 ?_
      refine ev_lshr i_mo_scoreOf_49 ?_
      refine ev_lconst (v := 1) i_mo_scoreOf_50 (by decide) ?_
      refine ev_land i_mo_scoreOf_51 ?_
      refine ev_ladd i_mo_scoreOf_52 ?_
      refine ev_l2i i_mo_scoreOf_53 ?_
      refine ev_istore_5 i_mo_scoreOf_54 rfl ?_
      refine ev_iinc_6 i_mo_scoreOf_56 (nI_1 j) rfl ?_
      refine ev_goto i_mo_scoreOf_59 ?_
      exact ih (j + 1) (by omega)
  exact loop 64 0 (by omega)
theorem r_mo_score {y : Int64} {i : Int32} {n : Nat} (H : MI G h0 h m ad sc A Wd) (hn : sc 2 = nI n) (hn2 : n ≤ 16) : Rn G M_mo_score 1 0 0 [.ref m, .long y, .int i] h (ev_qi fun v h' => MI G h0 h' m ad (va_up sc 0 0) A Wd ∧ ((∃ j, ixv i n = some j ∧ v = msc y (Wd j)) ∨ (ixv i n = none ∧ v = -1))) := by
  refine Rn_of (ls := [some (.ref m), some (.long y), none, some (.int i)]) rfl rfl (Nat.le_of_ble_eq_true rfl) rfl ?_
  refine ev_aload_0 i_mo_score_0 ?_
  refine ev_iconst (v := 0) i_mo_score_1 (by decide) ?_
  refine ev_p0 i_mo_score_2 pl_mo_score_81 H (fun h H => ?_)
  refine ev_aload_0 i_mo_score_5 ?_
  refine ev_iload_3 i_mo_score_6 ?_
  refine ev_vi1 i_mo_score_7 lk_mo_91 cb_mo_isLicence iv_mo_isLicence (r_mo_isLicence (y := i) (n := n) H hn (by omega)) H.1 rfl (by decide) (Nat.le_of_ble_eq_true rfl) rfl rfl (fun v h' hq => ?_)
  obtain ⟨rfl, rfl⟩ := hq
  rcases ix_cases i (show n < 2 ^ 31 by omega) with ⟨j, hj, rfl, e⟩ | ⟨-, e⟩
  · rw [isw_1 e]
    refine ev_if_eq i_mo_score_10 (fun c_10 => ?_) (fun c_10 => ?_)
    · exact absurd c_10 (by decide)
    refine ev_aload_0 i_mo_score_13 ?_
    refine ev_lload_1 i_mo_score_14 ?_
    refine ev_iload_3 i_mo_score_15 ?_
    refine ev_vi2 i_mo_score_16 lk_mo_176 cb_mo_scoreOf iv_mo_scoreOf (r_mo_scoreOf (y := y) H (show j < 16 by omega)) H.1 rfl (by decide) (Nat.le_of_ble_eq_true rfl) rfl rfl (fun v h2 hq => ?_)
    obtain ⟨rfl, rfl⟩ := hq
    refine ev_goto i_mo_score_19 ?_
    refine ev_ireturn i_mo_score_23 rfl rfl ?_
    exact ⟨_, rfl, H, Or.inl ⟨j, e, rfl⟩⟩
  · rw [isw_0 e]
    refine ev_if_eq i_mo_score_10 (fun c_10 => ?_) (fun c_10 => ?_)
    · refine ev_iconst (v := (-1)) i_mo_score_22 (by decide) ?_
      refine ev_ireturn i_mo_score_23 rfl rfl ?_
      exact ⟨_, rfl, H, Or.inr ⟨e, rfl⟩⟩
    · exact absurd rfl c_10
def mtop (W : Nat → Int64) (y : Int64) : Nat → Int32
  | 0 => 60
  | i + 1 => if mtop W y i < msc y (W i) then msc y (W i) else mtop W y i
def mhit (W : Nat → Int64) (y : Int64) (b : Int32) (l : Nat) : Bool := decide (msc y (W l) = b)
def mfnd (W : Nat → Int64) (y : Int64) (n : Nat) (o : Nat) : Int32 := match (List.range n).find? (fun l => mhit W y (mtop W y n) l && decide (sumb (mhit W y (mtop W y n)) l = o)) with
  | some l => nI l
  | none => -1
theorem r_mo_found {y : Int64} {o : Int32} {n : Nat} (H : MI G h0 h m ad sc A Wd) (hn : sc 2 = nI n) (hn2 : n ≤ 16) : Rn G M_mo_found 1 0 0 [.ref m, .long y, .int o] h (ev_qi fun v h' => MI G h0 h' m ad (va_up sc 0 0) A Wd ∧ v = (if o = 0 then mfnd Wd y n 0 else if o = 1 then mfnd Wd y n 1 else -1)) := by
  refine Rn_of (ls := [some (.ref m), some (.long y), none, some (.int o), none, none, none]) rfl rfl (Nat.le_of_ble_eq_true rfl) rfl ?_
  refine ev_aload_0 i_mo_found_0 ?_
  refine ev_iconst (v := 0) i_mo_found_1 (by decide) ?_
  refine ev_p0 i_mo_found_2 pl_mo_found_81 H (fun h H => ?_)
  refine ev_bipush (v := 60) i_mo_found_5 (by decide) ?_
  refine ev_istore_4 i_mo_found_7 rfl ?_
  refine ev_iconst (v := 0) i_mo_found_9 (by decide) ?_
  refine ev_istore_5 i_mo_found_10 rfl ?_
  generalize hQ : ev_qi (fun v h' => MI G h0 h' m ad (va_up sc 0 0) A Wd ∧ v = (if o = 0 then mfnd Wd y n 0 else if o = 1 then mfnd Wd y n 1 else -1)) = Q
  have fin : ∀ v, v = (if o = 0 then mfnd Wd y n 0 else if o = 1 then mfnd Wd y n 1 else -1) → Q (some (.int v)) h := fun v hv => by rw [← hQ]; exact ⟨_, rfl, H, hv⟩
  have loop : ∀ (q j : Nat), j + q = n → Ev G M_mo_found 1 0 0 Q 12 [some (.ref m), some (.long y), none, some (.int o), some (.int (mtop Wd y j)), some (.int (nI j)), none] [] h := by
    intro q
    induction q with
    | zero =>
      intro j hj
      obtain rfl : j = n := by omega
      refine ev_iload_5 i_mo_found_12 ?_
      refine ev_aload_0 i_mo_found_14 ?_
      refine ev_get i_mo_found_15 fl_mo_85 H.1 rfl ?_
      refine ev_top (y := nI j) hn ?_
      refine ev_icmp_ge i_mo_found_18 (fun c_18 => ?_) (fun c_18 => ?_)
      rotate_left
      · exact absurd (nI_le (Nat.le_refl _) (by omega)) c_18
      refine ev_iload_3 i_mo_found_53 ?_
      refine ev_istore_5 i_mo_found_54 rfl ?_
      refine ev_iconst (v := 0) i_mo_found_56 (by decide) ?_
      refine ev_istore_6 i_mo_found_57 rfl ?_
      by_cases ho : o = 0 ∨ o = 1
      · obtain ⟨t, ht, rfl⟩ : ∃ t, t < 2 ∧ o = nI t := by
          rcases ho with rfl | rfl
          · exact ⟨0, by omega, rfl⟩
          · exact ⟨1, by omega, rfl⟩
        have fin2 : ∀ v, v = mfnd Wd y j t → Q (some (.int v)) h := by
          intro v hv
          refine fin v ?_
          rcases (show t = 0 ∨ t = 1 by omega) with rfl | rfl
          · rw [if_pos (show nI 0 = 0 from rfl)]; exact hv
          · rw [if_neg (show ¬ nI 1 = 0 by decide), if_pos (show nI 1 = 1 from rfl)]; exact hv
        have loop2 : ∀ (q2 l : Nat), l + q2 = j → sumb (mhit Wd y (mtop Wd y j)) l ≤ t → (List.range l).find? (fun l => mhit Wd y (mtop Wd y j) l && decide (sumb (mhit Wd y (mtop Wd y j)) l = t)) = none → Ev G M_mo_found 1 0 0 Q 59 [some (.ref m), some (.long y), none, some (.int (nI t)), some (.int (mtop Wd y j)), some (.int (nI (t - sumb (mhit Wd y (mtop Wd y j)) l))), some (.int (nI l))] [] h := by
          intro q2
          induction q2 with
          | zero =>
            intro l hl hs hno
            obtain rfl : l = j := by omega
            refine ev_iload_6 i_mo_found_59 ?_
            refine ev_aload_0 i_mo_found_61 ?_
            refine ev_get i_mo_found_62 fl_mo_85 H.1 rfl ?_
            refine ev_top (y := nI l) hn ?_
            refine ev_icmp_ge i_mo_found_65 (fun c_65 => ?_) (fun c_65 => ?_)
            · refine ev_iconst (v := (-1)) i_mo_found_109 (by decide) ?_
              refine ev_ireturn i_mo_found_110 rfl rfl ?_
              refine fin2 _ ?_
              unfold mfnd
              rw [hno]
            · exact absurd (nI_le (Nat.le_refl _) (by omega)) c_65
          | succ q2 ih2 =>
            intro l hl hs hno
            have nx := ih2 (l + 1) (by omega)
            rw [show sumb (mhit Wd y (mtop Wd y j)) (l + 1) = sumb (mhit Wd y (mtop Wd y j)) l + (if mhit Wd y (mtop Wd y j) l then 1 else 0) from rfl] at nx
            refine ev_iload_6 i_mo_found_59 ?_
            refine ev_aload_0 i_mo_found_61 ?_
            refine ev_get i_mo_found_62 fl_mo_85 H.1 rfl ?_
            refine ev_top (y := nI j) hn ?_
            refine ev_icmp_ge i_mo_found_65 (fun c_65 => ?_) (fun c_65 => ?_)
            · exact absurd c_65 (nI_ge (by omega) (by omega))
            have rest : Ev G M_mo_found 1 0 0 Q 77 [some (.ref m), some (.long y), none, some (.int (nI t)), some (.int (mtop Wd y j)), some (.int (nI (t - sumb (mhit Wd y (mtop Wd y j)) l))), some (.int (nI l))] [] h := by
              refine ev_aload_0 i_mo_found_77 ?_
              refine ev_lload_1 i_mo_found_78 ?_
              refine ev_iload_6 i_mo_found_79 ?_
              refine ev_vi2 i_mo_found_81 lk_mo_176 cb_mo_scoreOf iv_mo_scoreOf (r_mo_scoreOf (y := y) H (show l < 16 by omega)) H.1 rfl (by decide) (Nat.le_of_ble_eq_true rfl) rfl rfl (fun v h2 hq => ?_)
              obtain ⟨rfl, rfl⟩ := hq
              refine ev_iload_4 i_mo_found_84 ?_
              refine ev_icmp_eq i_mo_found_86 (fun c_86 => ?_) (fun c_86 => ?_)
              rotate_left
              · rw [show mhit Wd y (mtop Wd y j) l = false from decide_eq_false c_86] at nx
                refine ev_goto i_mo_found_89 ?_
                refine ev_iinc_6 i_mo_found_103 (nI_1 l) rfl ?_
                refine ev_goto i_mo_found_106 ?_
                exact nx hs (fd_n hno (by rw [show mhit Wd y (mtop Wd y j) l = false from decide_eq_false c_86]; rfl))
              have hT : mhit Wd y (mtop Wd y j) l = true := decide_eq_true c_86
              rw [hT] at nx
              refine ev_iload_5 i_mo_found_92 ?_
              refine ev_if_ne i_mo_found_94 (fun c_94 => ?_) (fun c_94 => ?_)
              · have hlt : sumb (mhit Wd y (mtop Wd y j)) l < t := by
                  rcases Nat.lt_or_ge (sumb (mhit Wd y (mtop Wd y j)) l) t with z | z
                  · exact z
                  · rw [show t - sumb (mhit Wd y (mtop Wd y j)) l = 0 by omega] at c_94
                    exact absurd rfl c_94
                have em : nI (t - sumb (mhit Wd y (mtop Wd y j)) l) + (-1) = nI (t - (sumb (mhit Wd y (mtop Wd y j)) l + 1)) := by
                  rw [show t - sumb (mhit Wd y (mtop Wd y j)) l = 1 by omega, show t - (sumb (mhit Wd y (mtop Wd y j)) l + 1) = 0 by omega]; decide
                refine ev_iinc_5 i_mo_found_100 em rfl ?_
                refine ev_iinc_6 i_mo_found_103 (nI_1 l) rfl ?_
                refine ev_goto i_mo_found_106 ?_
                exact nx hlt (fd_n hno (by rw [hT, decide_eq_false (show ¬ sumb (mhit Wd y (mtop Wd y j)) l = t by omega)]; rfl))
              · have heq : sumb (mhit Wd y (mtop Wd y j)) l = t := by
                  have : nI (t - sumb (mhit Wd y (mtop Wd y j)) l) = nI 0 := c_94
                  rw [nI_eq (by omega) (by omega)] at this
                  omega
                refine ev_iload_6 i_mo_found_97 ?_
                refine ev_ireturn i_mo_found_99 rfl rfl ?_
                refine fin2 _ ?_
                unfold mfnd
                rw [fd_h (j := l) hno (by omega) (by rw [hT, decide_eq_true heq]; rfl)]
            refine ev_iload_3 i_mo_found_68 ?_
            refine ev_if_eq i_mo_found_69 (fun c_69 => ?_) (fun c_69 => ?_)
            · exact rest
            refine ev_iload_3 i_mo_found_72 ?_
            refine ev_iconst (v := 1) i_mo_found_73 (by decide) ?_
            refine ev_icmp_ne i_mo_found_74 (fun c_74 => ?_) (fun c_74 => ?_)
            · exact absurd (show nI t = 1 from by
                rcases (show t = 0 ∨ t = 1 by omega) with rfl | rfl
                · exact absurd rfl c_69
                · rfl) c_74
            · exact rest
        exact loop2 j 0 (by omega) (Nat.zero_le _) rfl
      · have fin3 := fin (-1) (by rw [if_neg (fun z => ho (Or.inl z)), if_neg (fun z => ho (Or.inr z))])
        refine ev_iload_6 i_mo_found_59 ?_
        refine ev_aload_0 i_mo_found_61 ?_
        refine ev_get i_mo_found_62 fl_mo_85 H.1 rfl ?_
        refine ev_top (y := nI j) hn ?_
        refine ev_icmp_ge i_mo_found_65 (fun c_65 => ?_) (fun c_65 => ?_)
        · refine ev_iconst (v := (-1)) i_mo_found_109 (by decide) ?_
          refine ev_ireturn i_mo_found_110 rfl rfl ?_
          exact fin3
        refine ev_iload_3 i_mo_found_68 ?_
        refine ev_if_eq i_mo_found_69 (fun c_69 => ?_) (fun c_69 => ?_)
        · exact absurd (Or.inl c_69) ho
        refine ev_iload_3 i_mo_found_72 ?_
        refine ev_iconst (v := 1) i_mo_found_73 (by decide) ?_
        refine ev_icmp_ne i_mo_found_74 (fun c_74 => ?_) (fun c_74 => ?_)
        · refine ev_iconst (v := (-1)) i_mo_found_109 (by decide) ?_
          refine ev_ireturn i_mo_found_110 rfl rfl ?_
          exact fin3
        · exact absurd (Or.inr c_74) ho
    | succ q ih =>
      intro j hj
      have nx := ih (j + 1) (by omega)
      rw [show mtop Wd y (j + 1) = if mtop Wd y j < msc y (Wd j) then msc y (Wd j) else mtop Wd y j from rfl] at nx
      refine ev_iload_5 i_mo_found_12 ?_
      refine ev_aload_0 i_mo_found_14 ?_
      refine ev_get i_mo_found_15 fl_mo_85 H.1 rfl ?_
      refine ev_top (y := nI n) hn ?_
      refine ev_icmp_ge i_mo_found_18 (fun c_18 => ?_) (fun c_18 => ?_)
      · exact absurd c_18 (nI_ge (by omega) (by omega))
      refine ev_aload_0 i_mo_found_21 ?_
      refine ev_lload_1 i_mo_found_22 ?_
      refine ev_iload_5 i_mo_found_23 ?_
      refine ev_vi2 i_mo_found_25 lk_mo_176 cb_mo_scoreOf iv_mo_scoreOf (r_mo_scoreOf (y := y) H (show j < 16 by omega)) H.1 rfl (by decide) (Nat.le_of_ble_eq_true rfl) rfl rfl (fun v h2 hq => ?_)
      obtain ⟨rfl, rfl⟩ := hq
      refine ev_iload_4 i_mo_found_28 ?_
      refine ev_icmp_le i_mo_found_30 (fun c_30 => ?_) (fun c_30 => ?_)
      · rw [if_neg (Int32.not_lt.mpr c_30)] at nx
        refine ev_iload_4 i_mo_found_43 ?_
        refine ev_istore_4 i_mo_found_45 rfl ?_
        refine ev_iinc_5 i_mo_found_47 (nI_1 j) rfl ?_
        refine ev_goto i_mo_found_50 ?_
        exact nx
      · rw [if_pos (Int32.not_le.mp c_30)] at nx
        refine ev_aload_0 i_mo_found_33 ?_
        refine ev_lload_1 i_mo_found_34 ?_
        refine ev_iload_5 i_mo_found_35 ?_
        refine ev_vi2 i_mo_found_37 lk_mo_176 cb_mo_scoreOf iv_mo_scoreOf (r_mo_scoreOf (y := y) H (show j < 16 by omega)) H.1 rfl (by decide) (Nat.le_of_ble_eq_true rfl) rfl rfl (fun v h3 hq => ?_)
        obtain ⟨rfl, rfl⟩ := hq
        refine ev_goto i_mo_found_40 ?_
        refine ev_istore_4 i_mo_found_45 rfl ?_
        refine ev_iinc_5 i_mo_found_47 (nI_1 j) rfl ?_
        refine ev_goto i_mo_found_50 ?_
        exact nx
  exact loop n 0 (by omega)
end MO6
