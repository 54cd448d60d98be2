section MR3
variable {G : ev_G} {h h0 : ev_H} {m : Nat} {ad : Nat → Nat} {sc : Nat → Int32} {A : Nat → Nat → Int32} {Wd : Nat → Int64}
def jW (its : Int32) (X Y : List Int32) : List Int32 := if its = 124 then X ++ Y else andL X Y
theorem r_mo_join {a : Nat} {its : Int32} {X Y : List Int32} (H : MI G h0 h m ad sc A Wd) (hs : sc 24 = nI (a + 2)) (ha : a + 1 < 40) (hX : rowAt A a X) (hY : rowAt A (a + 1) Y) (hi : its = 124 ∨ its = 38) :
    Rn G M_mo_join 0 0 0 [.ref m, .int its] h (ev_qv fun h' => ∃ A', MI G h0 h' m ad (va_up (va_up sc 24 (nI (a + 1))) 27 (ovM (jW its X Y) (sc 27))) A' Wd ∧ rowAt A' a (cutM (jW its X Y)) ∧ jfr A A' a) := by
  have e20 : ∀ k : Nat, (20 : Int32) * nI a + nI k = nI (20 * a + k) := fun k => by rw [show (20 : Int32) = nI 20 from rfl, pk_mul, nI_add]
  have e20' : ∀ k : Nat, (20 : Int32) * nI (a + 1) + nI k = nI (20 * (a + 1) + k) := fun k => by rw [show (20 : Int32) = nI 20 from rfl, pk_mul, nI_add]
  refine Rn_of (ls := [some (.ref m), some (.int its), none, none, none, none, none, none]) rfl rfl (Nat.le_of_ble_eq_true rfl) rfl ?_
  refine ev_aload_0 i_mo_join_0 ?_
  refine ev_get i_mo_join_1 fl_mo_104 H.1 rfl ?_
  refine ev_iconst (v := 2) i_mo_join_4 (by decide) ?_
  refine ev_isub i_mo_join_5 ?_
  refine ev_top (y := nI a) (by rw [hs]; exact pk_sub (a := a + 2) (b := 2) (by omega)) ?_
  refine ev_istore_2 i_mo_join_6 rfl ?_
  refine ev_aload_0 i_mo_join_7 ?_
  refine ev_get i_mo_join_8 fl_mo_104 H.1 rfl ?_
  refine ev_iconst (v := 1) i_mo_join_11 (by decide) ?_
  refine ev_isub i_mo_join_12 ?_
  refine ev_top (y := nI (a + 1)) (by rw [hs]; exact nI_pred (a + 1)) ?_
  refine ev_istore_3 i_mo_join_13 rfl ?_
  refine ev_iconst (v := 0) i_mo_join_14 (by decide) ?_
  refine ev_istore_4 i_mo_join_15 rfl ?_
  refine ev_iconst (v := 0) i_mo_join_17 (by decide) ?_
  refine ev_istore_5 i_mo_join_18 rfl ?_
  rw [← hu_self (f := A) (a := 21) rfl] at H
  generalize A 21 = f0 at H
  have lX := hX.2.1
  have lY := hY.2.1
  generalize hQ : (ev_qv fun h' => ∃ A', MI G h0 h' m ad (va_up (va_up sc 24 (nI (a + 1))) 27 (ovM (jW its X Y) (sc 27))) A' Wd ∧ rowAt A' a (cutM (jW its X Y)) ∧ jfr A A' a) = Q
  have fin : ∀ (h' : ev_H) (f : Nat → Int32) (W : List Int32) (w5 w6 w7 : Option Value), MI G h0 h' m ad sc (va_up A 21 f) Wd → W = jW its X Y → wkf f W → W.length ≤ 400 → ev_nl w5 = true → ev_nl w6 = true → ev_nl w7 = true → Ev G M_mo_join 0 0 0 Q 174 [some (.ref m), some (.int its), some (.int (nI a)), some (.int (nI (a + 1))), some (.int (nI W.length)), w5, w6, w7] [] h' := by
    intro h' f W w5 w6 w7 H eW hW hWl n5 n6 n7
    rw [← hQ, ← eW]
    exact r_mo_join2 H hs (by omega) hW hWl n5 n6 n7
  clear hQ
  rcases hi with rfl | rfl
  · -- or
    have loop2 : ∀ (q k : Nat) (h' : ev_H) (f : Nat → Int32) (w6 w7 : Option Value), ev_nl w6 = true → ev_nl w7 = true → k + q = Y.length → MI G h0 h' m ad sc (va_up A 21 f) Wd → wkf f (X ++ Y.take k) → Ev G M_mo_join 0 0 0 Q 129 [some (.ref m), some (.int 124), some (.int (nI a)), some (.int (nI (a + 1))), some (.int (nI (X ++ Y.take k).length)), some (.int (nI k)), w6, w7] [] h' := by
      intro q
      induction q with
      | zero =>
        intro k h' f w6 w7 n6 n7 hk H hf
        obtain rfl : k = Y.length := by omega
        rw [List.take_length] at hf ⊢
        refine ev_iload_5 i_mo_join_129 ?_
        refine ev_aload_0 i_mo_join_131 ?_
        refine ev_get i_mo_join_132 fl_mo_57 H.1 rfl ?_
        refine ev_iload_3 i_mo_join_135 ?_
        refine ev_ia (L := 40) i_mo_join_136 H rfl rfl (j := a + 1) rfl (by omega) (by omega) ?_
        refine ev_top (y := nI Y.length) hY.1 ?_
        refine ev_icmp_ge i_mo_join_137 (fun c_137 => ?_) (fun c_137 => ?_)
        rotate_left
        · exact absurd (nI_le (Nat.le_refl _) (by omega)) c_137
        exact fin h' f (X ++ Y) _ _ _ H rfl hf (by rw [List.length_append]; omega) rfl n6 n7
      | succ q ih =>
        intro k h' f w6 w7 n6 n7 hk H hf
        have nx := fun h' f' => ih (k + 1) h' f' w6 w7 n6 n7 (by omega)
        rw [take_s (show k < Y.length by omega), ← List.append_assoc] at nx
        refine ev_iload_5 i_mo_join_129 ?_
        refine ev_aload_0 i_mo_join_131 ?_
        refine ev_get i_mo_join_132 fl_mo_57 H.1 rfl ?_
        refine ev_iload_3 i_mo_join_135 ?_
        refine ev_ia (L := 40) i_mo_join_136 H rfl rfl (j := a + 1) rfl (by omega) (by omega) ?_
        refine ev_top (y := nI Y.length) hY.1 ?_
        refine ev_icmp_ge i_mo_join_137 (fun c_137 => ?_) (fun c_137 => ?_)
        · exact absurd c_137 (nI_ge (by omega) (by omega))
        refine ev_iload_1 i_mo_join_140 ?_
        refine ev_bipush (v := 124) i_mo_join_141 (by decide) ?_
        refine ev_icmp_ne i_mo_join_143 (fun c_143 => ?_) (fun c_143 => ?_)
        · exact absurd rfl c_143
        have hlt : (X ++ Y.take k).length < 400 := by rw [List.length_append, List.length_take]; omega
        refine ev_aload_0 i_mo_join_146 ?_
        refine ev_get i_mo_join_147 fl_mo_60 H.1 rfl ?_
        refine ev_iload_4 i_mo_join_150 ?_
        refine ev_aload_0 i_mo_join_152 ?_
        refine ev_get i_mo_join_153 fl_mo_54 H.1 rfl ?_
        refine ev_bipush (v := 20) i_mo_join_156 (by decide) ?_
        refine ev_iload_3 i_mo_join_158 ?_
        refine ev_imul i_mo_join_159 ?_
        refine ev_iload_5 i_mo_join_160 ?_
        refine ev_iadd i_mo_join_162 ?_
        refine ev_ia (L := 800) i_mo_join_163 H rfl rfl (j := 20 * (a + 1) + k) (e20' k) (by omega) (by omega) ?_
        refine ev_top (y := gd Y k) (hY.2.2 k (by omega)) ?_
        refine ev_is (L := 400) i_mo_join_164 H rfl rfl (j := (X ++ Y.take k).length) rfl hlt (by omega) (fun h H => ?_)
        refine ev_iinc_4 i_mo_join_165 (nI_1 _) rfl ?_
        refine ev_iinc_5 i_mo_join_168 (nI_1 k) rfl ?_
        refine ev_goto i_mo_join_171 ?_
        rw [hu_uu] at H
        have := nx _ (upd f (X ++ Y.take k).length (gd Y k)) H (wkf_s hf)
        rw [List.length_append (bs := [gd Y k])] at this
        exact this
    have loop : ∀ (q i : Nat) (h' : ev_H) (f : Nat → Int32) (w6 w7 : Option Value), ev_nl w6 = true → ev_nl w7 = true → i + q = X.length → MI G h0 h' m ad sc (va_up A 21 f) Wd → wkf f (X.take i) → Ev G M_mo_join 0 0 0 Q 20 [some (.ref m), some (.int 124), some (.int (nI a)), some (.int (nI (a + 1))), some (.int (nI (X.take i).length)), some (.int (nI i)), w6, w7] [] h' := by
      intro q
      induction q with
      | zero =>
        intro i h' f w6 w7 n6 n7 hi H hf
        obtain rfl : i = X.length := by omega
        rw [List.take_length] at hf ⊢
        refine ev_iload_5 i_mo_join_20 ?_
        refine ev_aload_0 i_mo_join_22 ?_
        refine ev_get i_mo_join_23 fl_mo_57 H.1 rfl ?_
        refine ev_iload_2 i_mo_join_26 ?_
        refine ev_ia (L := 40) i_mo_join_27 H rfl rfl (j := a) rfl (by omega) (by omega) ?_
        refine ev_top (y := nI X.length) hX.1 ?_
        refine ev_icmp_ge i_mo_join_28 (fun c_28 => ?_) (fun c_28 => ?_)
        rotate_left
        · exact absurd (nI_le (Nat.le_refl _) (by omega)) c_28
        refine ev_iconst (v := 0) i_mo_join_126 (by decide) ?_
        refine ev_istore_5 i_mo_join_127 rfl ?_
        have := loop2 Y.length 0 h' f w6 w7 n6 n7 (by omega) H (by rw [List.take_zero, List.append_nil]; exact hf)
        rw [List.take_zero, List.append_nil] at this
        exact this
      | succ q ih =>
        intro i h' f w6 w7 n6 n7 hi H hf
        have nx := fun h' f' w6 n6 => ih (i + 1) h' f' w6 w7 n6 n7 (by omega)
        rw [take_s (show i < X.length by omega)] at nx
        refine ev_iload_5 i_mo_join_20 ?_
        refine ev_aload_0 i_mo_join_22 ?_
        refine ev_get i_mo_join_23 fl_mo_57 H.1 rfl ?_
        refine ev_iload_2 i_mo_join_26 ?_
        refine ev_ia (L := 40) i_mo_join_27 H rfl rfl (j := a) rfl (by omega) (by omega) ?_
        refine ev_top (y := nI X.length) hX.1 ?_
        refine ev_icmp_ge i_mo_join_28 (fun c_28 => ?_) (fun c_28 => ?_)
        · exact absurd c_28 (nI_ge (by omega) (by omega))
        have hlt : (X.take i).length < 400 := by rw [List.length_take]; omega
        refine ev_iload_1 i_mo_join_31 ?_
        refine ev_bipush (v := 124) i_mo_join_32 (by decide) ?_
        refine ev_icmp_ne i_mo_join_34 (fun c_34 => ?_) (fun c_34 => ?_)
        · exact absurd rfl c_34
        refine ev_aload_0 i_mo_join_37 ?_
        refine ev_get i_mo_join_38 fl_mo_60 H.1 rfl ?_
        refine ev_iload_4 i_mo_join_41 ?_
        refine ev_aload_0 i_mo_join_43 ?_
        refine ev_get i_mo_join_44 fl_mo_54 H.1 rfl ?_
        refine ev_bipush (v := 20) i_mo_join_47 (by decide) ?_
        refine ev_iload_2 i_mo_join_49 ?_
        refine ev_imul i_mo_join_50 ?_
        refine ev_iload_5 i_mo_join_51 ?_
        refine ev_iadd i_mo_join_53 ?_
        refine ev_ia (L := 800) i_mo_join_54 H rfl rfl (j := 20 * a + i) (e20 i) (by omega) (by omega) ?_
        refine ev_top (y := gd X i) (hX.2.2 i (by omega)) ?_
        refine ev_is (L := 400) i_mo_join_55 H rfl rfl (j := (X.take i).length) rfl hlt (by omega) (fun h H => ?_)
        refine ev_iinc_4 i_mo_join_56 (nI_1 _) rfl ?_
        refine ev_iconst (v := 0) i_mo_join_59 (by decide) ?_
        refine ev_istore_6 i_mo_join_60 rfl ?_
        refine ev_iload_6 i_mo_join_62 ?_
        refine ev_aload_0 i_mo_join_64 ?_
        refine ev_get i_mo_join_65 fl_mo_57 H.1 rfl ?_
        refine ev_iload_3 i_mo_join_68 ?_
        rw [hu_uu] at H
        have := nx h (upd f (X.take i).length (gd X i)) (some (.int 0)) rfl H (wkf_s hf)
        rw [List.length_append (bs := [gd X i])] at this
        refine ev_ia (L := 40) i_mo_join_69 H rfl rfl (j := a + 1) rfl (by omega) (by omega) ?_
        refine ev_top (y := nI Y.length) hY.1 ?_
        refine ev_icmp_ge i_mo_join_70 (fun c_70 => ?_) (fun c_70 => ?_)
        · refine ev_iinc_5 i_mo_join_120 (nI_1 i) rfl ?_
          refine ev_goto i_mo_join_123 ?_
          exact this
        refine ev_iload_1 i_mo_join_73 ?_
        refine ev_bipush (v := 38) i_mo_join_74 (by decide) ?_
        refine ev_icmp_ne i_mo_join_76 (fun c_76 => ?_) (fun c_76 => ?_)
        · refine ev_iinc_5 i_mo_join_120 (nI_1 i) rfl ?_
          refine ev_goto i_mo_join_123 ?_
          exact this
        · exact absurd c_76 (by decide)
    have := loop X.length 0 h f0 none none rfl rfl (by omega) H (fun i hi => absurd hi (by simp))
    exact this
  · -- and
    have tail : ∀ (h' : ev_H) (f : Nat → Int32) (w5 w6 w7 : Option Value), ev_nl w5 = true → ev_nl w6 = true → ev_nl w7 = true → MI G h0 h' m ad sc (va_up A 21 f) Wd → wkf f (andL X Y) → Ev G M_mo_join 0 0 0 Q 126 [some (.ref m), some (.int 38), some (.int (nI a)), some (.int (nI (a + 1))), some (.int (nI (andL X Y).length)), w5, w6, w7] [] h' := by
      intro h' f w5 w6 w7 n5 n6 n7 H hf
      have hl : (andL X Y).length ≤ 400 := by rw [andL_len]; exact Nat.mul_le_mul lX lY
      refine ev_iconst (v := 0) i_mo_join_126 (by decide) ?_
      refine ev_istore_5 i_mo_join_127 rfl ?_
      refine ev_iload_5 i_mo_join_129 ?_
      refine ev_aload_0 i_mo_join_131 ?_
      refine ev_get i_mo_join_132 fl_mo_57 H.1 rfl ?_
      refine ev_iload_3 i_mo_join_135 ?_
      refine ev_ia (L := 40) i_mo_join_136 H rfl rfl (j := a + 1) rfl (by omega) (by omega) ?_
      refine ev_top (y := nI Y.length) hY.1 ?_
      refine ev_icmp_ge i_mo_join_137 (fun c_137 => ?_) (fun c_137 => ?_)
      · exact fin h' f (andL X Y) _ _ _ H (by unfold jW; rw [if_neg (by decide)]) hf hl rfl n6 n7
      refine ev_iload_1 i_mo_join_140 ?_
      refine ev_bipush (v := 124) i_mo_join_141 (by decide) ?_
      refine ev_icmp_ne i_mo_join_143 (fun c_143 => ?_) (fun c_143 => ?_)
      · exact fin h' f (andL X Y) _ _ _ H (by unfold jW; rw [if_neg (by decide)]) hf hl rfl n6 n7
      · exact absurd c_143 (by decide)
    have loop : ∀ (q i : Nat) (h' : ev_H) (f : Nat → Int32) (w6 w7 : Option Value), ev_nl w6 = true → ev_nl w7 = true → i + q = X.length → MI G h0 h' m ad sc (va_up A 21 f) Wd → wkf f (andL (X.take i) Y) → Ev G M_mo_join 0 0 0 Q 20 [some (.ref m), some (.int 38), some (.int (nI a)), some (.int (nI (a + 1))), some (.int (nI (andL (X.take i) Y).length)), some (.int (nI i)), w6, w7] [] h' := by
      intro q
      induction q with
      | zero =>
        intro i h' f w6 w7 n6 n7 hi H hf
        obtain rfl : i = X.length := by omega
        rw [List.take_length] at hf ⊢
        refine ev_iload_5 i_mo_join_20 ?_
        refine ev_aload_0 i_mo_join_22 ?_
        refine ev_get i_mo_join_23 fl_mo_57 H.1 rfl ?_
        refine ev_iload_2 i_mo_join_26 ?_
        refine ev_ia (L := 40) i_mo_join_27 H rfl rfl (j := a) rfl (by omega) (by omega) ?_
        refine ev_top (y := nI X.length) hX.1 ?_
        refine ev_icmp_ge i_mo_join_28 (fun c_28 => ?_) (fun c_28 => ?_)
        rotate_left
        · exact absurd (nI_le (Nat.le_refl _) (by omega)) c_28
        exact tail h' f _ _ _ rfl n6 n7 H hf
      | succ q ih =>
        intro i h' f w6 w7 n6 n7 hi H hf
        have nx := fun h' f' w6 n6 => ih (i + 1) h' f' w6 w7 n6 n7 (by omega)
        rw [andL_s (show i < X.length by omega)] at nx
        refine ev_iload_5 i_mo_join_20 ?_
        refine ev_aload_0 i_mo_join_22 ?_
        refine ev_get i_mo_join_23 fl_mo_57 H.1 rfl ?_
        refine ev_iload_2 i_mo_join_26 ?_
        refine ev_ia (L := 40) i_mo_join_27 H rfl rfl (j := a) rfl (by omega) (by omega) ?_
        refine ev_top (y := nI X.length) hX.1 ?_
        refine ev_icmp_ge i_mo_join_28 (fun c_28 => ?_) (fun c_28 => ?_)
        · exact absurd c_28 (nI_ge (by omega) (by omega))
        refine ev_iload_1 i_mo_join_31 ?_
        refine ev_bipush (v := 124) i_mo_join_32 (by decide) ?_
        refine ev_icmp_ne i_mo_join_34 (fun c_34 => ?_) (fun c_34 => ?_)
        rotate_left
        · exact absurd c_34 (by decide)
        refine ev_iconst (v := 0) i_mo_join_59 (by decide) ?_
        refine ev_istore_6 i_mo_join_60 rfl ?_
        generalize hP : andL (X.take i) Y = P at *
        have hPl : P.length + Y.length ≤ 400 := by
          rw [← hP, andL_len, List.length_take, Nat.min_eq_left (by omega)]
          have : (i + 1) * Y.length ≤ 20 * 20 := Nat.mul_le_mul (by omega) lY
          rw [Nat.succ_mul] at this
          omega
        have inner : ∀ (q2 k : Nat) (h' : ev_H) (f : Nat → Int32), k + q2 = Y.length → MI G h0 h' m ad sc (va_up A 21 f) Wd → wkf f (P ++ (Y.take k).map (fun b => gd X i ||| b)) → Ev G M_mo_join 0 0 0 Q 62 [some (.ref m), some (.int 38), some (.int (nI a)), some (.int (nI (a + 1))), some (.int (nI (P ++ (Y.take k).map (fun b => gd X i ||| b)).length)), some (.int (nI i)), some (.int (nI k)), w7] [] h' := by
          intro q2
          induction q2 with
          | zero =>
            intro k h' f hk H hf
            obtain rfl : k = Y.length := by omega
            rw [List.take_length] at hf ⊢
            refine ev_iload_6 i_mo_join_62 ?_
            refine ev_aload_0 i_mo_join_64 ?_
            refine ev_get i_mo_join_65 fl_mo_57 H.1 rfl ?_
            refine ev_iload_3 i_mo_join_68 ?_
            refine ev_ia (L := 40) i_mo_join_69 H rfl rfl (j := a + 1) rfl (by omega) (by omega) ?_
            refine ev_top (y := nI Y.length) hY.1 ?_
            refine ev_icmp_ge i_mo_join_70 (fun c_70 => ?_) (fun c_70 => ?_)
            rotate_left
            · exact absurd (nI_le (Nat.le_refl _) (by omega)) c_70
            refine ev_iinc_5 i_mo_join_120 (nI_1 i) rfl ?_
            refine ev_goto i_mo_join_123 ?_
            exact nx h' f _ rfl H hf
          | succ q2 ih2 =>
            intro k h' f hk H hf
            have nx2 := fun h' f' => ih2 (k + 1) h' f' (by omega)
            rw [take_s (show k < Y.length by omega), List.map_append, ← List.append_assoc] at nx2
            have hlt : (P ++ (Y.take k).map (fun b => gd X i ||| b)).length < 400 := by rw [List.length_append, List.length_map, List.length_take]; omega
            refine ev_iload_6 i_mo_join_62 ?_
            refine ev_aload_0 i_mo_join_64 ?_
            refine ev_get i_mo_join_65 fl_mo_57 H.1 rfl ?_
            refine ev_iload_3 i_mo_join_68 ?_
            refine ev_ia (L := 40) i_mo_join_69 H rfl rfl (j := a + 1) rfl (by omega) (by omega) ?_
            refine ev_top (y := nI Y.length) hY.1 ?_
            refine ev_icmp_ge i_mo_join_70 (fun c_70 => ?_) (fun c_70 => ?_)
            · exact absurd c_70 (nI_ge (by omega) (by omega))
            refine ev_iload_1 i_mo_join_73 ?_
            refine ev_bipush (v := 38) i_mo_join_74 (by decide) ?_
            refine ev_icmp_ne i_mo_join_76 (fun c_76 => ?_) (fun c_76 => ?_)
            · exact absurd rfl c_76
            refine ev_aload_0 i_mo_join_79 ?_
            refine ev_get i_mo_join_80 fl_mo_60 H.1 rfl ?_
            refine ev_iload_4 i_mo_join_83 ?_
            refine ev_aload_0 i_mo_join_85 ?_
            refine ev_get i_mo_join_86 fl_mo_54 H.1 rfl ?_
            refine ev_bipush (v := 20) i_mo_join_89 (by decide) ?_
            refine ev_iload_2 i_mo_join_91 ?_
            refine ev_imul i_mo_join_92 ?_
            refine ev_iload_5 i_mo_join_93 ?_
            refine ev_iadd i_mo_join_95 ?_
            refine ev_ia (L := 800) i_mo_join_96 H rfl rfl (j := 20 * a + i) (e20 i) (by omega) (by omega) ?_
            refine ev_top (y := gd X i) (hX.2.2 i (by omega)) ?_
            refine ev_aload_0 i_mo_join_97 ?_
            refine ev_get i_mo_join_98 fl_mo_54 H.1 rfl ?_
            refine ev_bipush (v := 20) i_mo_join_101 (by decide) ?_
            refine ev_iload_3 i_mo_join_103 ?_
            refine ev_imul i_mo_join_104 ?_
            refine ev_iload_6 i_mo_join_105 ?_
            refine ev_iadd i_mo_join_107 ?_
            refine ev_ia (L := 800) i_mo_join_108 H rfl rfl (j := 20 * (a + 1) + k) (e20' k) (by omega) (by omega) ?_
            refine ev_top (y := gd Y k) (hY.2.2 k (by omega)) ?_
            refine ev_ior i_mo_join_109 ?_
            refine ev_is (L := 400) i_mo_join_110 H rfl rfl (j := (P ++ (Y.take k).map (fun b => gd X i ||| b)).length) rfl hlt (by omega) (fun h H => ?_)
            refine ev_iinc_4 i_mo_join_111 (nI_1 _) rfl ?_
            refine ev_iinc_6 i_mo_join_114 (nI_1 k) rfl ?_
            refine ev_goto i_mo_join_117 ?_
            rw [hu_uu] at H
            have := nx2 _ (upd f (P ++ (Y.take k).map (fun b => gd X i ||| b)).length (gd X i ||| gd Y k)) H (wkf_s hf)
            rw [List.length_append (bs := List.map (fun b => gd X i ||| b) [gd Y k])] at this
            exact this
        have := inner Y.length 0 h' f (by omega) H (by rw [List.take_zero, List.map_nil, List.append_nil]; exact hf)
        rw [List.take_zero, List.map_nil, List.append_nil] at this
        exact this
    have := loop X.length 0 h f0 none none rfl rfl (by omega) H (fun i hi => absurd hi (by simp [andL]))
    exact this
end MR3
