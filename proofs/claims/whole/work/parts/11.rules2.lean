section RU2
variable {G : ev_G} {h : ev_H}
/-- THE BEST CHOICE, as the class looks for it: its place (or none) and its weight -/
def cwt (B : Nat → Int64) (T F : Nat → Int32) (v i : Nat) : Int32 := bci (tjoin (cs B i) T F v 144) * 145 + pcn (c3 B i)
def cbest (B : Nat → Int64) (T F : Nat → Int32) (v : Nat) : Nat → Int32 × Int32
  | 0 => (-1, 0)
  | i + 1 => if tjoin (cs B i) T F v 144 < 256 ∧ ((cbest B T F v i).1 = -1 ∨ cwt B T F v i < (cbest B T F v i).2) then (nI i, cwt B T F v i) else cbest B T F v i
theorem cbest_s (B : Nat → Int64) (T F : Nat → Int32) (v i : Nat) : cbest B T F v (i + 1) = if tjoin (cs B i) T F v 144 < 256 ∧ ((cbest B T F v i).1 = -1 ∨ cwt B T F v i < (cbest B T F v i).2) then (nI i, cwt B T F v i) else cbest B T F v i := rfl
theorem r_ru_bestOf {a w t l n a1 b1 r1 n1 v : Nat} {T F : Nat → Int32} {B : Nat → Int64} (ha : h a = some (ru_c w t l n)) (ht : h t = some (aI G 48 T)) (hf : h l = some (aI G 3 F)) (ha1 : h a1 = some (fo_c b1 r1 n1)) (hb1 : h b1 = some (fo_b G r1 B)) (hr1 : r1 < 2 ^ 20) (hn1 : n1 ≤ r1) (hv : v < 3) :
    Rn G M_ru_bestOf 2 0 0 [.ref a, .ref a1, .int (nI v)] h (ev_qi fun x h' => x = (cbest B T F v n1).1 ∧ h' = h) := by
  refine Rn_of (ls := [some (.ref a), some (.ref a1), some (.int (nI v)), none, none, none, none, none]) rfl rfl (Nat.le_of_ble_eq_true rfl) rfl ?_
  refine ev_iconst (v := (-1)) i_ru_bestOf_0 (by decide) ?_
  refine ev_istore_3 i_ru_bestOf_1 rfl ?_
  refine ev_iconst (v := 0) i_ru_bestOf_2 (by decide) ?_
  refine ev_istore_4 i_ru_bestOf_3 rfl ?_
  refine ev_iconst (v := 0) i_ru_bestOf_5 (by decide) ?_
  refine ev_istore_5 i_ru_bestOf_6 rfl ?_
  have loop : ∀ (m j : Nat) (w6 w7 : Option Value), ev_nl w6 = true → ev_nl w7 = true → j + m = n1 → Ev G M_ru_bestOf 2 0 0 (ev_qi fun x h' => x = (cbest B T F v n1).1 ∧ h' = h) 8 [some (.ref a), some (.ref a1), some (.int (nI v)), some (.int (cbest B T F v j).1), some (.int (cbest B T F v j).2), some (.int (nI j)), w6, w7] [] h := by
    intro m
    induction m with
    | zero =>
      intro j w6 w7 hw6 hw7 hj
      obtain rfl : j = n1 := by omega
      refine ev_iload_5 i_ru_bestOf_8 ?_
      refine ev_aload_1 i_ru_bestOf_10 ?_
      refine ev_vi0 i_ru_bestOf_11 lk_ru_36 cb_fo_size iv_fo_size (r_fo_size ha1) (by repeat (first | assumption | exact va_up_self _ _ _ | refine hu_ne (by first | assumption | exact Ne.symm (by assumption)) ?_)) rfl (by decide) (Nat.le_of_ble_eq_true rfl) rfl rfl (fun x h1 hq => ?_)
      obtain ⟨rfl, rfl⟩ := hq
      refine ev_icmp_ge i_ru_bestOf_14 (fun c_14 => ?_) (fun c_14 => ?_)
      · refine ev_iload_3 i_ru_bestOf_78 ?_
        refine ev_ireturn i_ru_bestOf_79 rfl rfl ?_
        exact ⟨_, rfl, rfl, rfl⟩
      · exact absurd (nI_le (Nat.le_refl _) (by omega)) c_14
    | succ m ih =>
      intro j w6 w7 hw6 hw7 hj
      refine ev_iload_5 i_ru_bestOf_8 ?_
      refine ev_aload_1 i_ru_bestOf_10 ?_
      refine ev_vi0 i_ru_bestOf_11 lk_ru_36 cb_fo_size iv_fo_size (r_fo_size ha1) (by repeat (first | assumption | exact va_up_self _ _ _ | refine hu_ne (by first | assumption | exact Ne.symm (by assumption)) ?_)) rfl (by decide) (Nat.le_of_ble_eq_true rfl) rfl rfl (fun x h1 hq => ?_)
      obtain ⟨rfl, rfl⟩ := hq
      refine ev_icmp_ge i_ru_bestOf_14 (fun c_14 => ?_) (fun c_14 => ?_)
      · exact absurd c_14 (nI_ge (by omega) (by omega))
      refine ev_aload_0 i_ru_bestOf_17 ?_
      refine ev_aload_1 i_ru_bestOf_18 ?_
      refine ev_iload_5 i_ru_bestOf_19 ?_
      refine ev_iload_2 i_ru_bestOf_21 ?_
      refine ev_vi3 i_ru_bestOf_22 lk_ru_40 cb_ru_termsOf iv_ru_termsOf (r_ru_termsOf ha ht hf ha1 hb1 hr1 hn1 (show j < n1 by omega) hv) (by repeat (first | assumption | exact va_up_self _ _ _ | refine hu_ne (by first | assumption | exact Ne.symm (by assumption)) ?_)) rfl (by decide) (Nat.le_of_ble_eq_true rfl) rfl rfl (fun x h2 hq => ?_)
      obtain ⟨rfl, rfl⟩ := hq
      refine ev_istore_6 i_ru_bestOf_25 rfl ?_
      refine ev_iload_6 i_ru_bestOf_27 ?_
      refine ev_ti1 i_ru_bestOf_29 lk_ru_44 cb_jin_bitCount sv_jin_bitCount (r_jin_bitCount) (by decide) (Nat.le_of_ble_eq_true rfl) rfl rfl (fun x h2 hq => ?_)
      obtain ⟨rfl, rfl⟩ := hq
      refine ev_sipush (v := 145) i_ru_bestOf_32 (by decide) ?_
      refine ev_imul i_ru_bestOf_35 ?_
      refine ev_aload_1 i_ru_bestOf_36 ?_
      refine ev_iload_5 i_ru_bestOf_37 ?_
      refine ev_vi1 i_ru_bestOf_39 lk_ru_50 cb_fo_pairCount iv_fo_pairCount (r_fo_pairCount ha1 hb1 hr1 hn1 (show j < n1 by omega)) (by repeat (first | assumption | exact va_up_self _ _ _ | refine hu_ne (by first | assumption | exact Ne.symm (by assumption)) ?_)) rfl (by decide) (Nat.le_of_ble_eq_true rfl) rfl rfl (fun x h2 hq => ?_)
      obtain ⟨rfl, rfl⟩ := hq
      have nx := ih (j + 1) (some (.int (tjoin (cs B j) T F v 144))) (some (.int (cwt B T F v j))) rfl rfl (by omega)
      rw [cbest_s] at nx
      refine ev_iadd i_ru_bestOf_42 ?_
      refine ev_istore_7 i_ru_bestOf_43 rfl ?_
      refine ev_iload_6 i_ru_bestOf_45 ?_
      refine ev_sipush (v := 256) i_ru_bestOf_47 (by decide) ?_
      refine ev_icmp_ge i_ru_bestOf_50 (fun c_50 => ?_) (fun c_50 => ?_)
      · rw [if_neg (fun z => absurd z.1 (Int32.not_lt.mpr c_50))] at nx
        refine ev_iinc_5 i_ru_bestOf_72 (nI_1 j) rfl ?_
        refine ev_goto i_ru_bestOf_75 ?_
        exact nx
      have hlt := Int32.not_le.mp c_50
      refine ev_iload_3 i_ru_bestOf_53 ?_
      refine ev_iconst (v := (-1)) i_ru_bestOf_54 (by decide) ?_
      refine ev_icmp_eq i_ru_bestOf_55 (fun c_55 => ?_) (fun c_55 => ?_)
      · rw [if_pos ⟨hlt, Or.inl c_55⟩] at nx
        refine ev_iload_5 i_ru_bestOf_65 ?_
        refine ev_istore_3 i_ru_bestOf_67 rfl ?_
        refine ev_iload_7 i_ru_bestOf_68 ?_
        refine ev_istore_4 i_ru_bestOf_70 rfl ?_
        refine ev_iinc_5 i_ru_bestOf_72 (nI_1 j) rfl ?_
        refine ev_goto i_ru_bestOf_75 ?_
        exact nx
      refine ev_iload_7 i_ru_bestOf_58 ?_
      refine ev_iload_4 i_ru_bestOf_60 ?_
      refine ev_icmp_ge i_ru_bestOf_62 (fun c_62 => ?_) (fun c_62 => ?_)
      · rw [if_neg (fun z => z.2.elim c_55 (fun q => absurd q (Int32.not_lt.mpr c_62)))] at nx
        refine ev_iinc_5 i_ru_bestOf_72 (nI_1 j) rfl ?_
        refine ev_goto i_ru_bestOf_75 ?_
        exact nx
      · rw [if_pos ⟨hlt, Or.inr (Int32.not_le.mp c_62)⟩] at nx
        refine ev_iload_5 i_ru_bestOf_65 ?_
        refine ev_istore_3 i_ru_bestOf_67 rfl ?_
        refine ev_iload_7 i_ru_bestOf_68 ?_
        refine ev_istore_4 i_ru_bestOf_70 rfl ?_
        refine ev_iinc_5 i_ru_bestOf_72 (nI_1 j) rfl ?_
        refine ev_goto i_ru_bestOf_75 ?_
        exact nx
  exact loop n1 0 none none rfl rfl (by omega)
/-- SCORE, as the class computes it -/
def cscore (x y : Int64) : Int32 := if bcl (x ||| y) = 0 then 0 else 100 * bcl (x &&& y) / bcl (x ||| y)
theorem r_ru_scoreOf {a w t l n i : Nat} {W : Nat → Int64} {x : Int64} (ha : h a = some (ru_c w t l n)) (hw : h w = some (aL G 16 W)) (hi : i < 16) :
    Rn G M_ru_scoreOf 1 0 0 [.ref a, .long x, .int (nI i)] h (ev_qi fun v h' => v = cscore x (W i) ∧ h' = h) := by
  refine Rn_of (ls := [some (.ref a), some (.long x), none, some (.int (nI i)), none]) rfl rfl (Nat.le_of_ble_eq_true rfl) rfl ?_
  refine ev_lload_1 i_ru_scoreOf_0 ?_
  refine ev_aload_0 i_ru_scoreOf_1 ?_
  refine ev_get i_ru_scoreOf_2 fl_ru_9 (by repeat (first | assumption | exact va_up_self _ _ _ | refine hu_ne (by first | assumption | exact Ne.symm (by assumption)) ?_)) rfl ?_
  refine ev_iload_3 i_ru_scoreOf_5 ?_
  refine ev_laload i_ru_scoreOf_6 ty_long (by repeat (first | assumption | exact va_up_self _ _ _ | refine hu_ne (by first | assumption | exact Ne.symm (by assumption)) ?_)) (j := i) rfl (by omega) (by omega) ?_
  refine ev_lor i_ru_scoreOf_7 ?_
  refine ev_ti1 i_ru_scoreOf_8 lk_ru_53 cb_jlo_bitCount sv_jlo_bitCount (r_jlo_bitCount) (by decide) (Nat.le_of_ble_eq_true rfl) rfl rfl (fun v h1 hq => ?_)
  obtain ⟨rfl, rfl⟩ := hq
  refine ev_istore_4 i_ru_scoreOf_11 rfl ?_
  refine ev_iload_4 i_ru_scoreOf_13 ?_
  refine ev_if_ne i_ru_scoreOf_15 (fun c_15 => ?_) (fun c_15 => ?_)
  rotate_left
  · refine ev_iconst (v := 0) i_ru_scoreOf_18 (by decide) ?_
    refine ev_goto i_ru_scoreOf_19 ?_
    refine ev_ireturn i_ru_scoreOf_39 rfl rfl ?_
    exact ⟨_, rfl, by unfold cscore; rw [if_pos c_15], rfl⟩
  · refine ev_bipush (v := 100) i_ru_scoreOf_22 (by decide) ?_
    refine ev_lload_1 i_ru_scoreOf_24 ?_
    refine ev_aload_0 i_ru_scoreOf_25 ?_
    refine ev_get i_ru_scoreOf_26 fl_ru_9 (by repeat (first | assumption | exact va_up_self _ _ _ | refine hu_ne (by first | assumption | exact Ne.symm (by assumption)) ?_)) rfl ?_
    refine ev_iload_3 i_ru_scoreOf_29 ?_
    refine ev_laload i_ru_scoreOf_30 ty_long (by repeat (first | assumption | exact va_up_self _ _ _ | refine hu_ne (by first | assumption | exact Ne.symm (by assumption)) ?_)) (j := i) rfl (by omega) (by omega) ?_
    refine ev_land i_ru_scoreOf_31 ?_
    refine ev_ti1 i_ru_scoreOf_32 lk_ru_53 cb_jlo_bitCount sv_jlo_bitCount (r_jlo_bitCount) (by decide) (Nat.le_of_ble_eq_true rfl) rfl rfl (fun v h2 hq => ?_)
    obtain ⟨rfl, rfl⟩ := hq
    refine ev_imul i_ru_scoreOf_35 ?_
    refine ev_iload_4 i_ru_scoreOf_36 ?_
    refine ev_idiv i_ru_scoreOf_38 c_15 ?_
    refine ev_ireturn i_ru_scoreOf_39 rfl rfl ?_
    exact ⟨_, rfl, by unfold cscore; rw [if_neg c_15], rfl⟩
end RU2
