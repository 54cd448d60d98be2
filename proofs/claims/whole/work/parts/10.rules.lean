section RU
variable {G : ev_G} {h : ev_H}
abbrev ru_c (w t l n : Nat) : va_E := .inr (4, [.ref w, .ref t, .ref l, .int (nI n)])
abbrev aL (G : ev_G) (n : Nat) (f : Nat → Int64) : va_E := .inl (G.2 1, n, .inr (.inl f))
abbrev aI (G : ev_G) (n : Nat) (f : Nat → Int32) : va_E := .inl (G.2 0, n, .inl f)
def ru_at (G : ev_G) (h : ev_H) (a w t l n : Nat) (W : Nat → Int64) (T F : Nat → Int32) : Prop := h a = some (ru_c w t l n) ∧ h w = some (aL G 16 W) ∧ h t = some (aI G 48 T) ∧ h l = some (aI G 3 F) ∧ n ≤ 16
theorem r_ru_init {a : Nat} (ha : h a = some (.inr (4, [.null, .null, .null, .int 0]))) :
    Rn G M_ru_init 1 3 67 [.ref a] h (ev_qv fun h' => ∃ w t l : Nat, (w ≠ a ∧ t ≠ a ∧ l ≠ a ∧ t ≠ w ∧ l ≠ w ∧ l ≠ t) ∧ h w = none ∧ h t = none ∧ h l = none ∧ h' = va_up (va_up (va_up (va_up h w (some (aL G 16 (fun _ => 0)))) t (some (aI G 48 (fun _ => 0)))) l (some (aI G 3 (fun _ => 0)))) a (some (ru_c w t l 0))) := by
  refine Rn_of (ls := [some (.ref a)]) rfl rfl (Nat.le_of_ble_eq_true rfl) rfl ?_
  refine ev_aload_0 i_ru_init_0 ?_
  refine ev_obj i_ru_init_1 ob_ru_3 ob_2 ob_3 (by decide) (Nat.le_of_ble_eq_true rfl) ?_
  refine ev_aload_0 i_ru_init_4 ?_
  refine ev_bipush (v := 16) i_ru_init_5 (by decide) ?_
  refine ev_newa (N := 16) (a0 := (16, .inr (.inl (fun _ => 0)))) (kc' := 2) (ks' := 51) i_ru_init_7 rfl ty_long ac_long (fun _ => rfl) rfl (by omega) rfl (by omega) (fun w hw => ?_)
  have hwa : w ≠ a := by intro e; subst e; rw [ha] at hw; cases hw
  refine ev_put i_ru_init_9 pl_ru_init_9 (by repeat (first | assumption | exact va_up_self _ _ _ | refine hu_ne (by first | assumption | exact Ne.symm (by assumption)) ?_)) rfl rfl (Nat.le_of_ble_eq_true rfl) rfl ?_
  refine ev_aload_0 i_ru_init_12 ?_
  refine ev_bipush (v := 48) i_ru_init_13 (by decide) ?_
  refine ev_newa (N := 48) (a0 := (48, .inl (fun _ => 0))) (kc' := 1) (ks' := 3) i_ru_init_15 rfl ty_int ac_int (fun _ => rfl) rfl (by omega) rfl (by omega) (fun t ht => ?_)
  have hta : t ≠ a := by intro e; subst e; rw [va_up_self] at ht; cases ht
  rw [va_up_ne _ _ hta] at ht
  have htw : t ≠ w := by intro e; subst e; rw [va_up_self] at ht; cases ht
  rw [va_up_ne _ _ htw] at ht
  refine ev_put i_ru_init_17 pl_ru_init_15 (by repeat (first | assumption | exact va_up_self _ _ _ | refine hu_ne (by first | assumption | exact Ne.symm (by assumption)) ?_)) rfl rfl (Nat.le_of_ble_eq_true rfl) rfl ?_
  refine ev_aload_0 i_ru_init_20 ?_
  refine ev_iconst (v := 3) i_ru_init_21 (by decide) ?_
  refine ev_newa (N := 3) (a0 := (3, .inl (fun _ => 0))) (kc' := 0) (ks' := 0) i_ru_init_22 rfl ty_int ac_int (fun _ => rfl) rfl (by omega) rfl (by omega) (fun l hl => ?_)
  have hla : l ≠ a := by intro e; subst e; rw [va_up_self] at hl; cases hl
  rw [va_up_ne _ _ hla] at hl
  have hlt : l ≠ t := by intro e; subst e; rw [va_up_self] at hl; cases hl
  rw [va_up_ne _ _ hlt, va_up_ne _ _ hla] at hl
  have hlw : l ≠ w := by intro e; subst e; rw [va_up_self] at hl; cases hl
  rw [va_up_ne _ _ hlw] at hl
  refine ev_put i_ru_init_24 pl_ru_init_19 (by repeat (first | assumption | exact va_up_self _ _ _ | refine hu_ne (by first | assumption | exact Ne.symm (by assumption)) ?_)) rfl rfl (Nat.le_of_ble_eq_true rfl) rfl ?_
  refine ev_aload_0 i_ru_init_27 ?_
  refine ev_iconst (v := 0) i_ru_init_28 (by decide) ?_
  refine ev_put i_ru_init_29 pl_ru_init_22 (by repeat (first | assumption | exact va_up_self _ _ _ | refine hu_ne (by first | assumption | exact Ne.symm (by assumption)) ?_)) rfl rfl (Nat.le_of_ble_eq_true rfl) rfl ?_
  refine ev_return i_ru_init_32 rfl ?_
  refine ⟨rfl, w, t, l, ⟨hwa, hta, hla, htw, hlw, hlt⟩, hw, ht, hl, ?_⟩
  simp only [hu_uu]
  rw [hu_comm (Ne.symm hta)]
  simp only [hu_uu]
  rw [hu_comm (Ne.symm hla)]
  simp only [hu_uu]
  rfl
theorem r_ru_licenceCount {a w t l n : Nat} (ha : h a = some (ru_c w t l n)) : Rn G M_ru_licenceCount 0 0 0 [.ref a] h (ev_qi fun x h' => x = nI n ∧ h' = h) := by
  refine Rn_of (ls := [some (.ref a)]) rfl rfl (Nat.le_of_ble_eq_true rfl) rfl ?_
  refine ev_aload_0 i_ru_licenceCount_0 ?_
  refine ev_get i_ru_licenceCount_1 fl_ru_22 (by repeat (first | assumption | exact va_up_self _ _ _ | refine hu_ne (by first | assumption | exact Ne.symm (by assumption)) ?_)) rfl ?_
  refine ev_ireturn i_ru_licenceCount_4 rfl rfl ?_
  exact ⟨_, rfl, rfl, rfl⟩
theorem r_ru_addLicence {a w t l n : Nat} {W : Nat → Int64} {x : Int64} (ha : h a = some (ru_c w t l n)) (hw : h w = some (aL G 16 W)) (hn : n ≤ 16) :
    Rn G M_ru_addLicence 0 0 0 [.ref a, .long x] h (ev_qi fun v h' => if n < 16 then v = nI n ∧ h' = va_up (va_up h w (some (aL G 16 (vp_updL W n x)))) a (some (ru_c w t l (n + 1))) else v = -1 ∧ h' = h) := by
  have haw : a ≠ w := by intro e; subst e; rw [ha] at hw; cases hw
  refine Rn_of (ls := [some (.ref a), some (.long x), none]) rfl rfl (Nat.le_of_ble_eq_true rfl) rfl ?_
  refine ev_aload_0 i_ru_addLicence_0 ?_
  refine ev_get i_ru_addLicence_1 fl_ru_22 (by repeat (first | assumption | exact va_up_self _ _ _ | refine hu_ne (by first | assumption | exact Ne.symm (by assumption)) ?_)) rfl ?_
  refine ev_bipush (v := 16) i_ru_addLicence_4 (by decide) ?_
  refine ev_icmp_lt i_ru_addLicence_6 (fun c_6 => ?_) (fun c_6 => ?_)
  rotate_left
  · have : ¬ n < 16 := fun z => c_6 (show nI n < nI 16 from nI_lt z (by omega))
    refine ev_iconst (v := (-1)) i_ru_addLicence_9 (by decide) ?_
    refine ev_ireturn i_ru_addLicence_10 rfl rfl ?_
    exact ⟨_, rfl, by dsimp only; rw [if_neg this]; exact ⟨rfl, rfl⟩⟩
  have hlt : n < 16 := by
    rcases Nat.lt_or_ge n 16 with z | z
    · exact z
    · exact absurd c_6 (show ¬ nI n < nI 16 from nI_nlt z (by omega))
  refine ev_aload_0 i_ru_addLicence_11 ?_
  refine ev_get i_ru_addLicence_12 fl_ru_9 (by repeat (first | assumption | exact va_up_self _ _ _ | refine hu_ne (by first | assumption | exact Ne.symm (by assumption)) ?_)) rfl ?_
  refine ev_aload_0 i_ru_addLicence_15 ?_
  refine ev_get i_ru_addLicence_16 fl_ru_22 (by repeat (first | assumption | exact va_up_self _ _ _ | refine hu_ne (by first | assumption | exact Ne.symm (by assumption)) ?_)) rfl ?_
  refine ev_lload_1 i_ru_addLicence_19 ?_
  refine ev_lastore i_ru_addLicence_20 ty_long (by repeat (first | assumption | exact va_up_self _ _ _ | refine hu_ne (by first | assumption | exact Ne.symm (by assumption)) ?_)) (j := n) rfl (by omega) (by omega) ?_
  refine ev_aload_0 i_ru_addLicence_21 ?_
  refine ev_dup i_ru_addLicence_22 rfl ?_
  refine ev_get i_ru_addLicence_23 fl_ru_22 (by repeat (first | assumption | exact va_up_self _ _ _ | refine hu_ne (by first | assumption | exact Ne.symm (by assumption)) ?_)) rfl ?_
  refine ev_iconst (v := 1) i_ru_addLicence_26 (by decide) ?_
  refine ev_iadd i_ru_addLicence_27 ?_
  refine ev_top (nI_1 n) ?_
  refine ev_put i_ru_addLicence_28 pl_ru_addLicence_22 (by repeat (first | assumption | exact va_up_self _ _ _ | refine hu_ne (by first | assumption | exact Ne.symm (by assumption)) ?_)) rfl rfl (Nat.le_of_ble_eq_true rfl) rfl ?_
  refine ev_aload_0 i_ru_addLicence_31 ?_
  refine ev_get i_ru_addLicence_32 fl_ru_22 (by repeat (first | assumption | exact va_up_self _ _ _ | refine hu_ne (by first | assumption | exact Ne.symm (by assumption)) ?_)) rfl ?_
  refine ev_iconst (v := 1) i_ru_addLicence_35 (by decide) ?_
  refine ev_isub i_ru_addLicence_36 ?_
  refine ev_top (nI_pred n) ?_
  refine ev_ireturn i_ru_addLicence_37 rfl rfl ?_
  exact ⟨_, rfl, by dsimp only; rw [if_pos hlt]; exact ⟨rfl, rfl⟩⟩
theorem r_ru_hasLicence {a w t l n : Nat} {x : Int32} (ha : h a = some (ru_c w t l n)) : Rn G M_ru_hasLicence 0 0 0 [.ref a, .int x] h (ev_qi fun v h' => v = (if 0 ≤ x ∧ x < nI n then 1 else 0) ∧ h' = h) := by
  refine Rn_of (ls := [some (.ref a), some (.int x)]) rfl rfl (Nat.le_of_ble_eq_true rfl) rfl ?_
  refine ev_iload_1 i_ru_hasLicence_0 ?_
  refine ev_if_lt i_ru_hasLicence_1 (fun c_1 => ?_) (fun c_1 => ?_)
  · refine ev_iconst (v := 0) i_ru_hasLicence_16 (by decide) ?_
    refine ev_ireturn i_ru_hasLicence_17 rfl rfl ?_
    exact ⟨_, rfl, by rw [if_neg]; intro z; exact absurd z.1 (Int32.not_le.mpr c_1), rfl⟩
  refine ev_iload_1 i_ru_hasLicence_4 ?_
  refine ev_aload_0 i_ru_hasLicence_5 ?_
  refine ev_get i_ru_hasLicence_6 fl_ru_22 (by repeat (first | assumption | exact va_up_self _ _ _ | refine hu_ne (by first | assumption | exact Ne.symm (by assumption)) ?_)) rfl ?_
  refine ev_icmp_ge i_ru_hasLicence_9 (fun c_9 => ?_) (fun c_9 => ?_)
  · refine ev_iconst (v := 0) i_ru_hasLicence_16 (by decide) ?_
    refine ev_ireturn i_ru_hasLicence_17 rfl rfl ?_
    exact ⟨_, rfl, by rw [if_neg]; intro z; exact absurd z.2 (Int32.not_lt.mpr c_9), rfl⟩
  · refine ev_iconst (v := 1) i_ru_hasLicence_12 (by decide) ?_
    refine ev_goto i_ru_hasLicence_13 ?_
    refine ev_ireturn i_ru_hasLicence_17 rfl rfl ?_
    exact ⟨_, rfl, by rw [if_pos]; exact ⟨Int32.not_lt.mp c_1, Int32.not_le.mp c_9⟩, rfl⟩
theorem r_ru_setTerms {a w t l n i v : Nat} {T : Nat → Int32} {x : Int32} (ha : h a = some (ru_c w t l n)) (ht : h t = some (aI G 48 T)) (hi : i < 16) (hv : v < 3) :
    Rn G M_ru_setTerms 0 0 0 [.ref a, .int (nI i), .int (nI v), .int x] h (ev_qv fun h' => h' = va_up h t (some (aI G 48 (upd T (3 * i + v) x)))) := by
  refine Rn_of (ls := [some (.ref a), some (.int (nI i)), some (.int (nI v)), some (.int x)]) rfl rfl (Nat.le_of_ble_eq_true rfl) rfl ?_
  refine ev_aload_0 i_ru_setTerms_0 ?_
  refine ev_get i_ru_setTerms_1 fl_ru_15 (by repeat (first | assumption | exact va_up_self _ _ _ | refine hu_ne (by first | assumption | exact Ne.symm (by assumption)) ?_)) rfl ?_
  refine ev_iload_1 i_ru_setTerms_4 ?_
  refine ev_iconst (v := 3) i_ru_setTerms_5 (by decide) ?_
  refine ev_imul i_ru_setTerms_6 ?_
  refine ev_iload_2 i_ru_setTerms_7 ?_
  refine ev_iadd i_ru_setTerms_8 ?_
  refine ev_iload_3 i_ru_setTerms_9 ?_
  refine ev_iastore i_ru_setTerms_10 ty_int (by repeat (first | assumption | exact va_up_self _ _ _ | refine hu_ne (by first | assumption | exact Ne.symm (by assumption)) ?_)) (j := 3 * i + v) (by rw [nI_3, pk_mul, nI_add, Nat.mul_comm]) (by omega) (by omega) ?_
  refine ev_return i_ru_setTerms_11 rfl ?_
  exact ⟨rfl, rfl⟩
/-- what setLifted makes of a way's bits -/
def slift (f : Int32) (e : Nat) (on : Bool) : Int32 := if on then f ||| ((1 : Int32) <<< (nI e &&& 31)) else f &&& (((1 : Int32) <<< (nI e &&& 31)) ^^^ (-1))
theorem r_ru_setLifted {a w t l n e v : Nat} {F : Nat → Int32} {x : Int32} (ha : h a = some (ru_c w t l n)) (hf : h l = some (aI G 3 F)) (hv : v < 3) :
    Rn G M_ru_setLifted 0 0 0 [.ref a, .int (nI e), .int (nI v), .int x] h (ev_qv fun h' => h' = va_up h l (some (aI G 3 (upd F v (slift (F v) e (decide (¬ x = 0))))))) := by
  refine Rn_of (ls := [some (.ref a), some (.int (nI e)), some (.int (nI v)), some (.int x), none]) rfl rfl (Nat.le_of_ble_eq_true rfl) rfl ?_
  refine ev_iconst (v := 1) i_ru_setLifted_0 (by decide) ?_
  refine ev_iload_1 i_ru_setLifted_1 ?_
  refine ev_ishl i_ru_setLifted_2 ?_
  refine ev_istore_4 i_ru_setLifted_3 rfl ?_
  refine ev_aload_0 i_ru_setLifted_5 ?_
  refine ev_get i_ru_setLifted_6 fl_ru_19 (by repeat (first | assumption | exact va_up_self _ _ _ | refine hu_ne (by first | assumption | exact Ne.symm (by assumption)) ?_)) rfl ?_
  refine ev_iload_2 i_ru_setLifted_9 ?_
  refine ev_iload_3 i_ru_setLifted_10 ?_
  refine ev_if_eq i_ru_setLifted_11 (fun c_11 => ?_) (fun c_11 => ?_)
  · refine ev_aload_0 i_ru_setLifted_26 ?_
    refine ev_get i_ru_setLifted_27 fl_ru_19 (by repeat (first | assumption | exact va_up_self _ _ _ | refine hu_ne (by first | assumption | exact Ne.symm (by assumption)) ?_)) rfl ?_
    refine ev_iload_2 i_ru_setLifted_30 ?_
    refine ev_iaload i_ru_setLifted_31 ty_int (by repeat (first | assumption | exact va_up_self _ _ _ | refine hu_ne (by first | assumption | exact Ne.symm (by assumption)) ?_)) (j := v) rfl (by omega) (by omega) ?_
    refine ev_iload_4 i_ru_setLifted_32 ?_
    refine ev_iconst (v := (-1)) i_ru_setLifted_34 (by decide) ?_
    refine ev_ixor i_ru_setLifted_35 ?_
    refine ev_iand i_ru_setLifted_36 ?_
    refine ev_iastore i_ru_setLifted_37 ty_int (by repeat (first | assumption | exact va_up_self _ _ _ | refine hu_ne (by first | assumption | exact Ne.symm (by assumption)) ?_)) (j := v) rfl (by omega) (by omega) ?_
    refine ev_return i_ru_setLifted_38 rfl ?_
    exact ⟨rfl, by rw [decide_eq_false (fun z => z c_11)]; rfl⟩
  · refine ev_aload_0 i_ru_setLifted_14 ?_
    refine ev_get i_ru_setLifted_15 fl_ru_19 (by repeat (first | assumption | exact va_up_self _ _ _ | refine hu_ne (by first | assumption | exact Ne.symm (by assumption)) ?_)) rfl ?_
    refine ev_iload_2 i_ru_setLifted_18 ?_
    refine ev_iaload i_ru_setLifted_19 ty_int (by repeat (first | assumption | exact va_up_self _ _ _ | refine hu_ne (by first | assumption | exact Ne.symm (by assumption)) ?_)) (j := v) rfl (by omega) (by omega) ?_
    refine ev_iload_4 i_ru_setLifted_20 ?_
    refine ev_ior i_ru_setLifted_22 ?_
    refine ev_goto i_ru_setLifted_23 ?_
    refine ev_iastore i_ru_setLifted_37 ty_int (by repeat (first | assumption | exact va_up_self _ _ _ | refine hu_ne (by first | assumption | exact Ne.symm (by assumption)) ?_)) (j := v) rfl (by omega) (by omega) ?_
    refine ev_return i_ru_setLifted_38 rfl ?_
    exact ⟨rfl, by rw [decide_eq_true c_11]; rfl⟩
/-- what a pair is in a way: 0, its duties, or 256 -/
def tcode (T F : Nat → Int32) (w c : Nat) : Int32 := if 0 < c % 9 ∧ ¬ ((F w >>> (nI (c % 9 - 1) &&& 31)) &&& 1) = 0 then 0 else T (3 * (c / 9) + w)
theorem nI_rem9 {c : Nat} (hc : c < 2 ^ 31) : nI c - nI c / 9 * 9 = nI (c % 9) := pk_rem (d := 9) hc (by omega) (by omega)
theorem nI_div9 {c : Nat} (hc : c < 2 ^ 31) : nI c / 9 = nI (c / 9) := pk_div (d := 9) hc (by omega) (by omega)
theorem r_ru_termsOfCode {a w t l n c v : Nat} {T F : Nat → Int32} (ha : h a = some (ru_c w t l n)) (ht : h t = some (aI G 48 T)) (hf : h l = some (aI G 3 F)) (hc : c < 144) (hv : v < 3) :
    Rn G M_ru_termsOfCode 0 0 0 [.ref a, .int (nI c), .int (nI v)] h (ev_qi fun x h' => x = tcode T F v c ∧ h' = h) := by
  have tail : ¬ (0 < c % 9 ∧ ¬ ((F v >>> (nI (c % 9 - 1) &&& 31)) &&& 1) = 0) → Ev G M_ru_termsOfCode 0 0 0 (ev_qi fun x h' => x = tcode T F v c ∧ h' = h) 26 [some (.ref a), some (.int (nI c)), some (.int (nI v)), some (.int (nI (c % 9)))] [] h := by
    intro hn
    refine ev_aload_0 i_ru_termsOfCode_26 ?_
    refine ev_get i_ru_termsOfCode_27 fl_ru_15 (by repeat (first | assumption | exact va_up_self _ _ _ | refine hu_ne (by first | assumption | exact Ne.symm (by assumption)) ?_)) rfl ?_
    refine ev_iload_1 i_ru_termsOfCode_30 ?_
    refine ev_bipush (v := 9) i_ru_termsOfCode_31 (by decide) ?_
    refine ev_idiv i_ru_termsOfCode_33 (by decide) ?_
    refine ev_iconst (v := 3) i_ru_termsOfCode_34 (by decide) ?_
    refine ev_imul i_ru_termsOfCode_35 ?_
    refine ev_iload_2 i_ru_termsOfCode_36 ?_
    refine ev_iadd i_ru_termsOfCode_37 ?_
    refine ev_iaload i_ru_termsOfCode_38 ty_int (by repeat (first | assumption | exact va_up_self _ _ _ | refine hu_ne (by first | assumption | exact Ne.symm (by assumption)) ?_)) (j := 3 * (c / 9) + v) (by rw [nI_div9 (by omega), nI_3, pk_mul, nI_add, Nat.mul_comm]) (by omega) (by omega) ?_
    refine ev_ireturn i_ru_termsOfCode_39 rfl rfl ?_
    exact ⟨_, rfl, by unfold tcode; rw [if_neg hn], rfl⟩
  refine Rn_of (ls := [some (.ref a), some (.int (nI c)), some (.int (nI v)), none]) rfl rfl (Nat.le_of_ble_eq_true rfl) rfl ?_
  refine ev_iload_1 i_ru_termsOfCode_0 ?_
  refine ev_bipush (v := 9) i_ru_termsOfCode_1 (by decide) ?_
  refine ev_irem i_ru_termsOfCode_3 (by decide) ?_
  refine ev_top (nI_rem9 (by omega)) ?_
  refine ev_istore_3 i_ru_termsOfCode_4 rfl ?_
  refine ev_iload_3 i_ru_termsOfCode_5 ?_
  refine ev_if_le i_ru_termsOfCode_6 (fun c_6 => ?_) (fun c_6 => ?_)
  · refine tail (fun z => ?_)
    exact absurd c_6 (nI_nle z.1 (by omega))
  have hpos : 0 < c % 9 := by
    rcases Nat.eq_zero_or_pos (c % 9) with z | z
    · rw [z] at c_6; exact absurd (by decide) c_6
    · exact z
  refine ev_aload_0 i_ru_termsOfCode_9 ?_
  refine ev_get i_ru_termsOfCode_10 fl_ru_19 (by repeat (first | assumption | exact va_up_self _ _ _ | refine hu_ne (by first | assumption | exact Ne.symm (by assumption)) ?_)) rfl ?_
  refine ev_iload_2 i_ru_termsOfCode_13 ?_
  refine ev_iaload i_ru_termsOfCode_14 ty_int (by repeat (first | assumption | exact va_up_self _ _ _ | refine hu_ne (by first | assumption | exact Ne.symm (by assumption)) ?_)) (j := v) rfl (by omega) (by omega) ?_
  refine ev_iload_3 i_ru_termsOfCode_15 ?_
  refine ev_iconst (v := 1) i_ru_termsOfCode_16 (by decide) ?_
  refine ev_isub i_ru_termsOfCode_17 ?_
  refine ev_ishr i_ru_termsOfCode_18 ?_
  refine ev_iconst (v := 1) i_ru_termsOfCode_19 (by decide) ?_
  refine ev_iand i_ru_termsOfCode_20 ?_
  refine ev_if_eq i_ru_termsOfCode_21 (fun c_21 => ?_) (fun c_21 => ?_)
  · refine tail (fun z => ?_)
    refine z.2 ?_
    rw [← c_21]
    rw [show nI (c % 9) - 1 = nI (c % 9 - 1) from by
      have := nI_pred (c % 9 - 1)
      rw [show c % 9 - 1 + 1 = c % 9 by omega] at this
      exact this]
  · refine ev_iconst (v := 0) i_ru_termsOfCode_24 (by decide) ?_
    refine ev_ireturn i_ru_termsOfCode_25 rfl rfl ?_
    refine ⟨_, rfl, ?_, rfl⟩
    unfold tcode
    rw [if_pos]
    refine ⟨hpos, fun z => c_21 ?_⟩
    rw [← z]
    rw [show nI (c % 9) - 1 = nI (c % 9 - 1) from by
      have := nI_pred (c % 9 - 1)
      rw [show c % 9 - 1 + 1 = c % 9 by omega] at this
      exact this]
/-- what a choice is in a way: the terms of its pairs joined -/
def tjoin (S : Nat → Bool) (T F : Nat → Int32) (w : Nat) : Nat → Int32
  | 0 => 0
  | c + 1 => if S c then tjoin S T F w c ||| tcode T F w c else tjoin S T F w c
theorem r_ru_termsOf {a w t l n a1 b1 r1 n1 p v : Nat} {T F : Nat → Int32} {B : Nat → Int64} (ha : h a = some (ru_c w t l n)) (ht : h t = some (aI G 48 T)) (hf : h l = some (aI G 3 F)) (ha1 : h a1 = some (fo_c b1 r1 n1)) (hb1 : h b1 = some (fo_b G r1 B)) (hr1 : r1 < 2 ^ 20) (hn1 : n1 ≤ r1) (hp : p < n1) (hv : v < 3) :
    Rn G M_ru_termsOf 1 0 0 [.ref a, .ref a1, .int (nI p), .int (nI v)] h (ev_qi fun x h' => x = tjoin (cs B p) T F v 144 ∧ h' = h) := by
  refine Rn_of (ls := [some (.ref a), some (.ref a1), some (.int (nI p)), some (.int (nI v)), none, none]) rfl rfl (Nat.le_of_ble_eq_true rfl) rfl ?_
  refine ev_iconst (v := 0) i_ru_termsOf_0 (by decide) ?_
  refine ev_istore_4 i_ru_termsOf_1 rfl ?_
  refine ev_iconst (v := 0) i_ru_termsOf_3 (by decide) ?_
  refine ev_istore_5 i_ru_termsOf_4 rfl ?_
  have loop : ∀ m j : Nat, j + m = 144 → Ev G M_ru_termsOf 1 0 0 (ev_qi fun x h' => x = tjoin (cs B p) T F v 144 ∧ h' = h) 6 [some (.ref a), some (.ref a1), some (.int (nI p)), some (.int (nI v)), some (.int (tjoin (cs B p) T F v j)), some (.int (nI j))] [] h := by
    intro m
    induction m with
    | zero =>
      intro j hj
      obtain rfl : j = 144 := by omega
      refine ev_iload_5 i_ru_termsOf_6 ?_
      refine ev_sipush (v := 144) i_ru_termsOf_8 (by decide) ?_
      refine ev_icmp_ge i_ru_termsOf_11 (fun c_11 => ?_) (fun c_11 => ?_)
      · refine ev_iload_4 i_ru_termsOf_42 ?_
        refine ev_ireturn i_ru_termsOf_44 rfl rfl ?_
        exact ⟨_, rfl, rfl, rfl⟩
      · exact absurd (by decide) c_11
    | succ m ih =>
      intro j hj
      refine ev_iload_5 i_ru_termsOf_6 ?_
      refine ev_sipush (v := 144) i_ru_termsOf_8 (by decide) ?_
      refine ev_icmp_ge i_ru_termsOf_11 (fun c_11 => ?_) (fun c_11 => ?_)
      · exact absurd c_11 (show ¬ nI 144 ≤ nI j from nI_ge (by omega) (by omega))
      refine ev_aload_1 i_ru_termsOf_14 ?_
      refine ev_iload_2 i_ru_termsOf_15 ?_
      refine ev_iload_5 i_ru_termsOf_16 ?_
      refine ev_vi2 i_ru_termsOf_18 lk_ru_26 cb_fo_holds iv_fo_holds (r_fo_holds ha1 hb1 hr1 hn1 hp (show j < 144 by omega)) (by repeat (first | assumption | exact va_up_self _ _ _ | refine hu_ne (by first | assumption | exact Ne.symm (by assumption)) ?_)) rfl (by decide) (Nat.le_of_ble_eq_true rfl) rfl rfl (fun x h1 hq => ?_)
      obtain ⟨rfl, rfl⟩ := hq
      refine ev_if_eq i_ru_termsOf_21 (fun c_21 => ?_) (fun c_21 => ?_)
      · have hS := bn_f (if_10 c_21)
        refine ev_iinc_5 i_ru_termsOf_36 (nI_1 j) rfl ?_
        refine ev_goto i_ru_termsOf_39 ?_
        have := ih (j + 1) (by omega)
        unfold tjoin at this
        rw [hS] at this
        exact this
      · have hS := if_11 c_21
        refine ev_iload_4 i_ru_termsOf_24 ?_
        refine ev_aload_0 i_ru_termsOf_26 ?_
        refine ev_iload_5 i_ru_termsOf_27 ?_
        refine ev_iload_3 i_ru_termsOf_29 ?_
        refine ev_vi2 i_ru_termsOf_30 lk_ru_32 cb_ru_termsOfCode iv_ru_termsOfCode (r_ru_termsOfCode ha ht hf (show j < 144 by omega) hv) (by repeat (first | assumption | exact va_up_self _ _ _ | refine hu_ne (by first | assumption | exact Ne.symm (by assumption)) ?_)) rfl (by decide) (Nat.le_of_ble_eq_true rfl) rfl rfl (fun x h1 hq => ?_)
        obtain ⟨rfl, rfl⟩ := hq
        refine ev_ior i_ru_termsOf_33 ?_
        refine ev_istore_4 i_ru_termsOf_34 rfl ?_
        refine ev_iinc_5 i_ru_termsOf_36 (nI_1 j) rfl ?_
        refine ev_goto i_ru_termsOf_39 ?_
        have := ih (j + 1) (by omega)
        unfold tjoin at this
        rw [hS] at this
        exact this
  exact loop 144 0 (by omega)
end RU
