section JDK
variable {G : ev_G} {h : ev_H}
/-- Long.bitCount and Integer.bitCount, as the JDK computes them -/
def bl_s (k : Int32) (y : Int64) : Int64 := (y.toUInt64 >>> (k.toInt64.toUInt64 &&& Int64.toUInt64 63)).toInt64
def bl_1 (x : Int64) : Int64 := x - (bl_s 1 x &&& 6148914691236517205)
def bl_2 (x : Int64) : Int64 := (x &&& 3689348814741910323) + (bl_s 2 x &&& 3689348814741910323)
def bl_3 (x : Int64) : Int64 := (x + bl_s 4 x) &&& 1085102592571150095
def bl_4 (k : Int32) (x : Int64) : Int64 := x + bl_s k x
def bcl (x : Int64) : Int32 := (bl_4 32 (bl_4 16 (bl_4 8 (bl_3 (bl_2 (bl_1 x)))))).toInt32 &&& 127
theorem r_jlo_bitCount {x : Int64} : Rn G M_jlo_bitCount 0 0 0 [.long x] h (ev_qi fun v h' => v = bcl x ∧ h' = h) := by
  refine Rn_of (ls := [some (.long x), none]) rfl (by decide) (Nat.le_of_ble_eq_true rfl) rfl ?_
  refine ev_lload_0 i_jlo_bitCount_0 ?_
  refine ev_lload_0 i_jlo_bitCount_1 ?_
  refine ev_iconst (v := 1) i_jlo_bitCount_2 (by decide) ?_
  refine ev_lushr i_jlo_bitCount_3 ?_
  refine ev_ldc2 i_jlo_bitCount_4 kc_jlo_314 ?_
  refine ev_land i_jlo_bitCount_7 ?_
  refine ev_lsub i_jlo_bitCount_8 ?_
  refine ev_lstore_0 i_jlo_bitCount_9 ?_
  refine ev_lload_0 i_jlo_bitCount_10 ?_
  refine ev_ldc2 i_jlo_bitCount_11 kc_jlo_316 ?_
  refine ev_land i_jlo_bitCount_14 ?_
  refine ev_lload_0 i_jlo_bitCount_15 ?_
  refine ev_iconst (v := 2) i_jlo_bitCount_16 (by decide) ?_
  refine ev_lushr i_jlo_bitCount_17 ?_
  refine ev_ldc2 i_jlo_bitCount_18 kc_jlo_316 ?_
  refine ev_land i_jlo_bitCount_21 ?_
  refine ev_ladd i_jlo_bitCount_22 ?_
  refine ev_lstore_0 i_jlo_bitCount_23 ?_
  refine ev_lload_0 i_jlo_bitCount_24 ?_
  refine ev_lload_0 i_jlo_bitCount_25 ?_
  refine ev_iconst (v := 4) i_jlo_bitCount_26 (by decide) ?_
  refine ev_lushr i_jlo_bitCount_27 ?_
  refine ev_ladd i_jlo_bitCount_28 ?_
  refine ev_ldc2 i_jlo_bitCount_29 kc_jlo_318 ?_
  refine ev_land i_jlo_bitCount_32 ?_
  refine ev_lstore_0 i_jlo_bitCount_33 ?_
  refine ev_lload_0 i_jlo_bitCount_34 ?_
  refine ev_lload_0 i_jlo_bitCount_35 ?_
  refine ev_bipush (v := 8) i_jlo_bitCount_36 (by decide) ?_
  refine ev_lushr i_jlo_bitCount_38 ?_
  refine ev_ladd i_jlo_bitCount_39 ?_
  refine ev_lstore_0 i_jlo_bitCount_40 ?_
  refine ev_lload_0 i_jlo_bitCount_41 ?_
  refine ev_lload_0 i_jlo_bitCount_42 ?_
  refine ev_bipush (v := 16) i_jlo_bitCount_43 (by decide) ?_
  refine ev_lushr i_jlo_bitCount_45 ?_
  refine ev_ladd i_jlo_bitCount_46 ?_
  refine ev_lstore_0 i_jlo_bitCount_47 ?_
  refine ev_lload_0 i_jlo_bitCount_48 ?_
  refine ev_lload_0 i_jlo_bitCount_49 ?_
  refine ev_bipush (v := 32) i_jlo_bitCount_50 (by decide) ?_
  refine ev_lushr i_jlo_bitCount_52 ?_
  refine ev_ladd i_jlo_bitCount_53 ?_
  refine ev_lstore_0 i_jlo_bitCount_54 ?_
  refine ev_lload_0 i_jlo_bitCount_55 ?_
  refine ev_l2i i_jlo_bitCount_56 ?_
  refine ev_bipush (v := 127) i_jlo_bitCount_57 (by decide) ?_
  refine ev_iand i_jlo_bitCount_59 ?_
  refine ev_ireturn i_jlo_bitCount_60 rfl rfl ?_
  exact ⟨_, rfl, rfl, rfl⟩
def bi_s (k : Int32) (y : Int32) : Int32 := (y.toUInt32 >>> (k.toUInt32 &&& Int32.toUInt32 31)).toInt32
def bi_1 (x : Int32) : Int32 := x - (bi_s 1 x &&& 1431655765)
def bi_2 (x : Int32) : Int32 := (x &&& 858993459) + (bi_s 2 x &&& 858993459)
def bi_3 (x : Int32) : Int32 := (x + bi_s 4 x) &&& 252645135
def bi_4 (k : Int32) (x : Int32) : Int32 := x + bi_s k x
def bci (x : Int32) : Int32 := (bi_4 16 (bi_4 8 (bi_3 (bi_2 (bi_1 x))))) &&& 63
theorem r_jin_bitCount {x : Int32} : Rn G M_jin_bitCount 0 0 0 [.int x] h (ev_qi fun v h' => v = bci x ∧ h' = h) := by
  refine Rn_of (ls := [some (.int x)]) rfl (by decide) (Nat.le_of_ble_eq_true rfl) rfl ?_
  refine ev_iload_0 i_jin_bitCount_0 ?_
  refine ev_iload_0 i_jin_bitCount_1 ?_
  refine ev_iconst (v := 1) i_jin_bitCount_2 (by decide) ?_
  refine ev_iushr i_jin_bitCount_3 ?_
  refine ev_ldcw i_jin_bitCount_4 kc_jin_265 ?_
  refine ev_iand i_jin_bitCount_7 ?_
  refine ev_isub i_jin_bitCount_8 ?_
  refine ev_istore_0 i_jin_bitCount_9 ?_
  refine ev_iload_0 i_jin_bitCount_10 ?_
  refine ev_ldcw i_jin_bitCount_11 kc_jin_266 ?_
  refine ev_iand i_jin_bitCount_14 ?_
  refine ev_iload_0 i_jin_bitCount_15 ?_
  refine ev_iconst (v := 2) i_jin_bitCount_16 (by decide) ?_
  refine ev_iushr i_jin_bitCount_17 ?_
  refine ev_ldcw i_jin_bitCount_18 kc_jin_266 ?_
  refine ev_iand i_jin_bitCount_21 ?_
  refine ev_iadd i_jin_bitCount_22 ?_
  refine ev_istore_0 i_jin_bitCount_23 ?_
  refine ev_iload_0 i_jin_bitCount_24 ?_
  refine ev_iload_0 i_jin_bitCount_25 ?_
  refine ev_iconst (v := 4) i_jin_bitCount_26 (by decide) ?_
  refine ev_iushr i_jin_bitCount_27 ?_
  refine ev_iadd i_jin_bitCount_28 ?_
  refine ev_ldcw i_jin_bitCount_29 kc_jin_267 ?_
  refine ev_iand i_jin_bitCount_32 ?_
  refine ev_istore_0 i_jin_bitCount_33 ?_
  refine ev_iload_0 i_jin_bitCount_34 ?_
  refine ev_iload_0 i_jin_bitCount_35 ?_
  refine ev_bipush (v := 8) i_jin_bitCount_36 (by decide) ?_
  refine ev_iushr i_jin_bitCount_38 ?_
  refine ev_iadd i_jin_bitCount_39 ?_
  refine ev_istore_0 i_jin_bitCount_40 ?_
  refine ev_iload_0 i_jin_bitCount_41 ?_
  refine ev_iload_0 i_jin_bitCount_42 ?_
  refine ev_bipush (v := 16) i_jin_bitCount_43 (by decide) ?_
  refine ev_iushr i_jin_bitCount_45 ?_
  refine ev_iadd i_jin_bitCount_46 ?_
  refine ev_istore_0 i_jin_bitCount_47 ?_
  refine ev_iload_0 i_jin_bitCount_48 ?_
  refine ev_bipush (v := 63) i_jin_bitCount_49 (by decide) ?_
  refine ev_iand i_jin_bitCount_51 ?_
  refine ev_ireturn i_jin_bitCount_52 rfl rfl ?_
  exact ⟨_, rfl, rfl, rfl⟩
/-- how many pairs a choice has -/
def pcn (x : T3) : Int32 := 0 + bcl x.1 + bcl x.2.1 + bcl x.2.2
theorem r_fo_pairCount {a b r n p : Nat} {B : Nat → Int64} (ha : h a = some (fo_c b r n)) (hb : h b = some (fo_b G r B)) (hr : r < 2 ^ 20) (hn : n ≤ r) (hp : p < n) :
    Rn G M_fo_pairCount 1 0 0 [.ref a, .int (nI p)] h (ev_qi fun v h' => v = pcn (c3 B p) ∧ h' = h) := by
  refine Rn_of (ls := [some (.ref a), some (.int (nI p)), none, none]) rfl rfl (Nat.le_of_ble_eq_true rfl) rfl ?_
  refine ev_iconst (v := 0) i_fo_pairCount_0 (by decide) ?_
  refine ev_istore_2 i_fo_pairCount_1 rfl ?_
  refine ev_iconst (v := 0) i_fo_pairCount_2 (by decide) ?_
  refine ev_istore_3 i_fo_pairCount_3 rfl ?_
  refine ev_iload_3 i_fo_pairCount_4 ?_
  refine ev_iconst (v := 3) i_fo_pairCount_5 (by decide) ?_
  refine ev_icmp_ge i_fo_pairCount_6 (fun c_6 => ?_) (fun c_6 => ?_)
  · exact absurd c_6 (by decide)
  refine ev_iload_1 i_fo_pairCount_9 ?_
  refine ev_if_lt i_fo_pairCount_10 (fun c_10 => ?_) (fun c_10 => ?_)
  · exact absurd c_10 (nI_pos (by omega))
  refine ev_iload_1 i_fo_pairCount_13 ?_
  refine ev_aload_0 i_fo_pairCount_14 ?_
  refine ev_get i_fo_pairCount_15 fl_fo_9 (by repeat (first | assumption | exact va_up_self _ _ _ | refine hu_ne (by first | assumption | exact Ne.symm (by assumption)) ?_)) rfl ?_
  refine ev_icmp_ge i_fo_pairCount_18 (fun c_18 => ?_) (fun c_18 => ?_)
  · exact absurd c_18 (nI_ge hp (by omega))
  refine ev_iload_2 i_fo_pairCount_21 ?_
  refine ev_aload_0 i_fo_pairCount_22 ?_
  refine ev_get i_fo_pairCount_23 fl_fo_24 (by repeat (first | assumption | exact va_up_self _ _ _ | refine hu_ne (by first | assumption | exact Ne.symm (by assumption)) ?_)) rfl ?_
  refine ev_iload_1 i_fo_pairCount_26 ?_
  refine ev_iconst (v := 3) i_fo_pairCount_27 (by decide) ?_
  refine ev_imul i_fo_pairCount_28 ?_
  refine ev_iload_3 i_fo_pairCount_29 ?_
  refine ev_iadd i_fo_pairCount_30 ?_
  refine ev_laload i_fo_pairCount_31 ty_long (by repeat (first | assumption | exact va_up_self _ _ _ | refine hu_ne (by first | assumption | exact Ne.symm (by assumption)) ?_)) (j := 3 * p) (by rw [nI_3, pk_mul, Nat.mul_comm]; exact nI_add _ 0) (by omega) (by omega) ?_
  refine ev_ti1 i_fo_pairCount_32 lk_fo_37 cb_jlo_bitCount sv_jlo_bitCount (r_jlo_bitCount) (by decide) (Nat.le_of_ble_eq_true rfl) rfl rfl (fun v h1 hq => ?_)
  obtain ⟨rfl, rfl⟩ := hq
  refine ev_iadd i_fo_pairCount_35 ?_
  refine ev_istore_2 i_fo_pairCount_36 rfl ?_
  refine ev_iinc_3 i_fo_pairCount_37 rfl rfl ?_
  refine ev_goto i_fo_pairCount_40 ?_
  refine ev_iload_3 i_fo_pairCount_4 ?_
  refine ev_iconst (v := 3) i_fo_pairCount_5 (by decide) ?_
  refine ev_icmp_ge i_fo_pairCount_6 (fun c_6 => ?_) (fun c_6 => ?_)
  · exact absurd c_6 (by decide)
  refine ev_iload_1 i_fo_pairCount_9 ?_
  refine ev_if_lt i_fo_pairCount_10 (fun c_10 => ?_) (fun c_10 => ?_)
  · exact absurd c_10 (nI_pos (by omega))
  refine ev_iload_1 i_fo_pairCount_13 ?_
  refine ev_aload_0 i_fo_pairCount_14 ?_
  refine ev_get i_fo_pairCount_15 fl_fo_9 (by repeat (first | assumption | exact va_up_self _ _ _ | refine hu_ne (by first | assumption | exact Ne.symm (by assumption)) ?_)) rfl ?_
  refine ev_icmp_ge i_fo_pairCount_18 (fun c_18 => ?_) (fun c_18 => ?_)
  · exact absurd c_18 (nI_ge hp (by omega))
  refine ev_iload_2 i_fo_pairCount_21 ?_
  refine ev_aload_0 i_fo_pairCount_22 ?_
  refine ev_get i_fo_pairCount_23 fl_fo_24 (by repeat (first | assumption | exact va_up_self _ _ _ | refine hu_ne (by first | assumption | exact Ne.symm (by assumption)) ?_)) rfl ?_
  refine ev_iload_1 i_fo_pairCount_26 ?_
  refine ev_iconst (v := 3) i_fo_pairCount_27 (by decide) ?_
  refine ev_imul i_fo_pairCount_28 ?_
  refine ev_iload_3 i_fo_pairCount_29 ?_
  refine ev_iadd i_fo_pairCount_30 ?_
  refine ev_laload i_fo_pairCount_31 ty_long (by repeat (first | assumption | exact va_up_self _ _ _ | refine hu_ne (by first | assumption | exact Ne.symm (by assumption)) ?_)) (j := 3 * p + 1) (by rw [nI_3, pk_mul, Nat.mul_comm]; exact nI_add _ 1) (by omega) (by omega) ?_
  refine ev_ti1 i_fo_pairCount_32 lk_fo_37 cb_jlo_bitCount sv_jlo_bitCount (r_jlo_bitCount) (by decide) (Nat.le_of_ble_eq_true rfl) rfl rfl (fun v h1 hq => ?_)
  obtain ⟨rfl, rfl⟩ := hq
  refine ev_iadd i_fo_pairCount_35 ?_
  refine ev_istore_2 i_fo_pairCount_36 rfl ?_
  refine ev_iinc_3 i_fo_pairCount_37 rfl rfl ?_
  refine ev_goto i_fo_pairCount_40 ?_
  refine ev_iload_3 i_fo_pairCount_4 ?_
  refine ev_iconst (v := 3) i_fo_pairCount_5 (by decide) ?_
  refine ev_icmp_ge i_fo_pairCount_6 (fun c_6 => ?_) (fun c_6 => ?_)
  · exact absurd c_6 (by decide)
  refine ev_iload_1 i_fo_pairCount_9 ?_
  refine ev_if_lt i_fo_pairCount_10 (fun c_10 => ?_) (fun c_10 => ?_)
  · exact absurd c_10 (nI_pos (by omega))
  refine ev_iload_1 i_fo_pairCount_13 ?_
  refine ev_aload_0 i_fo_pairCount_14 ?_
  refine ev_get i_fo_pairCount_15 fl_fo_9 (by repeat (first | assumption | exact va_up_self _ _ _ | refine hu_ne (by first | assumption | exact Ne.symm (by assumption)) ?_)) rfl ?_
  refine ev_icmp_ge i_fo_pairCount_18 (fun c_18 => ?_) (fun c_18 => ?_)
  · exact absurd c_18 (nI_ge hp (by omega))
  refine ev_iload_2 i_fo_pairCount_21 ?_
  refine ev_aload_0 i_fo_pairCount_22 ?_
  refine ev_get i_fo_pairCount_23 fl_fo_24 (by repeat (first | assumption | exact va_up_self _ _ _ | refine hu_ne (by first | assumption | exact Ne.symm (by assumption)) ?_)) rfl ?_
  refine ev_iload_1 i_fo_pairCount_26 ?_
  refine ev_iconst (v := 3) i_fo_pairCount_27 (by decide) ?_
  refine ev_imul i_fo_pairCount_28 ?_
  refine ev_iload_3 i_fo_pairCount_29 ?_
  refine ev_iadd i_fo_pairCount_30 ?_
  refine ev_laload i_fo_pairCount_31 ty_long (by repeat (first | assumption | exact va_up_self _ _ _ | refine hu_ne (by first | assumption | exact Ne.symm (by assumption)) ?_)) (j := 3 * p + 2) (by rw [nI_3, pk_mul, Nat.mul_comm]; exact nI_add _ 2) (by omega) (by omega) ?_
  refine ev_ti1 i_fo_pairCount_32 lk_fo_37 cb_jlo_bitCount sv_jlo_bitCount (r_jlo_bitCount) (by decide) (Nat.le_of_ble_eq_true rfl) rfl rfl (fun v h1 hq => ?_)
  obtain ⟨rfl, rfl⟩ := hq
  refine ev_iadd i_fo_pairCount_35 ?_
  refine ev_istore_2 i_fo_pairCount_36 rfl ?_
  refine ev_iinc_3 i_fo_pairCount_37 rfl rfl ?_
  refine ev_goto i_fo_pairCount_40 ?_
  refine ev_iload_3 i_fo_pairCount_4 ?_
  refine ev_iconst (v := 3) i_fo_pairCount_5 (by decide) ?_
  refine ev_icmp_ge i_fo_pairCount_6 (fun c_6 => ?_) (fun c_6 => ?_)
  rotate_left
  · exact absurd (by decide) c_6
  refine ev_iload_2 i_fo_pairCount_43 ?_
  refine ev_ireturn i_fo_pairCount_44 rfl rfl ?_
  exact ⟨_, rfl, rfl, rfl⟩
end JDK
