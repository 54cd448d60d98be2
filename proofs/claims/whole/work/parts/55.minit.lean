section MIN
variable {G : ev_G} {h : ev_H}
theorem mkA {M : ev_M} {d kc ks : Nat} {Q : Option Value → ev_H → Prop} {pc pc' : Nat} {ls : List (Option Value)} {st : List Value} {hh : ev_H} {a : Nat} {cell : va_E} {L : List (Nat × va_E)} {atype : ArrayType} {ty : FieldType} {t N kc' ks' : Nat} {n : Int32} {a0 : vp_A} (MM : mk_at h hh a cell L) (hd : fe M pc (.newarray atype) 2 pc') (hty : newarray.typeOf atype = ty) (ht : ev_ty t ty) (hac : Cond.arrayClass ty ∈ ev_WS) (ha0 : ∀ cA : ClassId, vp_cell cA a0 = arrV cA N (fun _ => defaultValue ty)) (hn : n = nI N) (hN : N < 2 ^ 20)
    (hk : kc = kc' + 1) (hs : ks = ks' + N) (kk : ∀ (q : Nat) (hh' : ev_H), mk_at h hh' a cell ((q, .inl (G.2 t, a0)) :: L) → Ev G M d kc' ks' Q pc' ls (.ref q :: st) hh') : Ev G M d kc ks Q pc ls (.int n :: st) hh :=
  ev_newa hd hty ht hac ha0 hn hN hk hs (fun q hq => kk q _ (mk_new MM hq))
theorem mkP {M : ev_M} {d kc ks : Nat} {Q : Option Value → ev_H → Prop} {pc pc' : Nat} {ls : List (Option Value)} {st : List Value} {hh : ev_H} {a ci k ix : Nat} {fty : FieldType} {fs fs' : List Value} {v : Value} {L : List (Nat × va_E)} (MM : mk_at h hh a (.inr (ci, fs)) L) (hd : fe M pc (.putfield ix) 3 pc') (hf : ev_pl M ix ci k fty) (hn : narrow fty v = v) (hfit : fits fty v = true) (hlen : k < fs.length) (hs : fs.set k v = fs')
    (kk : ∀ (hh' : ev_H), mk_at h hh' a (.inr (ci, fs')) L → Ev G M d kc ks Q pc' ls st hh') : Ev G M d kc ks Q pc ls (v :: .ref a :: st) hh :=
  ev_put hd hf MM.1 hn hfit hlen hs (kk _ (mk_put MM))
def A00 (j : Nat) : Nat → Nat → Int32 := va_up (fun _ _ => 0) 17 (fun t => if t < j then -1 else 0)
theorem MI_b {h0 : ev_H} {m : Nat} {ad : Nat → Nat} {sc : Nat → Int32} {A : Nat → Nat → Int32} {Wd : Nat → Int64} (H : MI G h0 h m ad sc A Wd) : MI G h h m ad sc A Wd := ⟨H.1, H.2.1, H.2.2.1, H.2.2.2.1, H.2.2.2.2.1, fun _ _ _ => rfl⟩
def adq (q4 q5 q6 q7 q8 q10 q11 q12 q13 q14 q15 q16 q17 q18 q19 q20 q21 q22 q29 q30 q31 q32 q33 : Nat) (k : Nat) : Nat := match k with
  | 4 => q4
  | 5 => q5
  | 6 => q6
  | 7 => q7
  | 8 => q8
  | 10 => q10
  | 11 => q11
  | 12 => q12
  | 13 => q13
  | 14 => q14
  | 15 => q15
  | 16 => q16
  | 17 => q17
  | 18 => q18
  | 19 => q19
  | 20 => q20
  | 21 => q21
  | 22 => q22
  | 29 => q29
  | 30 => q30
  | 31 => q31
  | 32 => q32
  | 33 => q33
  | _ => 0
def ixq (k : Nat) : Nat := match k with
  | 4 => 22
  | 5 => 21
  | 6 => 20
  | 7 => 19
  | 8 => 18
  | 10 => 17
  | 11 => 16
  | 12 => 15
  | 13 => 14
  | 14 => 13
  | 15 => 12
  | 16 => 11
  | 17 => 10
  | 18 => 9
  | 19 => 8
  | 20 => 7
  | 21 => 6
  | 22 => 5
  | 29 => 4
  | 30 => 3
  | 31 => 2
  | 32 => 1
  | 33 => 0
  | _ => 99
theorem isR_c {k : Nat} (hk : isR k = true) : k = 4 ∨ k = 5 ∨ k = 6 ∨ k = 7 ∨ k = 8 ∨ k = 10 ∨ k = 11 ∨ k = 12 ∨ k = 13 ∨ k = 14 ∨ k = 15 ∨ k = 16 ∨ k = 17 ∨ k = 18 ∨ k = 19 ∨ k = 20 ∨ k = 21 ∨ k = 22 ∨ k = 29 ∨ k = 30 ∨ k = 31 ∨ k = 32 ∨ k = 33 := by
  unfold isR isA at hk
  simp at hk
  omega
theorem adq_l {q4 q5 q6 q7 q8 q10 q11 q12 q13 q14 q15 q16 q17 q18 q19 q20 q21 q22 q29 q30 q31 q32 q33 : Nat} {k : Nat} (hk : isR k = true) : ixq k < 23 ∧ [q33, q32, q31, q30, q29, q22, q21, q20, q19, q18, q17, q16, q15, q14, q13, q12, q11, q10, q8, q7, q6, q5, q4][ixq k]? = some (adq q4 q5 q6 q7 q8 q10 q11 q12 q13 q14 q15 q16 q17 q18 q19 q20 q21 q22 q29 q30 q31 q32 q33 k) := by
  rcases isR_c hk with rfl | rfl | rfl | rfl | rfl | rfl | rfl | rfl | rfl | rfl | rfl | rfl | rfl | rfl | rfl | rfl | rfl | rfl | rfl | rfl | rfl | rfl | rfl <;> exact ⟨Nat.le_of_ble_eq_true rfl, rfl⟩
theorem ixq_i : ∀ k, k < 34 → ∀ k', k' < 34 → isR k = true → isR k' = true → ixq k = ixq k' → k = k' := by decide +kernel
theorem r_mo_init {a : Nat} (ha : h a = some (.inr (6, [.int 0, .int 0, .int 0, .int 0, .null, .null, .null, .null, .null, .int 0, .null, .null, .null, .null, .null, .null, .null, .null, .null, .null, .null, .null, .null, .int 0, .int 0, .int 0, .int 0, .int 0, .int 0, .null, .null, .null, .null, .null, .int 0]))) :
    Rn G M_mo_init 1 23 2842 [.ref a] h (ev_qv fun h' => kx a h h' ∧ ∃ ad : Nat → Nat, MI G h' h' a ad (fun _ => 0) (A00 16) (fun _ => 0) ∧ ∀ k, isR k = true → h (ad k) = none) := by
  have MM := mk_0 ha
  refine Rn_of (ls := [some (.ref a), none]) rfl rfl (Nat.le_of_ble_eq_true rfl) rfl ?_
  refine ev_aload_0 i_mo_init_0 ?_
  refine ev_obj i_mo_init_1 ob_mo_1 ob_2 ob_3 (by decide) (Nat.le_of_ble_eq_true rfl) ?_
  refine ev_aload_0 i_mo_init_4 ?_
  refine ev_bipush (v := 16) i_mo_init_5 (by decide) ?_
  refine mkA (N := 16) (a0 := (16, (.inr (.inl (fun _ => 0))))) (kc' := 22) (ks' := 2826) MM i_mo_init_7 rfl ty_long ac_long (fun _ => rfl) rfl (by omega) rfl rfl (fun q4 hh MM => ?_)
  refine mkP (fs' := [.int 0, .int 0, .int 0, .int 0, .ref q4, .null, .null, .null, .null, .int 0, .null, .null, .null, .null, .null, .null, .null, .null, .null, .null, .null, .null, .null, .int 0, .int 0, .int 0, .int 0, .int 0, .int 0, .null, .null, .null, .null, .null, .int 0]) MM i_mo_init_9 pl_mo_init_7 rfl rfl (Nat.le_of_ble_eq_true rfl) rfl (fun hh MM => ?_)
  refine ev_aload_0 i_mo_init_12 ?_
  refine ev_bipush (v := 48) i_mo_init_13 (by decide) ?_
  refine mkA (N := 48) (a0 := (48, (.inl (fun _ => 0)))) (kc' := 21) (ks' := 2778) MM i_mo_init_15 rfl ty_int ac_int (fun _ => rfl) rfl (by omega) rfl rfl (fun q5 hh MM => ?_)
  refine mkP (fs' := [.int 0, .int 0, .int 0, .int 0, .ref q4, .ref q5, .null, .null, .null, .int 0, .null, .null, .null, .null, .null, .null, .null, .null, .null, .null, .null, .null, .null, .int 0, .int 0, .int 0, .int 0, .int 0, .int 0, .null, .null, .null, .null, .null, .int 0]) MM i_mo_init_17 pl_mo_init_13 rfl rfl (Nat.le_of_ble_eq_true rfl) rfl (fun hh MM => ?_)
  refine ev_aload_0 i_mo_init_20 ?_
  refine ev_bipush (v := 48) i_mo_init_21 (by decide) ?_
  refine mkA (N := 48) (a0 := (48, (.inl (fun _ => 0)))) (kc' := 20) (ks' := 2730) MM i_mo_init_23 rfl ty_int ac_int (fun _ => rfl) rfl (by omega) rfl rfl (fun q6 hh MM => ?_)
  refine mkP (fs' := [.int 0, .int 0, .int 0, .int 0, .ref q4, .ref q5, .ref q6, .null, .null, .int 0, .null, .null, .null, .null, .null, .null, .null, .null, .null, .null, .null, .null, .null, .int 0, .int 0, .int 0, .int 0, .int 0, .int 0, .null, .null, .null, .null, .null, .int 0]) MM i_mo_init_25 pl_mo_init_17 rfl rfl (Nat.le_of_ble_eq_true rfl) rfl (fun hh MM => ?_)
  refine ev_aload_0 i_mo_init_28 ?_
  refine ev_bipush (v := 24) i_mo_init_29 (by decide) ?_
  refine mkA (N := 24) (a0 := (24, (.inl (fun _ => 0)))) (kc' := 19) (ks' := 2706) MM i_mo_init_31 rfl ty_boolean ac_boolean (fun _ => rfl) rfl (by omega) rfl rfl (fun q7 hh MM => ?_)
  refine mkP (fs' := [.int 0, .int 0, .int 0, .int 0, .ref q4, .ref q5, .ref q6, .ref q7, .null, .int 0, .null, .null, .null, .null, .null, .null, .null, .null, .null, .null, .null, .null, .null, .int 0, .int 0, .int 0, .int 0, .int 0, .int 0, .null, .null, .null, .null, .null, .int 0]) MM i_mo_init_33 pl_mo_init_20 rfl rfl (Nat.le_of_ble_eq_true rfl) rfl (fun hh MM => ?_)
  refine ev_aload_0 i_mo_init_36 ?_
  refine ev_bipush (v := 60) i_mo_init_37 (by decide) ?_
  refine mkA (N := 60) (a0 := (60, (.inl (fun _ => 0)))) (kc' := 18) (ks' := 2646) MM i_mo_init_39 rfl ty_int ac_int (fun _ => rfl) rfl (by omega) rfl rfl (fun q8 hh MM => ?_)
  refine mkP (fs' := [.int 0, .int 0, .int 0, .int 0, .ref q4, .ref q5, .ref q6, .ref q7, .ref q8, .int 0, .null, .null, .null, .null, .null, .null, .null, .null, .null, .null, .null, .null, .null, .int 0, .int 0, .int 0, .int 0, .int 0, .int 0, .null, .null, .null, .null, .null, .int 0]) MM i_mo_init_41 pl_mo_init_24 rfl rfl (Nat.le_of_ble_eq_true rfl) rfl (fun hh MM => ?_)
  refine ev_aload_0 i_mo_init_44 ?_
  refine ev_bipush (v := 16) i_mo_init_45 (by decide) ?_
  refine mkA (N := 16) (a0 := (16, (.inl (fun _ => 0)))) (kc' := 17) (ks' := 2630) MM i_mo_init_47 rfl ty_int ac_int (fun _ => rfl) rfl (by omega) rfl rfl (fun q10 hh MM => ?_)
  refine mkP (fs' := [.int 0, .int 0, .int 0, .int 0, .ref q4, .ref q5, .ref q6, .ref q7, .ref q8, .int 0, .ref q10, .null, .null, .null, .null, .null, .null, .null, .null, .null, .null, .null, .null, .int 0, .int 0, .int 0, .int 0, .int 0, .int 0, .null, .null, .null, .null, .null, .int 0]) MM i_mo_init_49 pl_mo_init_27 rfl rfl (Nat.le_of_ble_eq_true rfl) rfl (fun hh MM => ?_)
  refine ev_aload_0 i_mo_init_52 ?_
  refine ev_sipush (v := 480) i_mo_init_53 (by decide) ?_
  refine mkA (N := 480) (a0 := (480, (.inl (fun _ => 0)))) (kc' := 16) (ks' := 2150) MM i_mo_init_56 rfl ty_int ac_int (fun _ => rfl) rfl (by omega) rfl rfl (fun q11 hh MM => ?_)
  refine mkP (fs' := [.int 0, .int 0, .int 0, .int 0, .ref q4, .ref q5, .ref q6, .ref q7, .ref q8, .int 0, .ref q10, .ref q11, .null, .null, .null, .null, .null, .null, .null, .null, .null, .null, .null, .int 0, .int 0, .int 0, .int 0, .int 0, .int 0, .null, .null, .null, .null, .null, .int 0]) MM i_mo_init_58 pl_mo_init_30 rfl rfl (Nat.le_of_ble_eq_true rfl) rfl (fun hh MM => ?_)
  refine ev_aload_0 i_mo_init_61 ?_
  refine ev_bipush (v := 16) i_mo_init_62 (by decide) ?_
  refine mkA (N := 16) (a0 := (16, (.inl (fun _ => 0)))) (kc' := 15) (ks' := 2134) MM i_mo_init_64 rfl ty_int ac_int (fun _ => rfl) rfl (by omega) rfl rfl (fun q12 hh MM => ?_)
  refine mkP (fs' := [.int 0, .int 0, .int 0, .int 0, .ref q4, .ref q5, .ref q6, .ref q7, .ref q8, .int 0, .ref q10, .ref q11, .ref q12, .null, .null, .null, .null, .null, .null, .null, .null, .null, .null, .int 0, .int 0, .int 0, .int 0, .int 0, .int 0, .null, .null, .null, .null, .null, .int 0]) MM i_mo_init_66 pl_mo_init_33 rfl rfl (Nat.le_of_ble_eq_true rfl) rfl (fun hh MM => ?_)
  refine ev_aload_0 i_mo_init_69 ?_
  refine ev_sipush (v := 320) i_mo_init_70 (by decide) ?_
  refine mkA (N := 320) (a0 := (320, (.inl (fun _ => 0)))) (kc' := 14) (ks' := 1814) MM i_mo_init_73 rfl ty_int ac_int (fun _ => rfl) rfl (by omega) rfl rfl (fun q13 hh MM => ?_)
  refine mkP (fs' := [.int 0, .int 0, .int 0, .int 0, .ref q4, .ref q5, .ref q6, .ref q7, .ref q8, .int 0, .ref q10, .ref q11, .ref q12, .ref q13, .null, .null, .null, .null, .null, .null, .null, .null, .null, .int 0, .int 0, .int 0, .int 0, .int 0, .int 0, .null, .null, .null, .null, .null, .int 0]) MM i_mo_init_75 pl_mo_init_36 rfl rfl (Nat.le_of_ble_eq_true rfl) rfl (fun hh MM => ?_)
  refine ev_aload_0 i_mo_init_78 ?_
  refine ev_bipush (v := 16) i_mo_init_79 (by decide) ?_
  refine mkA (N := 16) (a0 := (16, (.inl (fun _ => 0)))) (kc' := 13) (ks' := 1798) MM i_mo_init_81 rfl ty_int ac_int (fun _ => rfl) rfl (by omega) rfl rfl (fun q14 hh MM => ?_)
  refine mkP (fs' := [.int 0, .int 0, .int 0, .int 0, .ref q4, .ref q5, .ref q6, .ref q7, .ref q8, .int 0, .ref q10, .ref q11, .ref q12, .ref q13, .ref q14, .null, .null, .null, .null, .null, .null, .null, .null, .int 0, .int 0, .int 0, .int 0, .int 0, .int 0, .null, .null, .null, .null, .null, .int 0]) MM i_mo_init_83 pl_mo_init_39 rfl rfl (Nat.le_of_ble_eq_true rfl) rfl (fun hh MM => ?_)
  refine ev_aload_0 i_mo_init_86 ?_
  refine ev_bipush (v := 96) i_mo_init_87 (by decide) ?_
  refine mkA (N := 96) (a0 := (96, (.inl (fun _ => 0)))) (kc' := 12) (ks' := 1702) MM i_mo_init_89 rfl ty_int ac_int (fun _ => rfl) rfl (by omega) rfl rfl (fun q15 hh MM => ?_)
  refine mkP (fs' := [.int 0, .int 0, .int 0, .int 0, .ref q4, .ref q5, .ref q6, .ref q7, .ref q8, .int 0, .ref q10, .ref q11, .ref q12, .ref q13, .ref q14, .ref q15, .null, .null, .null, .null, .null, .null, .null, .int 0, .int 0, .int 0, .int 0, .int 0, .int 0, .null, .null, .null, .null, .null, .int 0]) MM i_mo_init_91 pl_mo_init_42 rfl rfl (Nat.le_of_ble_eq_true rfl) rfl (fun hh MM => ?_)
  refine ev_aload_0 i_mo_init_94 ?_
  refine ev_bipush (v := 96) i_mo_init_95 (by decide) ?_
  refine mkA (N := 96) (a0 := (96, (.inl (fun _ => 0)))) (kc' := 11) (ks' := 1606) MM i_mo_init_97 rfl ty_int ac_int (fun _ => rfl) rfl (by omega) rfl rfl (fun q16 hh MM => ?_)
  refine mkP (fs' := [.int 0, .int 0, .int 0, .int 0, .ref q4, .ref q5, .ref q6, .ref q7, .ref q8, .int 0, .ref q10, .ref q11, .ref q12, .ref q13, .ref q14, .ref q15, .ref q16, .null, .null, .null, .null, .null, .null, .int 0, .int 0, .int 0, .int 0, .int 0, .int 0, .null, .null, .null, .null, .null, .int 0]) MM i_mo_init_99 pl_mo_init_45 rfl rfl (Nat.le_of_ble_eq_true rfl) rfl (fun hh MM => ?_)
  refine ev_aload_0 i_mo_init_102 ?_
  refine ev_bipush (v := 16) i_mo_init_103 (by decide) ?_
  refine mkA (N := 16) (a0 := (16, (.inl (fun _ => 0)))) (kc' := 10) (ks' := 1590) MM i_mo_init_105 rfl ty_int ac_int (fun _ => rfl) rfl (by omega) rfl rfl (fun q17 hh MM => ?_)
  refine mkP (fs' := [.int 0, .int 0, .int 0, .int 0, .ref q4, .ref q5, .ref q6, .ref q7, .ref q8, .int 0, .ref q10, .ref q11, .ref q12, .ref q13, .ref q14, .ref q15, .ref q16, .ref q17, .null, .null, .null, .null, .null, .int 0, .int 0, .int 0, .int 0, .int 0, .int 0, .null, .null, .null, .null, .null, .int 0]) MM i_mo_init_107 pl_mo_init_48 rfl rfl (Nat.le_of_ble_eq_true rfl) rfl (fun hh MM => ?_)
  refine ev_aload_0 i_mo_init_110 ?_
  refine ev_bipush (v := 30) i_mo_init_111 (by decide) ?_
  refine mkA (N := 30) (a0 := (30, (.inl (fun _ => 0)))) (kc' := 9) (ks' := 1560) MM i_mo_init_113 rfl ty_int ac_int (fun _ => rfl) rfl (by omega) rfl rfl (fun q18 hh MM => ?_)
  refine mkP (fs' := [.int 0, .int 0, .int 0, .int 0, .ref q4, .ref q5, .ref q6, .ref q7, .ref q8, .int 0, .ref q10, .ref q11, .ref q12, .ref q13, .ref q14, .ref q15, .ref q16, .ref q17, .ref q18, .null, .null, .null, .null, .int 0, .int 0, .int 0, .int 0, .int 0, .int 0, .null, .null, .null, .null, .null, .int 0]) MM i_mo_init_115 pl_mo_init_51 rfl rfl (Nat.le_of_ble_eq_true rfl) rfl (fun hh MM => ?_)
  refine ev_aload_0 i_mo_init_118 ?_
  refine ev_sipush (v := 800) i_mo_init_119 (by decide) ?_
  refine mkA (N := 800) (a0 := (800, (.inl (fun _ => 0)))) (kc' := 8) (ks' := 760) MM i_mo_init_122 rfl ty_int ac_int (fun _ => rfl) rfl (by omega) rfl rfl (fun q19 hh MM => ?_)
  refine mkP (fs' := [.int 0, .int 0, .int 0, .int 0, .ref q4, .ref q5, .ref q6, .ref q7, .ref q8, .int 0, .ref q10, .ref q11, .ref q12, .ref q13, .ref q14, .ref q15, .ref q16, .ref q17, .ref q18, .ref q19, .null, .null, .null, .int 0, .int 0, .int 0, .int 0, .int 0, .int 0, .null, .null, .null, .null, .null, .int 0]) MM i_mo_init_124 pl_mo_init_54 rfl rfl (Nat.le_of_ble_eq_true rfl) rfl (fun hh MM => ?_)
  refine ev_aload_0 i_mo_init_127 ?_
  refine ev_bipush (v := 40) i_mo_init_128 (by decide) ?_
  refine mkA (N := 40) (a0 := (40, (.inl (fun _ => 0)))) (kc' := 7) (ks' := 720) MM i_mo_init_130 rfl ty_int ac_int (fun _ => rfl) rfl (by omega) rfl rfl (fun q20 hh MM => ?_)
  refine mkP (fs' := [.int 0, .int 0, .int 0, .int 0, .ref q4, .ref q5, .ref q6, .ref q7, .ref q8, .int 0, .ref q10, .ref q11, .ref q12, .ref q13, .ref q14, .ref q15, .ref q16, .ref q17, .ref q18, .ref q19, .ref q20, .null, .null, .int 0, .int 0, .int 0, .int 0, .int 0, .int 0, .null, .null, .null, .null, .null, .int 0]) MM i_mo_init_132 pl_mo_init_57 rfl rfl (Nat.le_of_ble_eq_true rfl) rfl (fun hh MM => ?_)
  refine ev_aload_0 i_mo_init_135 ?_
  refine ev_sipush (v := 400) i_mo_init_136 (by decide) ?_
  refine mkA (N := 400) (a0 := (400, (.inl (fun _ => 0)))) (kc' := 6) (ks' := 320) MM i_mo_init_139 rfl ty_int ac_int (fun _ => rfl) rfl (by omega) rfl rfl (fun q21 hh MM => ?_)
  refine mkP (fs' := [.int 0, .int 0, .int 0, .int 0, .ref q4, .ref q5, .ref q6, .ref q7, .ref q8, .int 0, .ref q10, .ref q11, .ref q12, .ref q13, .ref q14, .ref q15, .ref q16, .ref q17, .ref q18, .ref q19, .ref q20, .ref q21, .null, .int 0, .int 0, .int 0, .int 0, .int 0, .int 0, .null, .null, .null, .null, .null, .int 0]) MM i_mo_init_141 pl_mo_init_60 rfl rfl (Nat.le_of_ble_eq_true rfl) rfl (fun hh MM => ?_)
  refine ev_aload_0 i_mo_init_144 ?_
  refine ev_bipush (v := 80) i_mo_init_145 (by decide) ?_
  refine mkA (N := 80) (a0 := (80, (.inl (fun _ => 0)))) (kc' := 5) (ks' := 240) MM i_mo_init_147 rfl ty_int ac_int (fun _ => rfl) rfl (by omega) rfl rfl (fun q22 hh MM => ?_)
  refine mkP (fs' := [.int 0, .int 0, .int 0, .int 0, .ref q4, .ref q5, .ref q6, .ref q7, .ref q8, .int 0, .ref q10, .ref q11, .ref q12, .ref q13, .ref q14, .ref q15, .ref q16, .ref q17, .ref q18, .ref q19, .ref q20, .ref q21, .ref q22, .int 0, .int 0, .int 0, .int 0, .int 0, .int 0, .null, .null, .null, .null, .null, .int 0]) MM i_mo_init_149 pl_mo_init_63 rfl rfl (Nat.le_of_ble_eq_true rfl) rfl (fun hh MM => ?_)
  refine ev_aload_0 i_mo_init_152 ?_
  refine ev_bipush (v := 48) i_mo_init_153 (by decide) ?_
  refine mkA (N := 48) (a0 := (48, (.inl (fun _ => 0)))) (kc' := 4) (ks' := 192) MM i_mo_init_155 rfl ty_int ac_int (fun _ => rfl) rfl (by omega) rfl rfl (fun q29 hh MM => ?_)
  refine mkP (fs' := [.int 0, .int 0, .int 0, .int 0, .ref q4, .ref q5, .ref q6, .ref q7, .ref q8, .int 0, .ref q10, .ref q11, .ref q12, .ref q13, .ref q14, .ref q15, .ref q16, .ref q17, .ref q18, .ref q19, .ref q20, .ref q21, .ref q22, .int 0, .int 0, .int 0, .int 0, .int 0, .int 0, .ref q29, .null, .null, .null, .null, .int 0]) MM i_mo_init_157 pl_mo_init_66 rfl rfl (Nat.le_of_ble_eq_true rfl) rfl (fun hh MM => ?_)
  refine ev_aload_0 i_mo_init_160 ?_
  refine ev_bipush (v := 48) i_mo_init_161 (by decide) ?_
  refine mkA (N := 48) (a0 := (48, (.inl (fun _ => 0)))) (kc' := 3) (ks' := 144) MM i_mo_init_163 rfl ty_int ac_int (fun _ => rfl) rfl (by omega) rfl rfl (fun q30 hh MM => ?_)
  refine mkP (fs' := [.int 0, .int 0, .int 0, .int 0, .ref q4, .ref q5, .ref q6, .ref q7, .ref q8, .int 0, .ref q10, .ref q11, .ref q12, .ref q13, .ref q14, .ref q15, .ref q16, .ref q17, .ref q18, .ref q19, .ref q20, .ref q21, .ref q22, .int 0, .int 0, .int 0, .int 0, .int 0, .int 0, .ref q29, .ref q30, .null, .null, .null, .int 0]) MM i_mo_init_165 pl_mo_init_69 rfl rfl (Nat.le_of_ble_eq_true rfl) rfl (fun hh MM => ?_)
  refine ev_aload_0 i_mo_init_168 ?_
  refine ev_bipush (v := 48) i_mo_init_169 (by decide) ?_
  refine mkA (N := 48) (a0 := (48, (.inl (fun _ => 0)))) (kc' := 2) (ks' := 96) MM i_mo_init_171 rfl ty_int ac_int (fun _ => rfl) rfl (by omega) rfl rfl (fun q31 hh MM => ?_)
  refine mkP (fs' := [.int 0, .int 0, .int 0, .int 0, .ref q4, .ref q5, .ref q6, .ref q7, .ref q8, .int 0, .ref q10, .ref q11, .ref q12, .ref q13, .ref q14, .ref q15, .ref q16, .ref q17, .ref q18, .ref q19, .ref q20, .ref q21, .ref q22, .int 0, .int 0, .int 0, .int 0, .int 0, .int 0, .ref q29, .ref q30, .ref q31, .null, .null, .int 0]) MM i_mo_init_173 pl_mo_init_72 rfl rfl (Nat.le_of_ble_eq_true rfl) rfl (fun hh MM => ?_)
  refine ev_aload_0 i_mo_init_176 ?_
  refine ev_bipush (v := 48) i_mo_init_177 (by decide) ?_
  refine mkA (N := 48) (a0 := (48, (.inl (fun _ => 0)))) (kc' := 1) (ks' := 48) MM i_mo_init_179 rfl ty_int ac_int (fun _ => rfl) rfl (by omega) rfl rfl (fun q32 hh MM => ?_)
  refine mkP (fs' := [.int 0, .int 0, .int 0, .int 0, .ref q4, .ref q5, .ref q6, .ref q7, .ref q8, .int 0, .ref q10, .ref q11, .ref q12, .ref q13, .ref q14, .ref q15, .ref q16, .ref q17, .ref q18, .ref q19, .ref q20, .ref q21, .ref q22, .int 0, .int 0, .int 0, .int 0, .int 0, .int 0, .ref q29, .ref q30, .ref q31, .ref q32, .null, .int 0]) MM i_mo_init_181 pl_mo_init_75 rfl rfl (Nat.le_of_ble_eq_true rfl) rfl (fun hh MM => ?_)
  refine ev_aload_0 i_mo_init_184 ?_
  refine ev_bipush (v := 48) i_mo_init_185 (by decide) ?_
  refine mkA (N := 48) (a0 := (48, (.inl (fun _ => 0)))) (kc' := 0) (ks' := 0) MM i_mo_init_187 rfl ty_int ac_int (fun _ => rfl) rfl (by omega) rfl rfl (fun q33 hh MM => ?_)
  refine mkP (fs' := [.int 0, .int 0, .int 0, .int 0, .ref q4, .ref q5, .ref q6, .ref q7, .ref q8, .int 0, .ref q10, .ref q11, .ref q12, .ref q13, .ref q14, .ref q15, .ref q16, .ref q17, .ref q18, .ref q19, .ref q20, .ref q21, .ref q22, .int 0, .int 0, .int 0, .int 0, .int 0, .int 0, .ref q29, .ref q30, .ref q31, .ref q32, .ref q33, .int 0]) MM i_mo_init_189 pl_mo_init_78 rfl rfl (Nat.le_of_ble_eq_true rfl) rfl (fun hh MM => ?_)
  obtain ⟨m0, m1, m2, m3⟩ := MM
  have H : MI G hh hh a (adq q4 q5 q6 q7 q8 q10 q11 q12 q13 q14 q15 q16 q17 q18 q19 q20 q21 q22 q29 q30 q31 q32 q33) (fun _ => 0) (A00 0) (fun _ => 0) := by
    refine ⟨m0, fun k hk => ?_, ?_, ?_, fun k k' hk hk' e => ?_, fun _ _ _ => rfl⟩
    · have e0 : A00 0 k = fun _ => 0 := by unfold A00; by_cases z : k = 17; subst z; rfl; rw [va_up_ne _ _ z]
      rw [e0]
      rcases isR_c (isA_R hk) with rfl | rfl | rfl | rfl | rfl | rfl | rfl | rfl | rfl | rfl | rfl | rfl | rfl | rfl | rfl | rfl | rfl | rfl | rfl | rfl | rfl | rfl | rfl
      · cases hk
      · exact (m1 (q5, _) (List.mem_of_getElem? (i := 21) rfl)).1
      · exact (m1 (q6, _) (List.mem_of_getElem? (i := 20) rfl)).1
      · cases hk
      · exact (m1 (q8, _) (List.mem_of_getElem? (i := 18) rfl)).1
      · exact (m1 (q10, _) (List.mem_of_getElem? (i := 17) rfl)).1
      · exact (m1 (q11, _) (List.mem_of_getElem? (i := 16) rfl)).1
      · exact (m1 (q12, _) (List.mem_of_getElem? (i := 15) rfl)).1
      · exact (m1 (q13, _) (List.mem_of_getElem? (i := 14) rfl)).1
      · exact (m1 (q14, _) (List.mem_of_getElem? (i := 13) rfl)).1
      · exact (m1 (q15, _) (List.mem_of_getElem? (i := 12) rfl)).1
      · exact (m1 (q16, _) (List.mem_of_getElem? (i := 11) rfl)).1
      · exact (m1 (q17, _) (List.mem_of_getElem? (i := 10) rfl)).1
      · exact (m1 (q18, _) (List.mem_of_getElem? (i := 9) rfl)).1
      · exact (m1 (q19, _) (List.mem_of_getElem? (i := 8) rfl)).1
      · exact (m1 (q20, _) (List.mem_of_getElem? (i := 7) rfl)).1
      · exact (m1 (q21, _) (List.mem_of_getElem? (i := 6) rfl)).1
      · exact (m1 (q22, _) (List.mem_of_getElem? (i := 5) rfl)).1
      · exact (m1 (q29, _) (List.mem_of_getElem? (i := 4) rfl)).1
      · exact (m1 (q30, _) (List.mem_of_getElem? (i := 3) rfl)).1
      · exact (m1 (q31, _) (List.mem_of_getElem? (i := 2) rfl)).1
      · exact (m1 (q32, _) (List.mem_of_getElem? (i := 1) rfl)).1
      · exact (m1 (q33, _) (List.mem_of_getElem? (i := 0) rfl)).1
    · exact (m1 (q4, _) (List.mem_of_getElem? (i := 22) rfl)).1
    · exact (m1 (q7, _) (List.mem_of_getElem? (i := 19) rfl)).1
    · obtain ⟨c1, c2⟩ := adq_l hk
      obtain ⟨c3, c4⟩ := adq_l hk'
      have hk34 : k < 34 := by have := isR_c hk; omega
      have hk34' : k' < 34 := by have := isR_c hk'; omega
      refine ixq_i k hk34 k' hk34' hk hk' ((List.getElem?_inj c1 m2).mp ?_)
      exact c2.trans (by rw [e]; exact c4.symm)
  have fre : ∀ k, isR k = true → h (adq q4 q5 q6 q7 q8 q10 q11 q12 q13 q14 q15 q16 q17 q18 q19 q20 q21 q22 q29 q30 q31 q32 q33 k) = none := by
    intro k hk
    rcases isR_c hk with rfl | rfl | rfl | rfl | rfl | rfl | rfl | rfl | rfl | rfl | rfl | rfl | rfl | rfl | rfl | rfl | rfl | rfl | rfl | rfl | rfl | rfl | rfl
    · exact (m1 (q4, _) (List.mem_of_getElem? (i := 22) rfl)).2.2
    · exact (m1 (q5, _) (List.mem_of_getElem? (i := 21) rfl)).2.2
    · exact (m1 (q6, _) (List.mem_of_getElem? (i := 20) rfl)).2.2
    · exact (m1 (q7, _) (List.mem_of_getElem? (i := 19) rfl)).2.2
    · exact (m1 (q8, _) (List.mem_of_getElem? (i := 18) rfl)).2.2
    · exact (m1 (q10, _) (List.mem_of_getElem? (i := 17) rfl)).2.2
    · exact (m1 (q11, _) (List.mem_of_getElem? (i := 16) rfl)).2.2
    · exact (m1 (q12, _) (List.mem_of_getElem? (i := 15) rfl)).2.2
    · exact (m1 (q13, _) (List.mem_of_getElem? (i := 14) rfl)).2.2
    · exact (m1 (q14, _) (List.mem_of_getElem? (i := 13) rfl)).2.2
    · exact (m1 (q15, _) (List.mem_of_getElem? (i := 12) rfl)).2.2
    · exact (m1 (q16, _) (List.mem_of_getElem? (i := 11) rfl)).2.2
    · exact (m1 (q17, _) (List.mem_of_getElem? (i := 10) rfl)).2.2
    · exact (m1 (q18, _) (List.mem_of_getElem? (i := 9) rfl)).2.2
    · exact (m1 (q19, _) (List.mem_of_getElem? (i := 8) rfl)).2.2
    · exact (m1 (q20, _) (List.mem_of_getElem? (i := 7) rfl)).2.2
    · exact (m1 (q21, _) (List.mem_of_getElem? (i := 6) rfl)).2.2
    · exact (m1 (q22, _) (List.mem_of_getElem? (i := 5) rfl)).2.2
    · exact (m1 (q29, _) (List.mem_of_getElem? (i := 4) rfl)).2.2
    · exact (m1 (q30, _) (List.mem_of_getElem? (i := 3) rfl)).2.2
    · exact (m1 (q31, _) (List.mem_of_getElem? (i := 2) rfl)).2.2
    · exact (m1 (q32, _) (List.mem_of_getElem? (i := 1) rfl)).2.2
    · exact (m1 (q33, _) (List.mem_of_getElem? (i := 0) rfl)).2.2
  generalize adq q4 q5 q6 q7 q8 q10 q11 q12 q13 q14 q15 q16 q17 q18 q19 q20 q21 q22 q29 q30 q31 q32 q33 = ad at *
  clear m0 m1 m2
  refine ev_iconst (v := 0) i_mo_init_192 (by decide) ?_
  refine ev_istore_1 i_mo_init_193 rfl ?_
  have loop : ∀ (q j : Nat) (h' : ev_H), j + q = 16 → MI G hh h' a ad (fun _ => 0) (A00 j) (fun _ => 0) → Ev G M_mo_init 1 0 0 (ev_qv fun h' => kx a h h' ∧ ∃ ad : Nat → Nat, MI G h' h' a ad (fun _ => 0) (A00 16) (fun _ => 0) ∧ ∀ k, isR k = true → h (ad k) = none) 194 [some (.ref a), some (.int (nI j))] [] h' := by
    intro q
    induction q with
    | zero =>
      intro j h' hj H
      obtain rfl : j = 16 := by omega
      refine ev_iload_1 i_mo_init_194 ?_
      refine ev_bipush (v := 16) i_mo_init_195 (by decide) ?_
      refine ev_icmp_ge i_mo_init_197 (fun c_197 => ?_) (fun c_197 => ?_)
      rotate_left
      · exact absurd (by decide) c_197
      refine ev_return i_mo_init_213 rfl ?_
      refine ⟨rfl, fun r e hr hx => ?_, ad, MI_b H, fre⟩
      have := m3 r e hr hx
      rw [H.2.2.2.2.2 r hx (fun k hk z => by subst z; rw [fre k hk] at hr; cases hr)]
      exact this
    | succ q ih =>
      intro j h' hj H
      refine ev_iload_1 i_mo_init_194 ?_
      refine ev_bipush (v := 16) i_mo_init_195 (by decide) ?_
      refine ev_icmp_ge i_mo_init_197 (fun c_197 => ?_) (fun c_197 => ?_)
      · exact absurd c_197 (show ¬ nI 16 ≤ nI j from nI_ge (by omega) (by omega))
      refine ev_aload_0 i_mo_init_200 ?_
      refine ev_get i_mo_init_201 fl_mo_48 H.1 rfl ?_
      refine ev_iload_1 i_mo_init_204 ?_
      refine ev_iconst (v := (-1)) i_mo_init_205 (by decide) ?_
      refine ev_is (L := 16) i_mo_init_206 H rfl rfl (j := j) rfl (by omega) (by omega) (fun h H => ?_)
      refine ev_iinc_1 i_mo_init_207 (nI_1 j) rfl ?_
      refine ev_goto i_mo_init_210 ?_
      refine ih (j + 1) _ (by omega) ?_
      have e : va_up (A00 j) 17 (upd (A00 j 17) j (-1)) = A00 (j + 1) := by
        unfold A00
        rw [hu_uu]
        congr 1
        funext t
        show (if t = j then (-1 : Int32) else if t < j then -1 else 0) = _
        by_cases z : t = j
        · subst z; rw [if_pos rfl, if_pos (by omega)]
        · rw [if_neg z]
          by_cases y : t < j
          · rw [if_pos y, if_pos (by omega)]
          · rw [if_neg y, if_neg (by omega)]
      rw [← e]
      exact H
  exact loop 16 0 hh (by omega) H
end MIN
