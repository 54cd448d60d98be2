section FO
variable {G : ev_G} {h : ev_H}
abbrev fo_c (b r n : Nat) : va_E := .inr (0, [.int (nI r), .ref b, .int (nI n)])
abbrev fo_b (G : ev_G) (r : Nat) (B : Nat → Int64) : va_E := .inl (G.2 1, 3 * r, .inr (.inl B))
/-- the i-th choice, as a set of codes -/
def cs (B : Nat → Int64) (i c : Nat) : Bool := lb (B (3 * i + c / 64)) (c % 64)
theorem r_fo_size {a b r n : Nat} (ha : h a = some (fo_c b r n)) : Rn G M_fo_size 0 0 0 [.ref a] h (ev_qi fun x h' => x = nI n ∧ h' = h) := by
  refine Rn_of (ls := [some (.ref a)]) rfl rfl (Nat.le_of_ble_eq_true rfl) rfl ?_
  refine ev_aload_0 i_fo_size_0 ?_
  refine ev_get i_fo_size_1 fl_fo_9 (by repeat (first | assumption | exact va_up_self _ _ _ | refine hu_ne (by first | assumption | exact Ne.symm (by assumption)) ?_)) rfl ?_
  refine ev_ireturn i_fo_size_4 rfl rfl ?_
  exact ⟨_, rfl, rfl, rfl⟩
theorem r_fo_clear {a b r n : Nat} (ha : h a = some (fo_c b r n)) : Rn G M_fo_clear 0 0 0 [.ref a] h (ev_qv fun h' => h' = va_up h a (some (fo_c b r 0))) := by
  refine Rn_of (ls := [some (.ref a)]) rfl rfl (Nat.le_of_ble_eq_true rfl) rfl ?_
  refine ev_aload_0 i_fo_clear_0 ?_
  refine ev_iconst (v := 0) i_fo_clear_1 (by decide) ?_
  refine ev_put i_fo_clear_2 pl_fo_clear_9 (by repeat (first | assumption | exact va_up_self _ _ _ | refine hu_ne (by first | assumption | exact Ne.symm (by assumption)) ?_)) rfl rfl (Nat.le_of_ble_eq_true rfl) rfl ?_
  refine ev_return i_fo_clear_5 rfl ?_
  exact ⟨rfl, rfl⟩
theorem r_fo_holds {a b r n p c : Nat} {B : Nat → Int64} (ha : h a = some (fo_c b r n)) (hb : h b = some (fo_b G r B)) (hr : r < 2 ^ 20) (hn : n ≤ r) (hp : p < n) (hc : c < 144) :
    Rn G M_fo_holds 0 0 0 [.ref a, .int (nI p), .int (nI c)] h (ev_qi fun x h' => x = (if cs B p c then 1 else 0) ∧ h' = h) := by
  refine Rn_of (ls := [some (.ref a), some (.int (nI p)), some (.int (nI c))]) rfl rfl (Nat.le_of_ble_eq_true rfl) rfl ?_
  refine ev_iload_1 i_fo_holds_0 ?_
  refine ev_if_lt i_fo_holds_1 (fun c_1 => ?_) (fun c_1 => ?_)
  · exact absurd c_1 (nI_pos (by omega))
  refine ev_iload_1 i_fo_holds_4 ?_
  refine ev_aload_0 i_fo_holds_5 ?_
  refine ev_get i_fo_holds_6 fl_fo_9 (by repeat (first | assumption | exact va_up_self _ _ _ | refine hu_ne (by first | assumption | exact Ne.symm (by assumption)) ?_)) rfl ?_
  refine ev_icmp_ge i_fo_holds_9 (fun c_9 => ?_) (fun c_9 => ?_)
  · exact absurd c_9 (nI_ge hp (by omega))
  refine ev_iload_2 i_fo_holds_12 ?_
  refine ev_if_lt i_fo_holds_13 (fun c_13 => ?_) (fun c_13 => ?_)
  · exact absurd c_13 (nI_pos (by omega))
  refine ev_iload_2 i_fo_holds_16 ?_
  refine ev_sipush (v := 144) i_fo_holds_17 (by decide) ?_
  refine ev_icmp_lt i_fo_holds_20 (fun c_20 => ?_) (fun c_20 => ?_)
  rotate_left
  · exact absurd (show nI c < nI 144 from nI_lt hc (by omega)) c_20
  refine ev_aload_0 i_fo_holds_25 ?_
  refine ev_get i_fo_holds_26 fl_fo_24 (by repeat (first | assumption | exact va_up_self _ _ _ | refine hu_ne (by first | assumption | exact Ne.symm (by assumption)) ?_)) rfl ?_
  refine ev_iload_1 i_fo_holds_29 ?_
  refine ev_iconst (v := 3) i_fo_holds_30 (by decide) ?_
  refine ev_imul i_fo_holds_31 ?_
  refine ev_iload_2 i_fo_holds_32 ?_
  refine ev_bipush (v := 6) i_fo_holds_33 (by decide) ?_
  refine ev_ishr i_fo_holds_35 ?_
  refine ev_iadd i_fo_holds_36 ?_
  refine ev_laload i_fo_holds_37 ty_long (by repeat (first | assumption | exact va_up_self _ _ _ | refine hu_ne (by first | assumption | exact Ne.symm (by assumption)) ?_)) (j := 3 * p + c / 64) (by rw [nI_shr6 (by omega), nI_3, pk_mul, nI_add, Nat.mul_comm]) (by omega) (by omega) ?_
  refine ev_iload_2 i_fo_holds_38 ?_
  refine ev_bipush (v := 63) i_fo_holds_39 (by decide) ?_
  refine ev_iand i_fo_holds_41 ?_
  refine ev_lushr i_fo_holds_42 ?_
  refine ev_lconst (v := 1) i_fo_holds_43 (by decide) ?_
  refine ev_land i_fo_holds_44 ?_
  refine ev_lconst (v := 0) i_fo_holds_45 (by decide) ?_
  refine ev_lcmp i_fo_holds_46 ?_
  refine ev_if_eq i_fo_holds_47 (fun c_47 => ?_) (fun c_47 => ?_)
  · rw [lg_cmp0, nI_and63 (by omega), lb_tst (by omega)] at c_47
    refine ev_iconst (v := 0) i_fo_holds_54 (by decide) ?_
    refine ev_ireturn i_fo_holds_55 rfl rfl ?_
    exact ⟨_, rfl, by unfold cs; rw [c_47]; rfl, rfl⟩
  · rw [lg_cmp0, nI_and63 (by omega), lb_tst (by omega)] at c_47
    refine ev_iconst (v := 1) i_fo_holds_50 (by decide) ?_
    refine ev_goto i_fo_holds_51 ?_
    refine ev_ireturn i_fo_holds_55 rfl rfl ?_
    exact ⟨_, rfl, by unfold cs; rw [bn_t c_47]; rfl, rfl⟩
theorem r_fo_holds_out {a b r n : Nat} {place code : Int32} (ha : h a = some (fo_c b r n)) (hn : n < 2 ^ 31) (hp : place < 0 ∨ nI n ≤ place) :
    Rn G M_fo_holds 0 0 0 [.ref a, .int place, .int code] h (ev_qi fun x h' => x = 0 ∧ h' = h) := by
  refine Rn_of (ls := [some (.ref a), some (.int place), some (.int code)]) rfl rfl (Nat.le_of_ble_eq_true rfl) rfl ?_
  refine ev_iload_1 i_fo_holds_0 ?_
  refine ev_if_lt i_fo_holds_1 (fun c_1 => ?_) (fun c_1 => ?_)
  · refine ev_iconst (v := 0) i_fo_holds_23 (by decide) ?_
    refine ev_ireturn i_fo_holds_24 rfl rfl ?_
    exact ⟨_, rfl, rfl, rfl⟩
  refine ev_iload_1 i_fo_holds_4 ?_
  refine ev_aload_0 i_fo_holds_5 ?_
  refine ev_get i_fo_holds_6 fl_fo_9 (by repeat (first | assumption | exact va_up_self _ _ _ | refine hu_ne (by first | assumption | exact Ne.symm (by assumption)) ?_)) rfl ?_
  refine ev_icmp_ge i_fo_holds_9 (fun c_9 => ?_) (fun c_9 => ?_)
  · refine ev_iconst (v := 0) i_fo_holds_23 (by decide) ?_
    refine ev_ireturn i_fo_holds_24 rfl rfl ?_
    exact ⟨_, rfl, rfl, rfl⟩
  · exact absurd hp (by rintro (q | q); exact c_1 q; exact c_9 q)
/-- a choice as three longs; a row of choices; one within another; both joined -/
abbrev T3 : Type := Int64 × Int64 × Int64
def c3 (B : Nat → Int64) (i : Nat) : T3 := (B (3 * i), B (3 * i + 1), B (3 * i + 2))
def li (n : Nat) (B : Nat → Int64) : List T3 := (List.range n).map (c3 B)
def t3le (x y : T3) : Bool := decide ((x.1 &&& (y.1 ^^^ (-1))) = 0) && (decide ((x.2.1 &&& (y.2.1 ^^^ (-1))) = 0) && decide ((x.2.2 &&& (y.2.2 ^^^ (-1))) = 0))
def t3or (x y : T3) : T3 := (x.1 ||| y.1, x.2.1 ||| y.2.1, x.2.2 ||| y.2.2)
theorem t3le_1 {x y : T3} (h : ¬ (x.1 &&& (y.1 ^^^ (-1))) = 0) : t3le x y = false := by unfold t3le; rw [decide_eq_false h]; rfl
theorem t3le_2 {x y : T3} (h : ¬ (x.2.1 &&& (y.2.1 ^^^ (-1))) = 0) : t3le x y = false := by unfold t3le; rw [decide_eq_false h]; simp only [Bool.false_and, Bool.and_false]
theorem t3le_3 {x y : T3} (h : ¬ (x.2.2 &&& (y.2.2 ^^^ (-1))) = 0) : t3le x y = false := by unfold t3le; rw [decide_eq_false h]; simp only [Bool.and_false]
theorem t3le_t {x y : T3} (h1 : (x.1 &&& (y.1 ^^^ (-1))) = 0) (h2 : (x.2.1 &&& (y.2.1 ^^^ (-1))) = 0) (h3 : (x.2.2 &&& (y.2.2 ^^^ (-1))) = 0) : t3le x y = true := by unfold t3le; rw [decide_eq_true h1, decide_eq_true h2, decide_eq_true h3]; rfl
theorem li_succ (n : Nat) (B : Nat → Int64) : li (n + 1) B = li n B ++ [c3 B n] := by unfold li; rw [List.range_succ, List.map_append]; rfl
theorem li_len (n : Nat) (B : Nat → Int64) : (li n B).length = n := by unfold li; simp
theorem li_congr {n : Nat} {B C : Nat → Int64} (h : ∀ i, i < n → c3 B i = c3 C i) : li n B = li n C := by
  unfold li
  apply List.map_congr_left
  intro i hi
  exact h i (List.mem_range.mp hi)
theorem r_fo_hasOneWithin {a b r n : Nat} {B : Nat → Int64} {x y z : Int64} (ha : h a = some (fo_c b r n)) (hb : h b = some (fo_b G r B)) (hr : r < 2 ^ 20) (hn : n ≤ r) :
    Rn G M_fo_hasOneWithin 0 0 0 [.ref a, .long x, .long y, .long z] h (ev_qi fun v h' => v = (if (li n B).any (fun q => t3le q (x, y, z)) then 1 else 0) ∧ h' = h) := by
  refine Rn_of (ls := [some (.ref a), some (.long x), none, some (.long y), none, some (.long z), none, none]) rfl rfl (Nat.le_of_ble_eq_true rfl) rfl ?_
  refine ev_iconst (v := 0) i_fo_hasOneWithin_0 (by decide) ?_
  refine ev_istore_7 i_fo_hasOneWithin_1 rfl ?_
  have loop : ∀ k j : Nat, j + k = n → (li j B).any (fun q => t3le q (x, y, z)) = false → Ev G M_fo_hasOneWithin 0 0 0 (ev_qi fun v h' => v = (if (li n B).any (fun q => t3le q (x, y, z)) then 1 else 0) ∧ h' = h) 3 [some (.ref a), some (.long x), none, some (.long y), none, some (.long z), none, some (.int (nI j))] [] h := by
    intro k
    induction k with
    | zero =>
      intro j hj hi
      refine ev_iload_7 i_fo_hasOneWithin_3 ?_
      refine ev_aload_0 i_fo_hasOneWithin_5 ?_
      refine ev_get i_fo_hasOneWithin_6 fl_fo_9 (by repeat (first | assumption | exact va_up_self _ _ _ | refine hu_ne (by first | assumption | exact Ne.symm (by assumption)) ?_)) rfl ?_
      refine ev_icmp_ge i_fo_hasOneWithin_9 (fun c_9 => ?_) (fun c_9 => ?_)
      · refine ev_iconst (v := 0) i_fo_hasOneWithin_85 (by decide) ?_
        refine ev_ireturn i_fo_hasOneWithin_86 rfl rfl ?_
        obtain rfl : j = n := by omega
        exact ⟨_, rfl, by rw [hi]; rfl, rfl⟩
      · exact absurd (nI_le (by omega) (by omega)) c_9
    | succ k ih =>
      intro j hj hi
      have hany : (li n B).any (fun q => t3le q (x, y, z)) = false → t3le (c3 B j) (x, y, z) = false := by
        intro hh
        exact bn_f (fun ht => by
          have := List.any_eq_false.mp hh (c3 B j) (List.mem_map.mpr ⟨j, List.mem_range.mpr (by omega), rfl⟩)
          exact this ht)
      have step : t3le (c3 B j) (x, y, z) = false → Ev G M_fo_hasOneWithin 0 0 0 (ev_qi fun v h' => v = (if (li n B).any (fun q => t3le q (x, y, z)) then 1 else 0) ∧ h' = h) 79 [some (.ref a), some (.long x), none, some (.long y), none, some (.long z), none, some (.int (nI j))] [] h := by
        intro hf
        refine ev_iinc_7 i_fo_hasOneWithin_79 (nI_1 j) rfl ?_
        refine ev_goto i_fo_hasOneWithin_82 ?_
        exact ih (j + 1) (by omega) (by rw [li_succ, List.any_append, hi]; simp [hf])
      refine ev_iload_7 i_fo_hasOneWithin_3 ?_
      refine ev_aload_0 i_fo_hasOneWithin_5 ?_
      refine ev_get i_fo_hasOneWithin_6 fl_fo_9 (by repeat (first | assumption | exact va_up_self _ _ _ | refine hu_ne (by first | assumption | exact Ne.symm (by assumption)) ?_)) rfl ?_
      refine ev_icmp_ge i_fo_hasOneWithin_9 (fun c_9 => ?_) (fun c_9 => ?_)
      · exact absurd c_9 (nI_ge (by omega) (by omega))
      refine ev_aload_0 i_fo_hasOneWithin_12 ?_
      refine ev_get i_fo_hasOneWithin_13 fl_fo_24 (by repeat (first | assumption | exact va_up_self _ _ _ | refine hu_ne (by first | assumption | exact Ne.symm (by assumption)) ?_)) rfl ?_
      refine ev_iload_7 i_fo_hasOneWithin_16 ?_
      refine ev_iconst (v := 3) i_fo_hasOneWithin_18 (by decide) ?_
      refine ev_imul i_fo_hasOneWithin_19 ?_
      refine ev_laload i_fo_hasOneWithin_20 ty_long (by repeat (first | assumption | exact va_up_self _ _ _ | refine hu_ne (by first | assumption | exact Ne.symm (by assumption)) ?_)) (j := 3 * j) (by rw [nI_3, pk_mul, Nat.mul_comm]) (by omega) (by omega) ?_
      refine ev_lload_1 i_fo_hasOneWithin_21 ?_
      refine ev_ldc2 i_fo_hasOneWithin_22 kc_fo_55 ?_
      refine ev_lxor i_fo_hasOneWithin_25 ?_
      refine ev_land i_fo_hasOneWithin_26 ?_
      refine ev_lconst (v := 0) i_fo_hasOneWithin_27 (by decide) ?_
      refine ev_lcmp i_fo_hasOneWithin_28 ?_
      refine ev_if_ne i_fo_hasOneWithin_29 (fun c_29 => ?_) (fun c_29 => ?_)
      · exact step (t3le_1 (by rw [lg_cmp0] at c_29; exact c_29))
      refine ev_aload_0 i_fo_hasOneWithin_32 ?_
      refine ev_get i_fo_hasOneWithin_33 fl_fo_24 (by repeat (first | assumption | exact va_up_self _ _ _ | refine hu_ne (by first | assumption | exact Ne.symm (by assumption)) ?_)) rfl ?_
      refine ev_iload_7 i_fo_hasOneWithin_36 ?_
      refine ev_iconst (v := 3) i_fo_hasOneWithin_38 (by decide) ?_
      refine ev_imul i_fo_hasOneWithin_39 ?_
      refine ev_iconst (v := 1) i_fo_hasOneWithin_40 (by decide) ?_
      refine ev_iadd i_fo_hasOneWithin_41 ?_
      refine ev_laload i_fo_hasOneWithin_42 ty_long (by repeat (first | assumption | exact va_up_self _ _ _ | refine hu_ne (by first | assumption | exact Ne.symm (by assumption)) ?_)) (j := 3 * j + 1) (by rw [nI_3, pk_mul, Nat.mul_comm, nI_1]) (by omega) (by omega) ?_
      refine ev_lload_3 i_fo_hasOneWithin_43 ?_
      refine ev_ldc2 i_fo_hasOneWithin_44 kc_fo_55 ?_
      refine ev_lxor i_fo_hasOneWithin_47 ?_
      refine ev_land i_fo_hasOneWithin_48 ?_
      refine ev_lconst (v := 0) i_fo_hasOneWithin_49 (by decide) ?_
      refine ev_lcmp i_fo_hasOneWithin_50 ?_
      refine ev_if_ne i_fo_hasOneWithin_51 (fun c_51 => ?_) (fun c_51 => ?_)
      · exact step (t3le_2 (by rw [lg_cmp0] at c_51; exact c_51))
      refine ev_aload_0 i_fo_hasOneWithin_54 ?_
      refine ev_get i_fo_hasOneWithin_55 fl_fo_24 (by repeat (first | assumption | exact va_up_self _ _ _ | refine hu_ne (by first | assumption | exact Ne.symm (by assumption)) ?_)) rfl ?_
      refine ev_iload_7 i_fo_hasOneWithin_58 ?_
      refine ev_iconst (v := 3) i_fo_hasOneWithin_60 (by decide) ?_
      refine ev_imul i_fo_hasOneWithin_61 ?_
      refine ev_iconst (v := 2) i_fo_hasOneWithin_62 (by decide) ?_
      refine ev_iadd i_fo_hasOneWithin_63 ?_
      refine ev_laload i_fo_hasOneWithin_64 ty_long (by repeat (first | assumption | exact va_up_self _ _ _ | refine hu_ne (by first | assumption | exact Ne.symm (by assumption)) ?_)) (j := 3 * j + 2) (by rw [nI_3, pk_mul, Nat.mul_comm]; exact nI_add _ 2) (by omega) (by omega) ?_
      refine ev_lload_5 i_fo_hasOneWithin_65 ?_
      refine ev_ldc2 i_fo_hasOneWithin_67 kc_fo_55 ?_
      refine ev_lxor i_fo_hasOneWithin_70 ?_
      refine ev_land i_fo_hasOneWithin_71 ?_
      refine ev_lconst (v := 0) i_fo_hasOneWithin_72 (by decide) ?_
      refine ev_lcmp i_fo_hasOneWithin_73 ?_
      refine ev_if_ne i_fo_hasOneWithin_74 (fun c_74 => ?_) (fun c_74 => ?_)
      · exact step (t3le_3 (by rw [lg_cmp0] at c_74; exact c_74))
      refine ev_iconst (v := 1) i_fo_hasOneWithin_77 (by decide) ?_
      refine ev_ireturn i_fo_hasOneWithin_78 rfl rfl ?_
      rw [lg_cmp0] at c_29 c_51 c_74
      have ht : (li n B).any (fun q => t3le q (x, y, z)) = true := List.any_eq_true.mpr ⟨c3 B j, List.mem_map.mpr ⟨j, List.mem_range.mpr (by omega), rfl⟩, t3le_t c_29 c_51 c_74⟩
      exact ⟨_, rfl, by rw [ht]; rfl, rfl⟩
  exact loop n 0 (by omega) rfl
theorem dc_move {C : Nat → Int64} {q j : Nat} (hq : q ≤ j) (i : Nat) (hi : i < q ∨ i = q ∨ j < i) :
    c3 (vp_updL (vp_updL (vp_updL C (3 * q) (C (3 * j))) (3 * q + 1) (vp_updL C (3 * q) (C (3 * j)) (3 * j + 1))) (3 * q + 2) (vp_updL (vp_updL C (3 * q) (C (3 * j))) (3 * q + 1) (vp_updL C (3 * q) (C (3 * j)) (3 * j + 1)) (3 * j + 2))) i = if i = q then c3 C j else c3 C i := by
  by_cases e : i = q
  · subst e
    rw [if_pos rfl]
    unfold c3 vp_updL
    by_cases e2 : i = j
    · subst e2; simp
    · simp
      refine ⟨?_, ?_⟩
      · intro z; omega
      · rw [if_neg (by omega), if_neg (by omega)]
  · rw [if_neg e]
    unfold c3 vp_updL
    rw [if_neg (by omega), if_neg (by omega), if_neg (by omega), if_neg (by omega), if_neg (by omega), if_neg (by omega), if_neg (by omega), if_neg (by omega), if_neg (by omega)]
theorem r_fo_dropThoseWith {a b r n : Nat} {B : Nat → Int64} {x y z : Int64} (ha : h a = some (fo_c b r n)) (hb : h b = some (fo_b G r B)) (hr : r < 2 ^ 20) (hn : n ≤ r) :
    Rn G M_fo_dropThoseWith 0 0 0 [.ref a, .long x, .long y, .long z] h (ev_qv fun h' => ∃ (C : Nat → Int64) (q : Nat), h' = va_up (va_up h b (some (fo_b G r C))) a (some (fo_c b r q)) ∧ q ≤ n ∧ li q C = (li n B).filter (fun s => !t3le (x, y, z) s)) := by
  have hab : a ≠ b := by intro e; subst e; rw [ha] at hb; cases hb
  refine Rn_of (ls := [some (.ref a), some (.long x), none, some (.long y), none, some (.long z), none, none, none, none, none]) rfl rfl (Nat.le_of_ble_eq_true rfl) rfl ?_
  refine ev_iconst (v := 0) i_fo_dropThoseWith_0 (by decide) ?_
  refine ev_istore_7 i_fo_dropThoseWith_1 rfl ?_
  refine ev_iconst (v := 0) i_fo_dropThoseWith_3 (by decide) ?_
  refine ev_istore_8 i_fo_dropThoseWith_4 rfl ?_
  have loop : ∀ (k j q : Nat) (C : Nat → Int64) (w9 w10 : Option Value), ev_nl w9 = true → ev_nl w10 = true → j + k = n → q ≤ j → li q C = (li j B).filter (fun s => !t3le (x, y, z) s) → (∀ i, j ≤ i → c3 C i = c3 B i) → Ev G M_fo_dropThoseWith 0 0 0 (ev_qv fun h' => ∃ (C : Nat → Int64) (q : Nat), h' = va_up (va_up h b (some (fo_b G r C))) a (some (fo_c b r q)) ∧ q ≤ n ∧ li q C = (li n B).filter (fun s => !t3le (x, y, z) s)) 6 [some (.ref a), some (.long x), none, some (.long y), none, some (.long z), none, some (.int (nI q)), some (.int (nI j)), w9, w10] [] (va_up h b (some (fo_b G r C))) := by
    intro k
    induction k with
    | zero =>
      intro j q C w9 w10 hw9 hw10 hj hq hl hC
      refine ev_iload_8 i_fo_dropThoseWith_6 ?_
      refine ev_aload_0 i_fo_dropThoseWith_8 ?_
      refine ev_get i_fo_dropThoseWith_9 fl_fo_9 (by repeat (first | assumption | exact va_up_self _ _ _ | refine hu_ne (by first | assumption | exact Ne.symm (by assumption)) ?_)) rfl ?_
      refine ev_icmp_ge i_fo_dropThoseWith_12 (fun c_12 => ?_) (fun c_12 => ?_)
      · refine ev_aload_0 i_fo_dropThoseWith_140 ?_
        refine ev_iload_7 i_fo_dropThoseWith_141 ?_
        refine ev_put i_fo_dropThoseWith_143 pl_fo_dropThoseWith_9 (by repeat (first | assumption | exact va_up_self _ _ _ | refine hu_ne (by first | assumption | exact Ne.symm (by assumption)) ?_)) rfl rfl (Nat.le_of_ble_eq_true rfl) rfl ?_
        refine ev_return i_fo_dropThoseWith_146 rfl ?_
        obtain rfl : j = n := by omega
        exact ⟨rfl, C, q, rfl, hq, hl⟩
      · exact absurd (nI_le (by omega) (by omega)) c_12
    | succ k ih =>
      intro j q C w9 w10 hw9 hw10 hj hq hl hC
      have e0 : c3 C j = c3 B j := hC j (Nat.le_refl j)
      have keep : t3le (x, y, z) (c3 B j) = false → Ev G M_fo_dropThoseWith 0 0 0 (ev_qv fun h' => ∃ (C : Nat → Int64) (q : Nat), h' = va_up (va_up h b (some (fo_b G r C))) a (some (fo_c b r q)) ∧ q ≤ n ∧ li q C = (li n B).filter (fun s => !t3le (x, y, z) s)) 84 [some (.ref a), some (.long x), none, some (.long y), none, some (.long z), none, some (.int (nI q)), some (.int (nI j)), w9, w10] [] (va_up h b (some (fo_b G r C))) := by
        intro hf
        refine ev_iconst (v := 0) i_fo_dropThoseWith_84 (by decide) ?_
        refine ev_istore_9 i_fo_dropThoseWith_85 rfl ?_
        refine ev_iload_9 i_fo_dropThoseWith_87 ?_
        refine ev_if_ne i_fo_dropThoseWith_89 (fun c_89 => ?_) (fun c_89 => ?_)
        · exact absurd rfl c_89
        refine ev_iconst (v := 0) i_fo_dropThoseWith_92 (by decide) ?_
        refine ev_istore_10 i_fo_dropThoseWith_93 rfl ?_
        refine ev_iload_10 i_fo_dropThoseWith_95 ?_
        refine ev_iconst (v := 3) i_fo_dropThoseWith_97 (by decide) ?_
        refine ev_icmp_ge i_fo_dropThoseWith_98 (fun c_98 => ?_) (fun c_98 => ?_)
        · exact absurd c_98 (by decide)
        refine ev_aload_0 i_fo_dropThoseWith_101 ?_
        refine ev_get i_fo_dropThoseWith_102 fl_fo_24 (by repeat (first | assumption | exact va_up_self _ _ _ | refine hu_ne (by first | assumption | exact Ne.symm (by assumption)) ?_)) rfl ?_
        refine ev_iload_7 i_fo_dropThoseWith_105 ?_
        refine ev_iconst (v := 3) i_fo_dropThoseWith_107 (by decide) ?_
        refine ev_imul i_fo_dropThoseWith_108 ?_
        refine ev_iload_10 i_fo_dropThoseWith_109 ?_
        refine ev_iadd i_fo_dropThoseWith_111 ?_
        refine ev_aload_0 i_fo_dropThoseWith_112 ?_
        refine ev_get i_fo_dropThoseWith_113 fl_fo_24 (by repeat (first | assumption | exact va_up_self _ _ _ | refine hu_ne (by first | assumption | exact Ne.symm (by assumption)) ?_)) rfl ?_
        refine ev_iload_8 i_fo_dropThoseWith_116 ?_
        refine ev_iconst (v := 3) i_fo_dropThoseWith_118 (by decide) ?_
        refine ev_imul i_fo_dropThoseWith_119 ?_
        refine ev_iload_10 i_fo_dropThoseWith_120 ?_
        refine ev_iadd i_fo_dropThoseWith_122 ?_
        refine ev_laload i_fo_dropThoseWith_123 ty_long (by repeat (first | assumption | exact va_up_self _ _ _ | refine hu_ne (by first | assumption | exact Ne.symm (by assumption)) ?_)) (j := 3 * j) (by rw [nI_3, pk_mul, Nat.mul_comm]; exact nI_add _ 0) (by omega) (by omega) ?_
        refine ev_lastore i_fo_dropThoseWith_124 ty_long (by repeat (first | assumption | exact va_up_self _ _ _ | refine hu_ne (by first | assumption | exact Ne.symm (by assumption)) ?_)) (j := 3 * q) (by rw [nI_3, pk_mul, Nat.mul_comm]; exact nI_add _ 0) (by omega) (by omega) ?_
        rw [hu_uu]
        refine ev_iinc_10 i_fo_dropThoseWith_125 rfl rfl ?_
        refine ev_goto i_fo_dropThoseWith_128 ?_
        refine ev_iload_10 i_fo_dropThoseWith_95 ?_
        refine ev_iconst (v := 3) i_fo_dropThoseWith_97 (by decide) ?_
        refine ev_icmp_ge i_fo_dropThoseWith_98 (fun c_98 => ?_) (fun c_98 => ?_)
        · exact absurd c_98 (by decide)
        refine ev_aload_0 i_fo_dropThoseWith_101 ?_
        refine ev_get i_fo_dropThoseWith_102 fl_fo_24 (by repeat (first | assumption | exact va_up_self _ _ _ | refine hu_ne (by first | assumption | exact Ne.symm (by assumption)) ?_)) rfl ?_
        refine ev_iload_7 i_fo_dropThoseWith_105 ?_
        refine ev_iconst (v := 3) i_fo_dropThoseWith_107 (by decide) ?_
        refine ev_imul i_fo_dropThoseWith_108 ?_
        refine ev_iload_10 i_fo_dropThoseWith_109 ?_
        refine ev_iadd i_fo_dropThoseWith_111 ?_
        refine ev_aload_0 i_fo_dropThoseWith_112 ?_
        refine ev_get i_fo_dropThoseWith_113 fl_fo_24 (by repeat (first | assumption | exact va_up_self _ _ _ | refine hu_ne (by first | assumption | exact Ne.symm (by assumption)) ?_)) rfl ?_
        refine ev_iload_8 i_fo_dropThoseWith_116 ?_
        refine ev_iconst (v := 3) i_fo_dropThoseWith_118 (by decide) ?_
        refine ev_imul i_fo_dropThoseWith_119 ?_
        refine ev_iload_10 i_fo_dropThoseWith_120 ?_
        refine ev_iadd i_fo_dropThoseWith_122 ?_
        refine ev_laload i_fo_dropThoseWith_123 ty_long (by repeat (first | assumption | exact va_up_self _ _ _ | refine hu_ne (by first | assumption | exact Ne.symm (by assumption)) ?_)) (j := 3 * j + 1) (by rw [nI_3, pk_mul, Nat.mul_comm]; exact nI_add _ 1) (by omega) (by omega) ?_
        refine ev_lastore i_fo_dropThoseWith_124 ty_long (by repeat (first | assumption | exact va_up_self _ _ _ | refine hu_ne (by first | assumption | exact Ne.symm (by assumption)) ?_)) (j := 3 * q + 1) (by rw [nI_3, pk_mul, Nat.mul_comm]; exact nI_add _ 1) (by omega) (by omega) ?_
        rw [hu_uu]
        refine ev_iinc_10 i_fo_dropThoseWith_125 rfl rfl ?_
        refine ev_goto i_fo_dropThoseWith_128 ?_
        refine ev_iload_10 i_fo_dropThoseWith_95 ?_
        refine ev_iconst (v := 3) i_fo_dropThoseWith_97 (by decide) ?_
        refine ev_icmp_ge i_fo_dropThoseWith_98 (fun c_98 => ?_) (fun c_98 => ?_)
        · exact absurd c_98 (by decide)
        refine ev_aload_0 i_fo_dropThoseWith_101 ?_
        refine ev_get i_fo_dropThoseWith_102 fl_fo_24 (by repeat (first | assumption | exact va_up_self _ _ _ | refine hu_ne (by first | assumption | exact Ne.symm (by assumption)) ?_)) rfl ?_
        refine ev_iload_7 i_fo_dropThoseWith_105 ?_
        refine ev_iconst (v := 3) i_fo_dropThoseWith_107 (by decide) ?_
        refine ev_imul i_fo_dropThoseWith_108 ?_
        refine ev_iload_10 i_fo_dropThoseWith_109 ?_
        refine ev_iadd i_fo_dropThoseWith_111 ?_
        refine ev_aload_0 i_fo_dropThoseWith_112 ?_
        refine ev_get i_fo_dropThoseWith_113 fl_fo_24 (by repeat (first | assumption | exact va_up_self _ _ _ | refine hu_ne (by first | assumption | exact Ne.symm (by assumption)) ?_)) rfl ?_
        refine ev_iload_8 i_fo_dropThoseWith_116 ?_
        refine ev_iconst (v := 3) i_fo_dropThoseWith_118 (by decide) ?_
        refine ev_imul i_fo_dropThoseWith_119 ?_
        refine ev_iload_10 i_fo_dropThoseWith_120 ?_
        refine ev_iadd i_fo_dropThoseWith_122 ?_
        refine ev_laload i_fo_dropThoseWith_123 ty_long (by repeat (first | assumption | exact va_up_self _ _ _ | refine hu_ne (by first | assumption | exact Ne.symm (by assumption)) ?_)) (j := 3 * j + 2) (by rw [nI_3, pk_mul, Nat.mul_comm]; exact nI_add _ 2) (by omega) (by omega) ?_
        refine ev_lastore i_fo_dropThoseWith_124 ty_long (by repeat (first | assumption | exact va_up_self _ _ _ | refine hu_ne (by first | assumption | exact Ne.symm (by assumption)) ?_)) (j := 3 * q + 2) (by rw [nI_3, pk_mul, Nat.mul_comm]; exact nI_add _ 2) (by omega) (by omega) ?_
        rw [hu_uu]
        refine ev_iinc_10 i_fo_dropThoseWith_125 rfl rfl ?_
        refine ev_goto i_fo_dropThoseWith_128 ?_
        refine ev_iload_10 i_fo_dropThoseWith_95 ?_
        refine ev_iconst (v := 3) i_fo_dropThoseWith_97 (by decide) ?_
        refine ev_icmp_ge i_fo_dropThoseWith_98 (fun c_98 => ?_) (fun c_98 => ?_)
        rotate_left
        · exact absurd (by decide) c_98
        refine ev_iinc_7 i_fo_dropThoseWith_131 (nI_1 q) rfl ?_
        refine ev_iinc_8 i_fo_dropThoseWith_134 (nI_1 j) rfl ?_
        refine ev_goto i_fo_dropThoseWith_137 ?_
        refine ih (j + 1) (q + 1) _ _ _ rfl rfl (by omega) (by omega) ?_ ?_
        · rw [li_succ, li_succ, List.filter_append, ← hl]
          have f1 : (List.filter (fun s => !t3le (x, y, z) s) [c3 B j]) = [c3 B j] := by simp [hf]
          rw [f1, dc_move hq q (Or.inr (Or.inl rfl)), if_pos rfl, e0]
          congr 1
          refine li_congr (fun i hi => ?_)
          rw [dc_move hq i (Or.inl hi), if_neg (by omega)]
        · intro i hi
          rw [dc_move hq i (Or.inr (Or.inr (by omega))), if_neg (by omega)]
          exact hC i (by omega)
      refine ev_iload_8 i_fo_dropThoseWith_6 ?_
      refine ev_aload_0 i_fo_dropThoseWith_8 ?_
      refine ev_get i_fo_dropThoseWith_9 fl_fo_9 (by repeat (first | assumption | exact va_up_self _ _ _ | refine hu_ne (by first | assumption | exact Ne.symm (by assumption)) ?_)) rfl ?_
      refine ev_icmp_ge i_fo_dropThoseWith_12 (fun c_12 => ?_) (fun c_12 => ?_)
      · exact absurd c_12 (nI_ge (by omega) (by omega))
      refine ev_lload_1 i_fo_dropThoseWith_15 ?_
      refine ev_aload_0 i_fo_dropThoseWith_16 ?_
      refine ev_get i_fo_dropThoseWith_17 fl_fo_24 (by repeat (first | assumption | exact va_up_self _ _ _ | refine hu_ne (by first | assumption | exact Ne.symm (by assumption)) ?_)) rfl ?_
      refine ev_iload_8 i_fo_dropThoseWith_20 ?_
      refine ev_iconst (v := 3) i_fo_dropThoseWith_22 (by decide) ?_
      refine ev_imul i_fo_dropThoseWith_23 ?_
      refine ev_laload i_fo_dropThoseWith_24 ty_long (by repeat (first | assumption | exact va_up_self _ _ _ | refine hu_ne (by first | assumption | exact Ne.symm (by assumption)) ?_)) (j := 3 * j) (by rw [nI_3, pk_mul, Nat.mul_comm]) (by omega) (by omega) ?_
      refine ev_ldc2 i_fo_dropThoseWith_25 kc_fo_55 ?_
      refine ev_lxor i_fo_dropThoseWith_28 ?_
      refine ev_land i_fo_dropThoseWith_29 ?_
      refine ev_lconst (v := 0) i_fo_dropThoseWith_30 (by decide) ?_
      refine ev_lcmp i_fo_dropThoseWith_31 ?_
      refine ev_if_ne i_fo_dropThoseWith_32 (fun c_32 => ?_) (fun c_32 => ?_)
      · exact keep (by rw [← e0]; exact t3le_1 (by rw [lg_cmp0] at c_32; exact c_32))
      refine ev_lload_3 i_fo_dropThoseWith_35 ?_
      refine ev_aload_0 i_fo_dropThoseWith_36 ?_
      refine ev_get i_fo_dropThoseWith_37 fl_fo_24 (by repeat (first | assumption | exact va_up_self _ _ _ | refine hu_ne (by first | assumption | exact Ne.symm (by assumption)) ?_)) rfl ?_
      refine ev_iload_8 i_fo_dropThoseWith_40 ?_
      refine ev_iconst (v := 3) i_fo_dropThoseWith_42 (by decide) ?_
      refine ev_imul i_fo_dropThoseWith_43 ?_
      refine ev_iconst (v := 1) i_fo_dropThoseWith_44 (by decide) ?_
      refine ev_iadd i_fo_dropThoseWith_45 ?_
      refine ev_laload i_fo_dropThoseWith_46 ty_long (by repeat (first | assumption | exact va_up_self _ _ _ | refine hu_ne (by first | assumption | exact Ne.symm (by assumption)) ?_)) (j := 3 * j + 1) (by rw [nI_3, pk_mul, Nat.mul_comm, nI_1]) (by omega) (by omega) ?_
      refine ev_ldc2 i_fo_dropThoseWith_47 kc_fo_55 ?_
      refine ev_lxor i_fo_dropThoseWith_50 ?_
      refine ev_land i_fo_dropThoseWith_51 ?_
      refine ev_lconst (v := 0) i_fo_dropThoseWith_52 (by decide) ?_
      refine ev_lcmp i_fo_dropThoseWith_53 ?_
      refine ev_if_ne i_fo_dropThoseWith_54 (fun c_54 => ?_) (fun c_54 => ?_)
      · exact keep (by rw [← e0]; exact t3le_2 (by rw [lg_cmp0] at c_54; exact c_54))
      refine ev_lload_5 i_fo_dropThoseWith_57 ?_
      refine ev_aload_0 i_fo_dropThoseWith_59 ?_
      refine ev_get i_fo_dropThoseWith_60 fl_fo_24 (by repeat (first | assumption | exact va_up_self _ _ _ | refine hu_ne (by first | assumption | exact Ne.symm (by assumption)) ?_)) rfl ?_
      refine ev_iload_8 i_fo_dropThoseWith_63 ?_
      refine ev_iconst (v := 3) i_fo_dropThoseWith_65 (by decide) ?_
      refine ev_imul i_fo_dropThoseWith_66 ?_
      refine ev_iconst (v := 2) i_fo_dropThoseWith_67 (by decide) ?_
      refine ev_iadd i_fo_dropThoseWith_68 ?_
      refine ev_laload i_fo_dropThoseWith_69 ty_long (by repeat (first | assumption | exact va_up_self _ _ _ | refine hu_ne (by first | assumption | exact Ne.symm (by assumption)) ?_)) (j := 3 * j + 2) (by rw [nI_3, pk_mul, Nat.mul_comm]; exact nI_add _ 2) (by omega) (by omega) ?_
      refine ev_ldc2 i_fo_dropThoseWith_70 kc_fo_55 ?_
      refine ev_lxor i_fo_dropThoseWith_73 ?_
      refine ev_land i_fo_dropThoseWith_74 ?_
      refine ev_lconst (v := 0) i_fo_dropThoseWith_75 (by decide) ?_
      refine ev_lcmp i_fo_dropThoseWith_76 ?_
      refine ev_if_ne i_fo_dropThoseWith_77 (fun c_77 => ?_) (fun c_77 => ?_)
      · exact keep (by rw [← e0]; exact t3le_3 (by rw [lg_cmp0] at c_77; exact c_77))
      refine ev_iconst (v := 1) i_fo_dropThoseWith_80 (by decide) ?_
      refine ev_goto i_fo_dropThoseWith_81 ?_
      refine ev_istore_9 i_fo_dropThoseWith_85 rfl ?_
      refine ev_iload_9 i_fo_dropThoseWith_87 ?_
      refine ev_if_ne i_fo_dropThoseWith_89 (fun c_89 => ?_) (fun c_89 => ?_)
      rotate_left
      · exact absurd c_89 (by decide)
      rw [lg_cmp0] at c_32 c_54 c_77
      have ht : t3le (x, y, z) (c3 B j) = true := by rw [← e0]; exact t3le_t c_32 c_54 c_77
      refine ev_iinc_8 i_fo_dropThoseWith_134 (nI_1 j) rfl ?_
      refine ev_goto i_fo_dropThoseWith_137 ?_
      refine ih (j + 1) q C _ _ rfl hw10 (by omega) (by omega) ?_ (fun i hi => hC i (by omega))
      rw [li_succ, List.filter_append, ← hl]
      simp [ht]
  have := loop n 0 0 B none none rfl rfl (by omega) (Nat.le_refl 0) rfl (fun _ _ => rfl)
  rw [hu_self hb] at this
  exact this
/-- a choice comes to a row: not if one of the row lies within it; else those go in which it lies -/
def ins3 (r : Nat) (X : List T3) (x : T3) : List T3 := if X.any (fun q => t3le q x) then X else if (X.filter (fun s => !t3le x s)).length < r then X.filter (fun s => !t3le x s) ++ [x] else X.filter (fun s => !t3le x s)
theorem li_push {C : Nat → Int64} {q : Nat} {x y z : Int64} : li (q + 1) (vp_updL (vp_updL (vp_updL C (3 * q) x) (3 * q + 1) y) (3 * q + 2) z) = li q C ++ [(x, y, z)] := by
  rw [li_succ]
  congr 1
  · refine li_congr (fun i hi => ?_)
    unfold c3 vp_updL
    rw [if_neg (by omega), if_neg (by omega), if_neg (by omega), if_neg (by omega), if_neg (by omega), if_neg (by omega), if_neg (by omega), if_neg (by omega), if_neg (by omega)]
  · unfold c3 vp_updL
    simp
theorem if_10 {c : Prop} [Decidable c] (h : (if c then (1 : Int32) else 0) = 0) : ¬ c := fun hc => by rw [if_pos hc] at h; exact absurd h (by decide)
theorem if_11 {c : Prop} [Decidable c] (h : ¬ (if c then (1 : Int32) else 0) = 0) : c := Decidable.byContradiction (fun hc => h (by rw [if_neg hc]))
theorem r_fo_addJoined {a b r n a1 b1 r1 n1 a2 b2 r2 n2 i k : Nat} {B B1 B2 : Nat → Int64} (ha : h a = some (fo_c b r n)) (hb : h b = some (fo_b G r B)) (hr : r < 2 ^ 20) (hn : n ≤ r)
    (ha1 : h a1 = some (fo_c b1 r1 n1)) (hb1 : h b1 = some (fo_b G r1 B1)) (hr1 : r1 < 2 ^ 20) (hn1 : n1 ≤ r1) (hi : i < n1) (ha2 : h a2 = some (fo_c b2 r2 n2)) (hb2 : h b2 = some (fo_b G r2 B2)) (hr2 : r2 < 2 ^ 20) (hn2 : n2 ≤ r2) (hk : k < n2) :
    Rn G M_fo_addJoined 1 0 0 [.ref a, .ref a1, .int (nI i), .ref a2, .int (nI k)] h (ev_qv fun h' => ∃ (C : Nat → Int64) (q : Nat), h' = va_up (va_up h b (some (fo_b G r C))) a (some (fo_c b r q)) ∧ q ≤ r ∧ li q C = ins3 r (li n B) (t3or (c3 B1 i) (c3 B2 k))) := by
  have hab : a ≠ b := by intro e; subst e; rw [ha] at hb; cases hb
  refine Rn_of (ls := [some (.ref a), some (.ref a1), some (.int (nI i)), some (.ref a2), some (.int (nI k)), none, none, none, none, none, none]) rfl rfl (Nat.le_of_ble_eq_true rfl) rfl ?_
  refine ev_aload_1 i_fo_addJoined_0 ?_
  refine ev_get i_fo_addJoined_1 fl_fo_24 (by repeat (first | assumption | exact va_up_self _ _ _ | refine hu_ne (by first | assumption | exact Ne.symm (by assumption)) ?_)) rfl ?_
  refine ev_iload_2 i_fo_addJoined_4 ?_
  refine ev_iconst (v := 3) i_fo_addJoined_5 (by decide) ?_
  refine ev_imul i_fo_addJoined_6 ?_
  refine ev_laload i_fo_addJoined_7 ty_long (by repeat (first | assumption | exact va_up_self _ _ _ | refine hu_ne (by first | assumption | exact Ne.symm (by assumption)) ?_)) (j := 3 * i) (by rw [nI_3, pk_mul, Nat.mul_comm]) (by omega) (by omega) ?_
  refine ev_aload_3 i_fo_addJoined_8 ?_
  refine ev_get i_fo_addJoined_9 fl_fo_24 (by repeat (first | assumption | exact va_up_self _ _ _ | refine hu_ne (by first | assumption | exact Ne.symm (by assumption)) ?_)) rfl ?_
  refine ev_iload_4 i_fo_addJoined_12 ?_
  refine ev_iconst (v := 3) i_fo_addJoined_14 (by decide) ?_
  refine ev_imul i_fo_addJoined_15 ?_
  refine ev_laload i_fo_addJoined_16 ty_long (by repeat (first | assumption | exact va_up_self _ _ _ | refine hu_ne (by first | assumption | exact Ne.symm (by assumption)) ?_)) (j := 3 * k) (by rw [nI_3, pk_mul, Nat.mul_comm]) (by omega) (by omega) ?_
  refine ev_lor i_fo_addJoined_17 ?_
  refine ev_lstore_5 i_fo_addJoined_18 rfl ?_
  refine ev_aload_1 i_fo_addJoined_20 ?_
  refine ev_get i_fo_addJoined_21 fl_fo_24 (by repeat (first | assumption | exact va_up_self _ _ _ | refine hu_ne (by first | assumption | exact Ne.symm (by assumption)) ?_)) rfl ?_
  refine ev_iload_2 i_fo_addJoined_24 ?_
  refine ev_iconst (v := 3) i_fo_addJoined_25 (by decide) ?_
  refine ev_imul i_fo_addJoined_26 ?_
  refine ev_iconst (v := 1) i_fo_addJoined_27 (by decide) ?_
  refine ev_iadd i_fo_addJoined_28 ?_
  refine ev_laload i_fo_addJoined_29 ty_long (by repeat (first | assumption | exact va_up_self _ _ _ | refine hu_ne (by first | assumption | exact Ne.symm (by assumption)) ?_)) (j := 3 * i + 1) (by rw [nI_3, pk_mul, Nat.mul_comm, nI_1]) (by omega) (by omega) ?_
  refine ev_aload_3 i_fo_addJoined_30 ?_
  refine ev_get i_fo_addJoined_31 fl_fo_24 (by repeat (first | assumption | exact va_up_self _ _ _ | refine hu_ne (by first | assumption | exact Ne.symm (by assumption)) ?_)) rfl ?_
  refine ev_iload_4 i_fo_addJoined_34 ?_
  refine ev_iconst (v := 3) i_fo_addJoined_36 (by decide) ?_
  refine ev_imul i_fo_addJoined_37 ?_
  refine ev_iconst (v := 1) i_fo_addJoined_38 (by decide) ?_
  refine ev_iadd i_fo_addJoined_39 ?_
  refine ev_laload i_fo_addJoined_40 ty_long (by repeat (first | assumption | exact va_up_self _ _ _ | refine hu_ne (by first | assumption | exact Ne.symm (by assumption)) ?_)) (j := 3 * k + 1) (by rw [nI_3, pk_mul, Nat.mul_comm, nI_1]) (by omega) (by omega) ?_
  refine ev_lor i_fo_addJoined_41 ?_
  refine ev_lstore_7 i_fo_addJoined_42 rfl ?_
  refine ev_aload_1 i_fo_addJoined_44 ?_
  refine ev_get i_fo_addJoined_45 fl_fo_24 (by repeat (first | assumption | exact va_up_self _ _ _ | refine hu_ne (by first | assumption | exact Ne.symm (by assumption)) ?_)) rfl ?_
  refine ev_iload_2 i_fo_addJoined_48 ?_
  refine ev_iconst (v := 3) i_fo_addJoined_49 (by decide) ?_
  refine ev_imul i_fo_addJoined_50 ?_
  refine ev_iconst (v := 2) i_fo_addJoined_51 (by decide) ?_
  refine ev_iadd i_fo_addJoined_52 ?_
  refine ev_laload i_fo_addJoined_53 ty_long (by repeat (first | assumption | exact va_up_self _ _ _ | refine hu_ne (by first | assumption | exact Ne.symm (by assumption)) ?_)) (j := 3 * i + 2) (by rw [nI_3, pk_mul, Nat.mul_comm]; exact nI_add _ 2) (by omega) (by omega) ?_
  refine ev_aload_3 i_fo_addJoined_54 ?_
  refine ev_get i_fo_addJoined_55 fl_fo_24 (by repeat (first | assumption | exact va_up_self _ _ _ | refine hu_ne (by first | assumption | exact Ne.symm (by assumption)) ?_)) rfl ?_
  refine ev_iload_4 i_fo_addJoined_58 ?_
  refine ev_iconst (v := 3) i_fo_addJoined_60 (by decide) ?_
  refine ev_imul i_fo_addJoined_61 ?_
  refine ev_iconst (v := 2) i_fo_addJoined_62 (by decide) ?_
  refine ev_iadd i_fo_addJoined_63 ?_
  refine ev_laload i_fo_addJoined_64 ty_long (by repeat (first | assumption | exact va_up_self _ _ _ | refine hu_ne (by first | assumption | exact Ne.symm (by assumption)) ?_)) (j := 3 * k + 2) (by rw [nI_3, pk_mul, Nat.mul_comm]; exact nI_add _ 2) (by omega) (by omega) ?_
  refine ev_lor i_fo_addJoined_65 ?_
  refine ev_lstore_9 i_fo_addJoined_66 rfl ?_
  refine ev_aload_0 i_fo_addJoined_68 ?_
  refine ev_lload_5 i_fo_addJoined_69 ?_
  refine ev_lload_7 i_fo_addJoined_71 ?_
  refine ev_lload_9 i_fo_addJoined_73 ?_
  refine ev_vi3 i_fo_addJoined_75 lk_fo_47 cb_fo_hasOneWithin iv_fo_hasOneWithin (r_fo_hasOneWithin ha hb hr hn) (by repeat (first | assumption | exact va_up_self _ _ _ | refine hu_ne (by first | assumption | exact Ne.symm (by assumption)) ?_)) rfl (by decide) (Nat.le_of_ble_eq_true rfl) rfl rfl (fun v h1 hp => ?_)
  obtain ⟨rfl, rfl⟩ := hp
  refine ev_if_eq i_fo_addJoined_78 (fun c_78 => ?_) (fun c_78 => ?_)
  rotate_left
  · have ht := if_11 c_78
    refine ev_return i_fo_addJoined_81 rfl ?_
    refine ⟨rfl, B, n, ?_, hn, ?_⟩
    · rw [hu_self hb, hu_self ha]
    · unfold ins3
      rw [if_pos]
      exact ht
  have hf : ¬ ((li n B).any (fun q => t3le q (t3or (c3 B1 i) (c3 B2 k))) = true) := if_10 c_78
  refine ev_aload_0 i_fo_addJoined_82 ?_
  refine ev_lload_5 i_fo_addJoined_83 ?_
  refine ev_lload_7 i_fo_addJoined_85 ?_
  refine ev_lload_9 i_fo_addJoined_87 ?_
  refine ev_vv3 i_fo_addJoined_89 lk_fo_51 cb_fo_dropThoseWith iv_fo_dropThoseWith (r_fo_dropThoseWith ha hb hr hn) (by repeat (first | assumption | exact va_up_self _ _ _ | refine hu_ne (by first | assumption | exact Ne.symm (by assumption)) ?_)) rfl (by decide) (Nat.le_of_ble_eq_true rfl) rfl rfl (fun h2 hp => ?_)
  obtain ⟨C, q, rfl, hq, hl⟩ := hp
  have hlen : q = ((li n B).filter (fun s => !t3le (t3or (c3 B1 i) (c3 B2 k)) s)).length := by
    have := congrArg List.length hl
    rw [li_len] at this
    exact this
  refine ev_aload_0 i_fo_addJoined_92 ?_
  refine ev_get i_fo_addJoined_93 fl_fo_9 (by repeat (first | assumption | exact va_up_self _ _ _ | refine hu_ne (by first | assumption | exact Ne.symm (by assumption)) ?_)) rfl ?_
  refine ev_aload_0 i_fo_addJoined_96 ?_
  refine ev_get i_fo_addJoined_97 fl_fo_21 (by repeat (first | assumption | exact va_up_self _ _ _ | refine hu_ne (by first | assumption | exact Ne.symm (by assumption)) ?_)) rfl ?_
  refine ev_icmp_ge i_fo_addJoined_100 (fun c_100 => ?_) (fun c_100 => ?_)
  · have hge : ¬ q < r := fun z => absurd c_100 (nI_ge z (by omega))
    refine ev_return i_fo_addJoined_156 rfl ?_
    refine ⟨rfl, C, q, rfl, by omega, ?_⟩
    unfold ins3
    rw [if_neg hf, if_neg (by rw [← hlen]; exact hge)]
    exact hl
  · have hlt : q < r := by
      rcases Nat.lt_or_ge q r with z | z
      · exact z
      · exact absurd (nI_le z (by omega)) c_100
    refine ev_aload_0 i_fo_addJoined_103 ?_
    refine ev_get i_fo_addJoined_104 fl_fo_24 (by repeat (first | assumption | exact va_up_self _ _ _ | refine hu_ne (by first | assumption | exact Ne.symm (by assumption)) ?_)) rfl ?_
    refine ev_aload_0 i_fo_addJoined_107 ?_
    refine ev_get i_fo_addJoined_108 fl_fo_9 (by repeat (first | assumption | exact va_up_self _ _ _ | refine hu_ne (by first | assumption | exact Ne.symm (by assumption)) ?_)) rfl ?_
    refine ev_iconst (v := 3) i_fo_addJoined_111 (by decide) ?_
    refine ev_imul i_fo_addJoined_112 ?_
    refine ev_lload_5 i_fo_addJoined_113 ?_
    refine ev_lastore i_fo_addJoined_115 ty_long (by repeat (first | assumption | exact va_up_self _ _ _ | refine hu_ne (by first | assumption | exact Ne.symm (by assumption)) ?_)) (j := 3 * q) (by rw [nI_3, pk_mul, Nat.mul_comm]) (by omega) (by omega) ?_
    refine ev_aload_0 i_fo_addJoined_116 ?_
    refine ev_get i_fo_addJoined_117 fl_fo_24 (by repeat (first | assumption | exact va_up_self _ _ _ | refine hu_ne (by first | assumption | exact Ne.symm (by assumption)) ?_)) rfl ?_
    refine ev_aload_0 i_fo_addJoined_120 ?_
    refine ev_get i_fo_addJoined_121 fl_fo_9 (by repeat (first | assumption | exact va_up_self _ _ _ | refine hu_ne (by first | assumption | exact Ne.symm (by assumption)) ?_)) rfl ?_
    refine ev_iconst (v := 3) i_fo_addJoined_124 (by decide) ?_
    refine ev_imul i_fo_addJoined_125 ?_
    refine ev_iconst (v := 1) i_fo_addJoined_126 (by decide) ?_
    refine ev_iadd i_fo_addJoined_127 ?_
    refine ev_lload_7 i_fo_addJoined_128 ?_
    refine ev_lastore i_fo_addJoined_130 ty_long (by repeat (first | assumption | exact va_up_self _ _ _ | refine hu_ne (by first | assumption | exact Ne.symm (by assumption)) ?_)) (j := 3 * q + 1) (by rw [nI_3, pk_mul, Nat.mul_comm, nI_1]) (by omega) (by omega) ?_
    refine ev_aload_0 i_fo_addJoined_131 ?_
    refine ev_get i_fo_addJoined_132 fl_fo_24 (by repeat (first | assumption | exact va_up_self _ _ _ | refine hu_ne (by first | assumption | exact Ne.symm (by assumption)) ?_)) rfl ?_
    refine ev_aload_0 i_fo_addJoined_135 ?_
    refine ev_get i_fo_addJoined_136 fl_fo_9 (by repeat (first | assumption | exact va_up_self _ _ _ | refine hu_ne (by first | assumption | exact Ne.symm (by assumption)) ?_)) rfl ?_
    refine ev_iconst (v := 3) i_fo_addJoined_139 (by decide) ?_
    refine ev_imul i_fo_addJoined_140 ?_
    refine ev_iconst (v := 2) i_fo_addJoined_141 (by decide) ?_
    refine ev_iadd i_fo_addJoined_142 ?_
    refine ev_lload_9 i_fo_addJoined_143 ?_
    refine ev_lastore i_fo_addJoined_145 ty_long (by repeat (first | assumption | exact va_up_self _ _ _ | refine hu_ne (by first | assumption | exact Ne.symm (by assumption)) ?_)) (j := 3 * q + 2) (by rw [nI_3, pk_mul, Nat.mul_comm]; exact nI_add _ 2) (by omega) (by omega) ?_
    refine ev_aload_0 i_fo_addJoined_146 ?_
    refine ev_dup i_fo_addJoined_147 rfl ?_
    refine ev_get i_fo_addJoined_148 fl_fo_9 (by repeat (first | assumption | exact va_up_self _ _ _ | refine hu_ne (by first | assumption | exact Ne.symm (by assumption)) ?_)) rfl ?_
    refine ev_iconst (v := 1) i_fo_addJoined_151 (by decide) ?_
    refine ev_iadd i_fo_addJoined_152 ?_
    refine ev_top (nI_1 q) ?_
    refine ev_put i_fo_addJoined_153 pl_fo_addJoined_9 (by repeat (first | assumption | exact va_up_self _ _ _ | refine hu_ne (by first | assumption | exact Ne.symm (by assumption)) ?_)) rfl rfl (Nat.le_of_ble_eq_true rfl) rfl ?_
    refine ev_return i_fo_addJoined_156 rfl ?_
    refine ⟨rfl, vp_updL (vp_updL (vp_updL C (3 * q) (t3or (c3 B1 i) (c3 B2 k)).1) (3 * q + 1) (t3or (c3 B1 i) (c3 B2 k)).2.1) (3 * q + 2) (t3or (c3 B1 i) (c3 B2 k)).2.2, q + 1, ?_, by omega, ?_⟩
    rotate_left
    · rw [li_push, hl]
      unfold ins3
      rw [if_neg hf, if_pos (by rw [← hlen]; exact hlt)]
      rfl
    · simp only [hu_uu]
      rw [hu_comm hab]
      simp only [hu_uu]
      rfl
theorem cpy_c3 {f g : Nat → Int64} {n i : Nat} (hi : i < n) : c3 (va_cpy f g 0 0 (3 * n)) i = c3 f i := by
  unfold c3
  rw [pk_cpy_in (by omega) (by omega), pk_cpy_in (by omega) (by omega), pk_cpy_in (by omega) (by omega)]
  simp
theorem li_take {k n : Nat} {B : Nat → Int64} (hk : k ≤ n) : li k B = (li n B).take k := by
  unfold li
  rw [← List.map_take, List.take_range, Nat.min_eq_left hk]
/-- copyFrom: the first ones that there is room for -/
theorem r_fo_copyFrom {a b r n a1 b1 r1 n1 : Nat} {B B1 : Nat → Int64} (ha : h a = some (fo_c b r n)) (hb : h b = some (fo_b G r B)) (hr : r < 2 ^ 20) (ha1 : h a1 = some (fo_c b1 r1 n1)) (hb1 : h b1 = some (fo_b G r1 B1)) (hr1 : r1 < 2 ^ 20) (hn1 : n1 ≤ r1) (hne : a1 ≠ a) :
    Rn G M_fo_copyFrom 1 0 0 [.ref a, .ref a1] h (ev_qv fun h' => ∃ (C : Nat → Int64), h' = va_up (va_up h b (some (fo_b G r C))) a (some (fo_c b r (min n1 r))) ∧ li (min n1 r) C = (li n1 B1).take r) := by
  have hab : a ≠ b := by intro e; subst e; rw [ha] at hb; cases hb
  have hab1 : a ≠ b1 := by intro e; subst e; rw [ha] at hb1; cases hb1
  have hmin : (if nI r < nI n1 then nI r else nI n1) = nI (min n1 r) := by
    rcases Nat.lt_or_ge r n1 with z | z
    · rw [if_pos (nI_lt z (by omega)), Nat.min_eq_right (by omega)]
    · rw [if_neg (nI_nlt z (by omega)), Nat.min_eq_left z]
  refine Rn_of (ls := [some (.ref a), some (.ref a1)]) rfl rfl (Nat.le_of_ble_eq_true rfl) rfl ?_
  refine ev_aload_0 i_fo_copyFrom_0 ?_
  refine ev_aload_1 i_fo_copyFrom_1 ?_
  refine ev_get i_fo_copyFrom_2 fl_fo_9 (by repeat (first | assumption | exact va_up_self _ _ _ | refine hu_ne (by first | assumption | exact Ne.symm (by assumption)) ?_)) rfl ?_
  refine ev_aload_0 i_fo_copyFrom_5 ?_
  refine ev_get i_fo_copyFrom_6 fl_fo_21 (by repeat (first | assumption | exact va_up_self _ _ _ | refine hu_ne (by first | assumption | exact Ne.symm (by assumption)) ?_)) rfl ?_
  refine ev_mmin i_fo_copyFrom_9 ma_fo_28 (by decide) (Nat.le_of_ble_eq_true rfl) ?_
  refine ev_top hmin ?_
  refine ev_put i_fo_copyFrom_12 pl_fo_copyFrom_9 (by repeat (first | assumption | exact va_up_self _ _ _ | refine hu_ne (by first | assumption | exact Ne.symm (by assumption)) ?_)) rfl rfl (Nat.le_of_ble_eq_true rfl) rfl ?_
  refine ev_aload_1 i_fo_copyFrom_15 ?_
  refine ev_get i_fo_copyFrom_16 fl_fo_24 (by repeat (first | assumption | exact va_up_self _ _ _ | refine hu_ne (by first | assumption | exact Ne.symm (by assumption)) ?_)) rfl ?_
  refine ev_iconst (v := 0) i_fo_copyFrom_19 (by decide) ?_
  refine ev_aload_0 i_fo_copyFrom_20 ?_
  refine ev_get i_fo_copyFrom_21 fl_fo_24 (by repeat (first | assumption | exact va_up_self _ _ _ | refine hu_ne (by first | assumption | exact Ne.symm (by assumption)) ?_)) rfl ?_
  refine ev_iconst (v := 0) i_fo_copyFrom_24 (by decide) ?_
  refine ev_aload_0 i_fo_copyFrom_25 ?_
  refine ev_get i_fo_copyFrom_26 fl_fo_9 (by repeat (first | assumption | exact va_up_self _ _ _ | refine hu_ne (by first | assumption | exact Ne.symm (by assumption)) ?_)) rfl ?_
  refine ev_iconst (v := 3) i_fo_copyFrom_29 (by decide) ?_
  refine ev_imul i_fo_copyFrom_30 ?_
  refine ev_copyl i_fo_copyFrom_31 yc_fo_31 yc_2 yc_3 yc_4 ty_long (by repeat (first | assumption | exact va_up_self _ _ _ | refine hu_ne (by first | assumption | exact Ne.symm (by assumption)) ?_)) (by repeat (first | assumption | exact va_up_self _ _ _ | refine hu_ne (by first | assumption | exact Ne.symm (by assumption)) ?_)) (sp := 0) (dp := 0) (n := 3 * min n1 r) rfl rfl (by rw [nI_3, pk_mul, Nat.mul_comm]) (by omega) (by omega) (by omega) (by omega) (by decide) (Nat.le_of_ble_eq_true rfl) ?_
  refine ev_return i_fo_copyFrom_34 rfl ?_
  refine ⟨rfl, va_cpy B1 B 0 0 (3 * min n1 r), ?_, ?_⟩
  · rw [hu_comm hab]; rfl
  · rw [li_congr (fun i hi => cpy_c3 hi), li_take (Nat.min_le_left n1 r)]
    rcases Nat.lt_or_ge r n1 with z | z
    · rw [Nat.min_eq_right (by omega)]
    · rw [Nat.min_eq_left z, List.take_of_length_le (by rw [li_len]; exact Nat.le_refl _), List.take_of_length_le (by rw [li_len]; exact z)]
end FO
