section FO2
variable {G : ev_G} {h : ev_H}
/-- how many of the first n are there -/
def sumb (f : Nat → Bool) : Nat → Nat
  | 0 => 0
  | n + 1 => sumb f n + (if f n then 1 else 0)
theorem sumb_le (f : Nat → Bool) (n : Nat) : sumb f n ≤ n := by
  induction n with
  | zero => exact Nat.le_refl 0
  | succ n ih => unfold sumb; split <;> omega
theorem r_fo_init {a r : Nat} (ha : h a = some (.inr (0, [.int 0, .null, .int 0]))) (hr1 : 1 ≤ r) (hr : r < 2 ^ 18) :
    Rn G M_fo_init 1 1 (3 * r) [.ref a, .int (nI r)] h (ev_qv fun h' => ∃ b : Nat, b ≠ a ∧ h b = none ∧ h' = va_up (va_up h b (some (fo_b G r (fun _ => 0)))) a (some (fo_c b r 0))) := by
  refine Rn_of (ls := [some (.ref a), some (.int (nI r))]) rfl rfl (Nat.le_of_ble_eq_true rfl) rfl ?_
  refine ev_aload_0 i_fo_init_0 ?_
  refine ev_obj i_fo_init_1 ob_fo_3 ob_2 ob_3 (by decide) (Nat.le_of_ble_eq_true rfl) ?_
  refine ev_aload_0 i_fo_init_4 ?_
  refine ev_iconst (v := 0) i_fo_init_5 (by decide) ?_
  refine ev_put i_fo_init_6 pl_fo_init_9 (by repeat (first | assumption | exact va_up_self _ _ _ | refine hu_ne (by first | assumption | exact Ne.symm (by assumption)) ?_)) rfl rfl (Nat.le_of_ble_eq_true rfl) rfl ?_
  refine ev_aload_0 i_fo_init_9 ?_
  refine ev_iload_1 i_fo_init_10 ?_
  refine ev_iconst (v := 1) i_fo_init_11 (by decide) ?_
  refine ev_mmax i_fo_init_12 ma_fo_15 (by decide) (Nat.le_of_ble_eq_true rfl) ?_
  refine ev_top (show (if nI r < 1 then 1 else nI r) = nI r from if_neg (nI_nlt hr1 (by omega) : ¬ nI r < nI 1)) ?_
  refine ev_put i_fo_init_15 pl_fo_init_21 (by repeat (first | assumption | exact va_up_self _ _ _ | refine hu_ne (by first | assumption | exact Ne.symm (by assumption)) ?_)) rfl rfl (Nat.le_of_ble_eq_true rfl) rfl ?_
  refine ev_aload_0 i_fo_init_18 ?_
  refine ev_aload_0 i_fo_init_19 ?_
  refine ev_get i_fo_init_20 fl_fo_21 (by repeat (first | assumption | exact va_up_self _ _ _ | refine hu_ne (by first | assumption | exact Ne.symm (by assumption)) ?_)) rfl ?_
  refine ev_iconst (v := 3) i_fo_init_23 (by decide) ?_
  refine ev_imul i_fo_init_24 ?_
  refine ev_top (show nI r * 3 = nI (3 * r) from by rw [nI_3, pk_mul, Nat.mul_comm]) ?_
  refine ev_newa (N := 3 * r) (a0 := (3 * r, .inr (.inl (fun _ => 0)))) (kc' := 0) (ks' := 0) i_fo_init_25 rfl ty_long ac_long (fun _ => rfl) rfl (by omega) rfl (by omega) (fun q hq => ?_)
  have hqa : q ≠ a := by
    intro e
    subst e
    rw [va_up_self] at hq
    cases hq
  refine ev_put i_fo_init_27 pl_fo_init_24 (by repeat (first | assumption | exact va_up_self _ _ _ | refine hu_ne (by first | assumption | exact Ne.symm (by assumption)) ?_)) rfl rfl (Nat.le_of_ble_eq_true rfl) rfl ?_
  refine ev_return i_fo_init_30 rfl ?_
  refine ⟨rfl, q, hqa, ?_, ?_⟩
  · simp only [va_up_ne _ _ hqa] at hq
    exact hq
  · simp only [hu_uu]
    rw [hu_comm (Ne.symm hqa)]
    simp only [hu_uu]
    rfl
def t3p (c i : Nat) : Int64 := if c / 64 = i then (1 : Int64) <<< ((nI (c % 64)).toInt64 &&& 63) else 0
def t3of (c : Nat) : T3 := (t3p c 0, t3p c 1, t3p c 2)
theorem r_fo_setOnly {a b r n c : Nat} {B : Nat → Int64} (ha : h a = some (fo_c b r n)) (hb : h b = some (fo_b G r B)) (hr1 : 1 ≤ r) (hr : r < 2 ^ 20) (hc : c < 192) :
    Rn G M_fo_setOnly 0 0 0 [.ref a, .int (nI c)] h (ev_qv fun h' => ∃ C : Nat → Int64, h' = va_up (va_up h b (some (fo_b G r C))) a (some (fo_c b r 1)) ∧ li 1 C = [t3of c]) := by
  have hab : a ≠ b := by intro e; subst e; rw [ha] at hb; cases hb
  refine Rn_of (ls := [some (.ref a), some (.int (nI c)), none]) rfl rfl (Nat.le_of_ble_eq_true rfl) rfl ?_
  refine ev_iconst (v := 0) i_fo_setOnly_0 (by decide) ?_
  refine ev_istore_2 i_fo_setOnly_1 rfl ?_
  have loop : ∀ (k j : Nat) (C : Nat → Int64), j + k = 3 → (∀ i, i < j → C i = t3p c i) → Ev G M_fo_setOnly 0 0 0 (ev_qv fun h' => ∃ C : Nat → Int64, h' = va_up (va_up h b (some (fo_b G r C))) a (some (fo_c b r 1)) ∧ li 1 C = [t3of c]) 2 [some (.ref a), some (.int (nI c)), some (.int (nI j))] [] (va_up h b (some (fo_b G r C))) := by
    intro k
    induction k with
    | zero =>
      intro j C hj hC
      obtain rfl : j = 3 := by omega
      refine ev_iload_2 i_fo_setOnly_2 ?_
      refine ev_iconst (v := 3) i_fo_setOnly_3 (by decide) ?_
      refine ev_icmp_ge i_fo_setOnly_4 (fun c_4 => ?_) (fun c_4 => ?_)
      · refine ev_aload_0 i_fo_setOnly_37 ?_
        refine ev_iconst (v := 1) i_fo_setOnly_38 (by decide) ?_
        refine ev_put i_fo_setOnly_39 pl_fo_setOnly_9 (by repeat (first | assumption | exact va_up_self _ _ _ | refine hu_ne (by first | assumption | exact Ne.symm (by assumption)) ?_)) rfl rfl (Nat.le_of_ble_eq_true rfl) rfl ?_
        refine ev_return i_fo_setOnly_42 rfl ?_
        refine ⟨rfl, C, rfl, ?_⟩
        show [c3 C 0] = [t3of c]
        unfold c3 t3of
        rw [hC 0 (by omega), hC 1 (by omega), hC 2 (by omega)]
      · exact absurd (by decide) c_4
    | succ k ih =>
      intro j C hj hC
      have step : ∀ v : Int64, v = t3p c j → Ev G M_fo_setOnly 0 0 0 (ev_qv fun h' => ∃ C : Nat → Int64, h' = va_up (va_up h b (some (fo_b G r C))) a (some (fo_c b r 1)) ∧ li 1 C = [t3of c]) 30 [some (.ref a), some (.int (nI c)), some (.int (nI j))] [.long v, .int (nI j), .ref b] (va_up h b (some (fo_b G r C))) := by
        intro v hv
        refine ev_lastore i_fo_setOnly_30 ty_long (by repeat (first | assumption | exact va_up_self _ _ _ | refine hu_ne (by first | assumption | exact Ne.symm (by assumption)) ?_)) (j := j) rfl (by omega) (by omega) ?_
        rw [hu_uu]
        refine ev_iinc_2 i_fo_setOnly_31 (nI_1 j) rfl ?_
        refine ev_goto i_fo_setOnly_34 ?_
        refine ih (j + 1) _ (by omega) (fun i hi => ?_)
        unfold vp_updL
        by_cases e : i = j
        · rw [if_pos e, hv, e]
        · rw [if_neg e]
          exact hC i (by omega)
      refine ev_iload_2 i_fo_setOnly_2 ?_
      refine ev_iconst (v := 3) i_fo_setOnly_3 (by decide) ?_
      refine ev_icmp_ge i_fo_setOnly_4 (fun c_4 => ?_) (fun c_4 => ?_)
      · exact absurd c_4 (show ¬ nI 3 ≤ nI j from nI_ge (by omega) (by omega))
      refine ev_aload_0 i_fo_setOnly_7 ?_
      refine ev_get i_fo_setOnly_8 fl_fo_24 (by repeat (first | assumption | exact va_up_self _ _ _ | refine hu_ne (by first | assumption | exact Ne.symm (by assumption)) ?_)) rfl ?_
      refine ev_iload_2 i_fo_setOnly_11 ?_
      refine ev_iload_1 i_fo_setOnly_12 ?_
      refine ev_bipush (v := 6) i_fo_setOnly_13 (by decide) ?_
      refine ev_ishr i_fo_setOnly_15 ?_
      refine ev_iload_2 i_fo_setOnly_16 ?_
      refine ev_icmp_ne i_fo_setOnly_17 (fun c_17 => ?_) (fun c_17 => ?_)
      · rw [nI_shr6 (by omega), nI_eq (by omega) (by omega)] at c_17
        refine ev_lconst (v := 0) i_fo_setOnly_29 (by decide) ?_
        exact step 0 (by unfold t3p; rw [if_neg c_17])
      · rw [nI_shr6 (by omega), nI_eq (by omega) (by omega)] at c_17
        refine ev_lconst (v := 1) i_fo_setOnly_20 (by decide) ?_
        refine ev_iload_1 i_fo_setOnly_21 ?_
        refine ev_bipush (v := 63) i_fo_setOnly_22 (by decide) ?_
        refine ev_iand i_fo_setOnly_24 ?_
        refine ev_lshl i_fo_setOnly_25 ?_
        refine ev_goto i_fo_setOnly_26 ?_
        exact step _ (by unfold t3p; rw [if_pos c_17, nI_and63 (by omega)])
  have := loop 3 0 B (by omega) (fun i hi => absurd hi (Nat.not_lt_zero i))
  rw [hu_self hb] at this
  exact this
/-- the k-th code of a set -/
def codef (S : Nat → Bool) (k : Int32) : Int32 := match (List.range 144).find? (fun c => S c && decide (nI (sumb S c) = k)) with
  | some c => nI c
  | none => -1
theorem r_fo_codeAt_out {a b r n : Nat} {place k : Int32} (ha : h a = some (fo_c b r n)) (hn : n < 2 ^ 31) (hp : place < 0 ∨ nI n ≤ place) :
    Rn G M_fo_codeAt 1 0 0 [.ref a, .int place, .int k] h (ev_qi fun x h' => x = -1 ∧ h' = h) := by
  refine Rn_of (ls := [some (.ref a), some (.int place), some (.int k), none, none]) rfl rfl (Nat.le_of_ble_eq_true rfl) rfl ?_
  refine ev_iload_2 i_fo_codeAt_0 ?_
  refine ev_if_ge i_fo_codeAt_1 (fun c_1 => ?_) (fun c_1 => ?_)
  rotate_left
  · refine ev_iconst (v := (-1)) i_fo_codeAt_4 (by decide) ?_
    refine ev_ireturn i_fo_codeAt_5 rfl rfl ?_
    exact ⟨_, rfl, rfl, rfl⟩
  refine ev_iconst (v := 0) i_fo_codeAt_6 (by decide) ?_
  refine ev_istore_3 i_fo_codeAt_7 rfl ?_
  refine ev_iconst (v := 0) i_fo_codeAt_8 (by decide) ?_
  refine ev_istore_4 i_fo_codeAt_9 rfl ?_
  have loop : ∀ (m j : Nat), j + m = 144 → Ev G M_fo_codeAt 1 0 0 (ev_qi fun x h' => x = -1 ∧ h' = h) 11 [some (.ref a), some (.int place), some (.int k), some (.int 0), some (.int (nI j))] [] h := by
    intro m
    induction m with
    | zero =>
      intro j hj
      refine ev_iload_4 i_fo_codeAt_11 ?_
      refine ev_sipush (v := 144) i_fo_codeAt_13 (by decide) ?_
      refine ev_icmp_ge i_fo_codeAt_16 (fun c_16 => ?_) (fun c_16 => ?_)
      · refine ev_iconst (v := (-1)) i_fo_codeAt_46 (by decide) ?_
        refine ev_ireturn i_fo_codeAt_47 rfl rfl ?_
        exact ⟨_, rfl, rfl, rfl⟩
      · exact absurd (show nI 144 ≤ nI j from nI_le (by omega) (by omega)) c_16
    | succ m ih =>
      intro j hj
      refine ev_iload_4 i_fo_codeAt_11 ?_
      refine ev_sipush (v := 144) i_fo_codeAt_13 (by decide) ?_
      refine ev_icmp_ge i_fo_codeAt_16 (fun c_16 => ?_) (fun c_16 => ?_)
      · exact absurd c_16 (show ¬ nI 144 ≤ nI j from nI_ge (by omega) (by omega))
      refine ev_aload_0 i_fo_codeAt_19 ?_
      refine ev_iload_1 i_fo_codeAt_20 ?_
      refine ev_iload_4 i_fo_codeAt_21 ?_
      refine ev_vi2 i_fo_codeAt_23 lk_fo_43 cb_fo_holds iv_fo_holds (r_fo_holds_out ha hn hp) (by repeat (first | assumption | exact va_up_self _ _ _ | refine hu_ne (by first | assumption | exact Ne.symm (by assumption)) ?_)) rfl (by decide) (Nat.le_of_ble_eq_true rfl) rfl rfl (fun v h1 hq => ?_)
      obtain ⟨rfl, rfl⟩ := hq
      refine ev_if_eq i_fo_codeAt_26 (fun c_26 => ?_) (fun c_26 => ?_)
      rotate_left
      · exact absurd rfl c_26
      refine ev_iinc_4 i_fo_codeAt_40 (nI_1 j) rfl ?_
      refine ev_goto i_fo_codeAt_43 ?_
      exact ih (j + 1) (by omega)
  exact loop 144 0 (by omega)
theorem r_fo_codeAt {a b r n p : Nat} {B : Nat → Int64} {k : Int32} (ha : h a = some (fo_c b r n)) (hb : h b = some (fo_b G r B)) (hr : r < 2 ^ 20) (hn : n ≤ r) (hp : p < n) :
    Rn G M_fo_codeAt 1 0 0 [.ref a, .int (nI p), .int k] h (ev_qi fun x h' => x = codef (cs B p) k ∧ h' = h) := by
  refine Rn_of (ls := [some (.ref a), some (.int (nI p)), some (.int k), none, none]) rfl rfl (Nat.le_of_ble_eq_true rfl) rfl ?_
  refine ev_iload_2 i_fo_codeAt_0 ?_
  refine ev_if_ge i_fo_codeAt_1 (fun c_1 => ?_) (fun c_1 => ?_)
  rotate_left
  · refine ev_iconst (v := (-1)) i_fo_codeAt_4 (by decide) ?_
    refine ev_ireturn i_fo_codeAt_5 rfl rfl ?_
    refine ⟨_, rfl, ?_, rfl⟩
    have : (List.range 144).find? (fun c => cs B p c && decide (nI (sumb (cs B p) c) = k)) = none := by
      rw [List.find?_eq_none]
      intro c hc
      have hlt := List.mem_range.mp hc
      have := sumb_le (cs B p) c
      simp only [Bool.and_eq_true, decide_eq_true_eq, not_and]
      intro _ e
      exact c_1 (by rw [← e]; exact nI_pos' (by omega))
    unfold codef
    rw [this]
  refine ev_iconst (v := 0) i_fo_codeAt_6 (by decide) ?_
  refine ev_istore_3 i_fo_codeAt_7 rfl ?_
  refine ev_iconst (v := 0) i_fo_codeAt_8 (by decide) ?_
  refine ev_istore_4 i_fo_codeAt_9 rfl ?_
  have loop : ∀ (m j : Nat), j + m = 144 → (List.range j).find? (fun c => cs B p c && decide (nI (sumb (cs B p) c) = k)) = none → Ev G M_fo_codeAt 1 0 0 (ev_qi fun x h' => x = codef (cs B p) k ∧ h' = h) 11 [some (.ref a), some (.int (nI p)), some (.int k), some (.int (nI (sumb (cs B p) j))), some (.int (nI j))] [] h := by
    intro m
    induction m with
    | zero =>
      intro j hj hf
      obtain rfl : j = 144 := by omega
      refine ev_iload_4 i_fo_codeAt_11 ?_
      refine ev_sipush (v := 144) i_fo_codeAt_13 (by decide) ?_
      refine ev_icmp_ge i_fo_codeAt_16 (fun c_16 => ?_) (fun c_16 => ?_)
      · refine ev_iconst (v := (-1)) i_fo_codeAt_46 (by decide) ?_
        refine ev_ireturn i_fo_codeAt_47 rfl rfl ?_
        exact ⟨_, rfl, by unfold codef; rw [hf], rfl⟩
      · exact absurd (by decide) c_16
    | succ m ih =>
      intro j hj hf
      have hnext : (cs B p j && decide (nI (sumb (cs B p) j) = k)) = false → (List.range (j + 1)).find? (fun c => cs B p c && decide (nI (sumb (cs B p) c) = k)) = none := by
        intro e
        rw [List.range_succ, List.find?_append, hf]
        simp only [Option.none_or, List.find?_cons, e, List.find?_nil]
      refine ev_iload_4 i_fo_codeAt_11 ?_
      refine ev_sipush (v := 144) i_fo_codeAt_13 (by decide) ?_
      refine ev_icmp_ge i_fo_codeAt_16 (fun c_16 => ?_) (fun c_16 => ?_)
      · exact absurd c_16 (show ¬ nI 144 ≤ nI j from nI_ge (by omega) (by omega))
      refine ev_aload_0 i_fo_codeAt_19 ?_
      refine ev_iload_1 i_fo_codeAt_20 ?_
      refine ev_iload_4 i_fo_codeAt_21 ?_
      refine ev_vi2 i_fo_codeAt_23 lk_fo_43 cb_fo_holds iv_fo_holds (r_fo_holds ha hb hr hn hp (show j < 144 by omega)) (by repeat (first | assumption | exact va_up_self _ _ _ | refine hu_ne (by first | assumption | exact Ne.symm (by assumption)) ?_)) rfl (by decide) (Nat.le_of_ble_eq_true rfl) rfl rfl (fun v h1 hq => ?_)
      obtain ⟨rfl, rfl⟩ := hq
      refine ev_if_eq i_fo_codeAt_26 (fun c_26 => ?_) (fun c_26 => ?_)
      · have hS := bn_f (if_10 c_26)
        refine ev_iinc_4 i_fo_codeAt_40 (nI_1 j) rfl ?_
        refine ev_goto i_fo_codeAt_43 ?_
        have := ih (j + 1) (by omega) (hnext (by rw [hS]; rfl))
        unfold sumb at this
        rw [hS] at this
        exact this
      · have hS := if_11 c_26
        refine ev_iload_3 i_fo_codeAt_29 ?_
        refine ev_iload_2 i_fo_codeAt_30 ?_
        refine ev_icmp_ne i_fo_codeAt_31 (fun c_31 => ?_) (fun c_31 => ?_)
        · refine ev_iinc_3 i_fo_codeAt_37 (nI_1 _) rfl ?_
          refine ev_iinc_4 i_fo_codeAt_40 (nI_1 j) rfl ?_
          refine ev_goto i_fo_codeAt_43 ?_
          have := ih (j + 1) (by omega) (hnext (by rw [hS, decide_eq_false c_31]; rfl))
          unfold sumb at this
          rw [hS] at this
          exact this
        · refine ev_iload_4 i_fo_codeAt_34 ?_
          refine ev_ireturn i_fo_codeAt_36 rfl rfl ?_
          refine ⟨_, rfl, ?_, rfl⟩
          have : (List.range 144).find? (fun c => cs B p c && decide (nI (sumb (cs B p) c) = k)) = some j := by
            rw [show 144 = j + (m + 1) by omega, List.range_add, List.find?_append, hf]
            simp only [Option.none_or, List.range_succ_eq_map, List.map_cons, List.find?_cons, Nat.add_zero, hS, decide_eq_true c_31, Bool.and_self]
          unfold codef
          rw [this]
  exact loop 144 0 (by omega) rfl
end FO2
