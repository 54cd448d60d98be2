section PK
variable {G : ev_G} {h : ev_H}
abbrev pk_c (f u v n : Nat) (e : Int32) : va_E := .inr (1, [.ref f, .ref u, .ref v, .int (nI n), .int e])
theorem r_pk_init {a : Nat} (ha : h a = some (.inr (1, [.null, .null, .null, .int 0, .int 0]))) :
    Rn G M_pk_init 2 4 75 [.ref a] h (ev_qv fun h' => ∃ f b u v : Nat, (f ≠ a ∧ b ≠ a ∧ u ≠ a ∧ v ≠ a ∧ b ≠ f ∧ u ≠ f ∧ v ≠ f ∧ u ≠ b ∧ v ≠ b ∧ v ≠ u) ∧ h f = none ∧ h b = none ∧ h u = none ∧ h v = none ∧
      h' = va_up (va_up (va_up (va_up (va_up h b (some (fo_b G 20 (fun _ => 0)))) f (some (fo_c b 20 0))) u (some (aI G 6 (fun _ => 0)))) v (some (aI G 6 (fun _ => 0)))) a (some (pk_c f u v 0 (-1)))) := by
  refine Rn_of (ls := [some (.ref a)]) rfl rfl (Nat.le_of_ble_eq_true rfl) rfl ?_
  refine ev_aload_0 i_pk_init_0 ?_
  refine ev_obj i_pk_init_1 ob_pk_3 ob_2 ob_3 (by decide) (Nat.le_of_ble_eq_true rfl) ?_
  refine ev_aload_0 i_pk_init_4 ?_
  refine ev_new (fs := [.int 0, .null, .int 0]) (kc' := 3) (ks' := 72) i_pk_init_5 k_fo cl_pk_9 ns_fo in_fo (fun j hj => by rcases (show j = 0 ∨ j = 1 ∨ j = 2 by omega) with rfl | rfl | rfl <;> rfl) rfl rfl (fun f hf => ?_)
  have hfa : f ≠ a := by intro e; subst e; rw [ha] at hf; cases hf
  refine ev_dup i_pk_init_8 rfl ?_
  refine ev_bipush (v := 20) i_pk_init_9 (by decide) ?_
  refine ev_sv1 (kc' := 2) (ks' := 12) i_pk_init_11 lk_pk_11 cb_fo_init iv_fo_init (r_fo_init (r := 20) (va_up_self _ _ _) (by omega) (by omega)) (by decide) (Nat.le_of_ble_eq_true rfl) rfl rfl (fun h1 hq => ?_)
  obtain ⟨b, hbf, hb, rfl⟩ := hq
  rw [va_up_ne _ _ hbf] at hb
  have hba : b ≠ a := by intro e; subst e; rw [ha] at hb; cases hb
  rw [hu_comm hbf, hu_uu]
  sorry
end PK
