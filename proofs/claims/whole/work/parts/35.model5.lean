section MO5
variable {G : ev_G} {h h0 : ev_H} {m : Nat} {ad : Nat → Nat} {sc : Nat → Int32} {A : Nat → Nat → Int32} {Wd : Nat → Int64}
variable {pm cm : Nat → Nat} {pcd : Nat → Nat → Nat}
theorem fd_n {f : Nat → Bool} {j : Nat} (hf : (List.range j).find? f = none) (e : f j = false) : (List.range (j + 1)).find? f = none := by
  rw [List.range_succ, List.find?_append, hf]
  simp only [Option.none_or, List.find?_cons, e, List.find?_nil]
theorem fd_h {f : Nat → Bool} {j n : Nat} (hf : (List.range j).find? f = none) (hj : j < n) (e : f j = true) : (List.range n).find? f = some j := by
  obtain ⟨k, rfl⟩ : ∃ k, n = j + (k + 1) := ⟨n - j - 1, by omega⟩
  rw [List.range_add, List.find?_append, hf]
  simp only [Option.none_or, List.range_succ_eq_map, List.map_cons, List.find?_cons, Nat.add_zero, e]
/-- a bit of a choice in the reference -/
def mb (x : Int32) (b : Nat) : Bool := decide ((x >>> (nI b &&& 31)) &&& 1 = 1)
def mbel (x : Int32) (f : Nat → Int32) (a b : Nat) : Bool := mb x b && decide (f b < f a)
def mpairf (x : Int32) (f : Nat → Int32) (n : Nat) (k : Int32) : Int32 := match (List.range n).find? (fun a => mb x a && decide (nI (sumb (mbel x f a) n) = k)) with
  | some a => f a
  | none => -1
theorem r_mo_pair {i y k : Int32} {np : Nat} (H : MI G h0 h m ad sc A Wd) (hn : sc 3 = nI np) (hn2 : np ≤ 16) (hP : MP A pm cm pcd) : Rn G M_mo_pair 1 0 0 [.ref m, .int i, .int y, .int k] h (ev_qi fun v h' => MI G h0 h' m ad (va_up sc 0 0) A Wd ∧ ((∃ p j, ixv i np = some p ∧ ixv y (cm p) = some j ∧ 0 ≤ k ∧ v = mpairf (A 13 (20 * p + j)) (fun a => A 11 (30 * p + a)) (pm p) k) ∨ ((ixv i np = none ∨ k < 0 ∨ ∃ p, ixv i np = some p ∧ ixv y (cm p) = none) ∧ v = -1))) := by
  refine Rn_of (ls := [some (.ref m), some (.int i), some (.int y), some (.int k), none, none, none, none]) rfl rfl (Nat.le_of_ble_eq_true rfl) rfl ?_
  refine ev_aload_0 i_mo_pair_0 ?_
  refine ev_iconst (v := 0) i_mo_pair_1 (by decide) ?_
  refine ev_p0 i_mo_pair_2 pl_mo_pair_81 H (fun h H => ?_)
  refine ev_aload_0 i_mo_pair_5 ?_
  refine ev_iload_1 i_mo_pair_6 ?_
  refine ev_vi1 i_mo_pair_7 lk_mo_143 cb_mo_isPack iv_mo_isPack (r_mo_isPack (y := i) (n := np) H hn (by omega)) H.1 rfl (by decide) (Nat.le_of_ble_eq_true rfl) rfl rfl (fun v h' hq => ?_)
  obtain ⟨rfl, rfl⟩ := hq
  rcases ix_cases i (show np < 2 ^ 31 by omega) with ⟨p, hp, rfl, e⟩ | ⟨-, e⟩
  rotate_left
  · rw [isw_0 e]
    refine ev_if_eq i_mo_pair_10 (fun c_10 => ?_) (fun c_10 => ?_)
    · refine ev_iconst (v := (-1)) i_mo_pair_31 (by decide) ?_
      refine ev_ireturn i_mo_pair_32 rfl rfl ?_
      exact ⟨_, rfl, H, Or.inr ⟨Or.inl e, rfl⟩⟩
    · exact absurd rfl c_10
  rw [isw_1 e]
  refine ev_if_eq i_mo_pair_10 (fun c_10 => ?_) (fun c_10 => ?_)
  · exact absurd c_10 (by decide)
  obtain ⟨⟨g1, g2⟩, ⟨g3, g4⟩, g5⟩ := hP p (by omega)
  have e30 : ∀ k : Nat, (30 : Int32) * nI p + nI k = nI (30 * p + k) := fun k => by rw [show (30 : Int32) = nI 30 from rfl, pk_mul, nI_add]
  have e20 : ∀ k : Nat, (20 : Int32) * nI p + nI k = nI (20 * p + k) := fun k => by rw [show (20 : Int32) = nI 20 from rfl, pk_mul, nI_add]
  rcases ix_cases y (show cm p < 2 ^ 31 by omega) with ⟨j, hj, rfl, ej⟩ | ⟨zz, ej⟩
  rotate_left
  · refine ev_iload_2 i_mo_pair_13 ?_
    refine ev_if_lt i_mo_pair_14 (fun c_14 => ?_) (fun c_14 => ?_)
    · refine ev_iconst (v := (-1)) i_mo_pair_31 (by decide) ?_
      refine ev_ireturn i_mo_pair_32 rfl rfl ?_
      exact ⟨_, rfl, H, Or.inr ⟨Or.inr (Or.inr ⟨p, e, ej⟩), rfl⟩⟩
    refine ev_iload_2 i_mo_pair_17 ?_
    refine ev_aload_0 i_mo_pair_18 ?_
    refine ev_get i_mo_pair_19 fl_mo_33 H.1 rfl ?_
    refine ev_iload_1 i_mo_pair_22 ?_
    refine ev_ia (L := 16) i_mo_pair_23 H rfl rfl (j := p) rfl (by omega) (by omega) ?_
    rw [g3]
    refine ev_icmp_ge i_mo_pair_24 (fun c_24 => ?_) (fun c_24 => ?_)
    · refine ev_iconst (v := (-1)) i_mo_pair_31 (by decide) ?_
      refine ev_ireturn i_mo_pair_32 rfl rfl ?_
      exact ⟨_, rfl, H, Or.inr ⟨Or.inr (Or.inr ⟨p, e, ej⟩), rfl⟩⟩
    · exact absurd zz (by rintro (q | q); exact c_14 q; exact c_24 q)
  refine ev_iload_2 i_mo_pair_13 ?_
  refine ev_if_lt i_mo_pair_14 (fun c_14 => ?_) (fun c_14 => ?_)
  · exact absurd c_14 (nI_pos (by omega))
  refine ev_iload_2 i_mo_pair_17 ?_
  refine ev_aload_0 i_mo_pair_18 ?_
  refine ev_get i_mo_pair_19 fl_mo_33 H.1 rfl ?_
  refine ev_iload_1 i_mo_pair_22 ?_
  refine ev_ia (L := 16) i_mo_pair_23 H rfl rfl (j := p) rfl (by omega) (by omega) ?_
  rw [g3]
  refine ev_icmp_ge i_mo_pair_24 (fun c_24 => ?_) (fun c_24 => ?_)
  · exact absurd c_24 (nI_ge hj (by omega))
  refine ev_iload_3 i_mo_pair_27 ?_
  refine ev_if_ge i_mo_pair_28 (fun c_28 => ?_) (fun c_28 => ?_)
  rotate_left
  · refine ev_iconst (v := (-1)) i_mo_pair_31 (by decide) ?_
    refine ev_ireturn i_mo_pair_32 rfl rfl ?_
    exact ⟨_, rfl, H, Or.inr ⟨Or.inr (Or.inl (Int32.not_le.mp c_28)), rfl⟩⟩
  refine ev_aload_0 i_mo_pair_33 ?_
  refine ev_get i_mo_pair_34 fl_mo_36 H.1 rfl ?_
  refine ev_bipush (v := 20) i_mo_pair_37 (by decide) ?_
  refine ev_iload_1 i_mo_pair_39 ?_
  refine ev_imul i_mo_pair_40 ?_
  refine ev_iload_2 i_mo_pair_41 ?_
  refine ev_iadd i_mo_pair_42 ?_
  refine ev_ia (L := 320) i_mo_pair_43 H rfl rfl (j := 20 * p + j) (e20 j) (by omega) (by omega) ?_
  refine ev_istore_4 i_mo_pair_44 rfl ?_
  refine ev_iconst (v := 0) i_mo_pair_46 (by decide) ?_
  refine ev_istore_5 i_mo_pair_47 rfl ?_
  have fin : ∀ v, v = mpairf (A 13 (20 * p + j)) (fun a => A 11 (30 * p + a)) (pm p) k → (ev_qi fun v h' => MI G h0 h' m ad (va_up sc 0 0) A Wd ∧ ((∃ p' j', ixv (nI p) np = some p' ∧ ixv (nI j) (cm p') = some j' ∧ 0 ≤ k ∧ v = mpairf (A 13 (20 * p' + j')) (fun a => A 11 (30 * p' + a)) (pm p') k) ∨ ((ixv (nI p) np = none ∨ k < 0 ∨ ∃ p', ixv (nI p) np = some p' ∧ ixv (nI j) (cm p') = none) ∧ v = -1))) (some (.int v)) h' := fun v hv => ⟨_, rfl, H, Or.inl ⟨p, j, e, ej, c_28, hv⟩⟩
  generalize hX : A 13 (20 * p + j) = X at fin ⊢
  generalize hf : (fun a => A 11 (30 * p + a)) = f at fin
  have hfa : ∀ a, A 11 (30 * p + a) = f a := fun a => by rw [← hf]
  generalize ev_qi (fun v h' => MI G h0 h' m ad (va_up sc 0 0) A Wd ∧ ((∃ p' j', ixv (nI p) np = some p' ∧ ixv (nI j) (cm p') = some j' ∧ 0 ≤ k ∧ v = mpairf (A 13 (20 * p' + j')) (fun a => A 11 (30 * p' + a)) (pm p') k) ∨ ((ixv (nI p) np = none ∨ k < 0 ∨ ∃ p', ixv (nI p) np = some p' ∧ ixv (nI j) (cm p') = none) ∧ v = -1))) = Q at fin ⊢
  have loop : ∀ (q a : Nat) (w6 w7 : Option Value), ev_nl w6 = true → ev_nl w7 = true → a + q = pm p → (List.range a).find? (fun a => mb X a && decide (nI (sumb (mbel X f a) (pm p)) = k)) = none → Ev G M_mo_pair 1 0 0 Q 49 [some (.ref m), some (.int (nI p)), some (.int (nI j)), some (.int k), some (.int X), some (.int (nI a)), w6, w7] [] h' := by
    intro q
    induction q with
    | zero =>
      intro a w6 w7 hw6 hw7 ha hno
      obtain rfl : a = pm p := by omega
      refine ev_iload_5 i_mo_pair_49 ?_
      refine ev_aload_0 i_mo_pair_51 ?_
      refine ev_get i_mo_pair_52 fl_mo_27 H.1 rfl ?_
      refine ev_iload_1 i_mo_pair_55 ?_
      refine ev_ia (L := 16) i_mo_pair_56 H rfl rfl (j := p) rfl (by omega) (by omega) ?_
      rw [g1]
      refine ev_icmp_ge i_mo_pair_57 (fun c_57 => ?_) (fun c_57 => ?_)
      · refine ev_iconst (v := (-1)) i_mo_pair_167 (by decide) ?_
        refine ev_ireturn i_mo_pair_168 rfl rfl ?_
        refine fin _ ?_
        unfold mpairf
        rw [hno]
      · exact absurd (nI_le (Nat.le_refl _) (by omega)) c_57
    | succ q ih =>
      intro a w6 w7 hw6 hw7 ha hno
      refine ev_iload_5 i_mo_pair_49 ?_
      refine ev_aload_0 i_mo_pair_51 ?_
      refine ev_get i_mo_pair_52 fl_mo_27 H.1 rfl ?_
      refine ev_iload_1 i_mo_pair_55 ?_
      refine ev_ia (L := 16) i_mo_pair_56 H rfl rfl (j := p) rfl (by omega) (by omega) ?_
      rw [g1]
      refine ev_icmp_ge i_mo_pair_57 (fun c_57 => ?_) (fun c_57 => ?_)
      · exact absurd c_57 (nI_ge (by omega) (by omega))
      refine ev_iconst (v := 0) i_mo_pair_60 (by decide) ?_
      refine ev_istore_6 i_mo_pair_61 rfl ?_
      refine ev_iconst (v := 0) i_mo_pair_63 (by decide) ?_
      refine ev_istore_7 i_mo_pair_64 rfl ?_
      have loop2 : ∀ (q2 b : Nat), b + q2 = pm p → Ev G M_mo_pair 1 0 0 Q 66 [some (.ref m), some (.int (nI p)), some (.int (nI j)), some (.int k), some (.int X), some (.int (nI a)), some (.int (nI (sumb (mbel X f a) b))), some (.int (nI b))] [] h' := by
        intro q2
        induction q2 with
        | zero =>
          intro b hb
          obtain rfl : b = pm p := by omega
          refine ev_iload_7 i_mo_pair_66 ?_
          refine ev_aload_0 i_mo_pair_68 ?_
          refine ev_get i_mo_pair_69 fl_mo_27 H.1 rfl ?_
          refine ev_iload_1 i_mo_pair_72 ?_
          refine ev_ia (L := 16) i_mo_pair_73 H rfl rfl (j := p) rfl (by omega) (by omega) ?_
          rw [g1]
          refine ev_icmp_ge i_mo_pair_74 (fun c_74 => ?_) (fun c_74 => ?_)
          rotate_left
          · exact absurd (nI_le (Nat.le_refl _) (by omega)) c_74
          refine ev_iload_4 i_mo_pair_131 ?_
          refine ev_iload_5 i_mo_pair_133 ?_
          refine ev_ishr i_mo_pair_135 ?_
          refine ev_iconst (v := 1) i_mo_pair_136 (by decide) ?_
          refine ev_iand i_mo_pair_137 ?_
          refine ev_iconst (v := 1) i_mo_pair_138 (by decide) ?_
          refine ev_icmp_ne i_mo_pair_139 (fun c_139 => ?_) (fun c_139 => ?_)
          · refine ev_iinc_5 i_mo_pair_161 (nI_1 a) rfl ?_
            refine ev_goto i_mo_pair_164 ?_
            exact ih (a + 1) _ _ rfl rfl (by omega) (fd_n hno (by unfold mb; rw [decide_eq_false c_139]; rfl))
          refine ev_iload_6 i_mo_pair_142 ?_
          refine ev_iload_3 i_mo_pair_144 ?_
          refine ev_icmp_ne i_mo_pair_145 (fun c_145 => ?_) (fun c_145 => ?_)
          · refine ev_iinc_5 i_mo_pair_161 (nI_1 a) rfl ?_
            refine ev_goto i_mo_pair_164 ?_
            exact ih (a + 1) _ _ rfl rfl (by omega) (fd_n hno (by rw [decide_eq_false c_145, Bool.and_false]))
          refine ev_aload_0 i_mo_pair_148 ?_
          refine ev_get i_mo_pair_149 fl_mo_30 H.1 rfl ?_
          refine ev_bipush (v := 30) i_mo_pair_152 (by decide) ?_
          refine ev_iload_1 i_mo_pair_154 ?_
          refine ev_imul i_mo_pair_155 ?_
          refine ev_iload_5 i_mo_pair_156 ?_
          refine ev_iadd i_mo_pair_158 ?_
          refine ev_ia (L := 480) i_mo_pair_159 H rfl rfl (j := 30 * p + a) (e30 a) (by omega) (by omega) ?_
          rw [hfa]
          refine ev_ireturn i_mo_pair_160 rfl rfl ?_
          refine fin _ ?_
          unfold mpairf
          rw [fd_h (j := a) hno (by omega) (by unfold mb; rw [decide_eq_true c_139, decide_eq_true c_145]; rfl)]
        | succ q2 ih2 =>
          intro b hb
          have nx := ih2 (b + 1) (by omega)
          rw [show sumb (mbel X f a) (b + 1) = sumb (mbel X f a) b + (if mbel X f a b then 1 else 0) from rfl] at nx
          refine ev_iload_7 i_mo_pair_66 ?_
          refine ev_aload_0 i_mo_pair_68 ?_
          refine ev_get i_mo_pair_69 fl_mo_27 H.1 rfl ?_
          refine ev_iload_1 i_mo_pair_72 ?_
          refine ev_ia (L := 16) i_mo_pair_73 H rfl rfl (j := p) rfl (by omega) (by omega) ?_
          rw [g1]
          refine ev_icmp_ge i_mo_pair_74 (fun c_74 => ?_) (fun c_74 => ?_)
          · exact absurd c_74 (nI_ge (by omega) (by omega))
          refine ev_iload_6 i_mo_pair_77 ?_
          refine ev_iload_4 i_mo_pair_79 ?_
          refine ev_iload_7 i_mo_pair_81 ?_
          refine ev_ishr i_mo_pair_83 ?_
          refine ev_iconst (v := 1) i_mo_pair_84 (by decide) ?_
          refine ev_iand i_mo_pair_85 ?_
          refine ev_iconst (v := 1) i_mo_pair_86 (by decide) ?_
          refine ev_icmp_ne i_mo_pair_87 (fun c_87 => ?_) (fun c_87 => ?_)
          · rw [show mbel X f a b = false from by unfold mbel mb; rw [decide_eq_false c_87]; rfl] at nx
            refine ev_iconst (v := 0) i_mo_pair_121 (by decide) ?_
            refine ev_iadd i_mo_pair_122 ?_
            refine ev_top (y := nI (sumb (mbel X f a) b)) (show nI _ + nI 0 = _ by rw [nI_add]; rfl) ?_
            refine ev_istore_6 i_mo_pair_123 rfl ?_
            refine ev_iinc_7 i_mo_pair_125 (nI_1 b) rfl ?_
            refine ev_goto i_mo_pair_128 ?_
            exact nx
          refine ev_aload_0 i_mo_pair_90 ?_
          refine ev_get i_mo_pair_91 fl_mo_30 H.1 rfl ?_
          refine ev_bipush (v := 30) i_mo_pair_94 (by decide) ?_
          refine ev_iload_1 i_mo_pair_96 ?_
          refine ev_imul i_mo_pair_97 ?_
          refine ev_iload_7 i_mo_pair_98 ?_
          refine ev_iadd i_mo_pair_100 ?_
          refine ev_ia (L := 480) i_mo_pair_101 H rfl rfl (j := 30 * p + b) (e30 b) (by omega) (by omega) ?_
          rw [hfa]
          refine ev_aload_0 i_mo_pair_102 ?_
          refine ev_get i_mo_pair_103 fl_mo_30 H.1 rfl ?_
          refine ev_bipush (v := 30) i_mo_pair_106 (by decide) ?_
          refine ev_iload_1 i_mo_pair_108 ?_
          refine ev_imul i_mo_pair_109 ?_
          refine ev_iload_5 i_mo_pair_110 ?_
          refine ev_iadd i_mo_pair_112 ?_
          refine ev_ia (L := 480) i_mo_pair_113 H rfl rfl (j := 30 * p + a) (e30 a) (by omega) (by omega) ?_
          rw [hfa]
          refine ev_icmp_ge i_mo_pair_114 (fun c_114 => ?_) (fun c_114 => ?_)
          · rw [show mbel X f a b = false from by unfold mbel; rw [decide_eq_false (Int32.not_lt.mpr c_114), Bool.and_false]] at nx
            refine ev_iconst (v := 0) i_mo_pair_121 (by decide) ?_
            refine ev_iadd i_mo_pair_122 ?_
            refine ev_top (y := nI (sumb (mbel X f a) b)) (show nI _ + nI 0 = _ by rw [nI_add]; rfl) ?_
            refine ev_istore_6 i_mo_pair_123 rfl ?_
            refine ev_iinc_7 i_mo_pair_125 (nI_1 b) rfl ?_
            refine ev_goto i_mo_pair_128 ?_
            exact nx
          · rw [show mbel X f a b = true from by unfold mbel mb; rw [decide_eq_true c_87, decide_eq_true (Int32.not_le.mp c_114)]; rfl] at nx
            refine ev_iconst (v := 1) i_mo_pair_117 (by decide) ?_
            refine ev_goto i_mo_pair_118 ?_
            refine ev_iadd i_mo_pair_122 ?_
            refine ev_top (y := nI (sumb (mbel X f a) b + 1)) (nI_1 _) ?_
            refine ev_istore_6 i_mo_pair_123 rfl ?_
            refine ev_iinc_7 i_mo_pair_125 (nI_1 b) rfl ?_
            refine ev_goto i_mo_pair_128 ?_
            exact nx
      exact loop2 (pm p) 0 (by omega)
  exact loop (pm p) 0 none none rfl rfl (by omega) rfl
theorem r_mo_entry {i what : Int32} {n : Nat} (H : MI G h0 h m ad sc A Wd) (hn : sc 28 = nI n) (hn2 : n ≤ 48) : Rn G M_mo_entry 0 0 0 [.ref m, .int i, .int what] h (ev_qi fun v h' => MI G h0 h' m ad (va_up sc 0 0) A Wd ∧ ((∃ j, i = nI j ∧ j < n ∧ ((what = 0 ∧ v = A 29 j) ∨ (what = 1 ∧ v = A 30 j) ∨ (what = 2 ∧ v = A 31 j) ∨ (what = 3 ∧ v = A 32 j) ∨ (what = 4 ∧ v = A 33 j) ∨ ((what < 0 ∨ 4 < what) ∧ v = -1))) ∨ ((i < 0 ∨ nI n ≤ i) ∧ v = -1))) := by
  refine Rn_of (ls := [some (.ref m), some (.int i), some (.int what)]) rfl rfl (Nat.le_of_ble_eq_true rfl) rfl ?_
  refine ev_aload_0 i_mo_entry_0 ?_
  refine ev_iconst (v := 0) i_mo_entry_1 (by decide) ?_
  refine ev_p0 i_mo_entry_2 pl_mo_entry_81 H (fun h H => ?_)
  refine ev_iload_1 i_mo_entry_5 ?_
  refine ev_if_lt i_mo_entry_6 (fun c_6 => ?_) (fun c_6 => ?_)
  · refine ev_iconst (v := (-1)) i_mo_entry_17 (by decide) ?_
    refine ev_ireturn i_mo_entry_18 rfl rfl ?_
    exact ⟨_, rfl, H, Or.inr ⟨Or.inl c_6, rfl⟩⟩
  refine ev_iload_1 i_mo_entry_9 ?_
  refine ev_aload_0 i_mo_entry_10 ?_
  refine ev_get i_mo_entry_11 fl_mo_169 H.1 rfl ?_
  refine ev_icmp_lt i_mo_entry_14 (fun c_14 => ?_) (fun c_14 => ?_)
  rotate_left
  · refine ev_iconst (v := (-1)) i_mo_entry_17 (by decide) ?_
    refine ev_ireturn i_mo_entry_18 rfl rfl ?_
    exact ⟨_, rfl, H, Or.inr ⟨Or.inr (by rw [← hn]; exact Int32.not_lt.mp c_14), rfl⟩⟩
  obtain ⟨j, hj, rfl⟩ := nI_of c_6
  have hjn : j < n := (nI_ltI hj (by omega)).mp (by rw [← hn]; exact c_14)
  refine ev_iload_2 i_mo_entry_19 ?_
  by_cases w0 : what.toInt < 0
  · refine ev_tableOut (tgt := 91) i_mo_entry_20 (Or.inl w0) (by decide) ?_
    refine ev_iconst (v := (-1)) i_mo_entry_91 (by decide) ?_
    refine ev_ireturn i_mo_entry_92 rfl rfl ?_
    exact ⟨_, rfl, H, Or.inl ⟨j, rfl, hjn, Or.inr (Or.inr (Or.inr (Or.inr (Or.inr ⟨Or.inl (by rw [Int32.lt_iff_toInt_lt]; exact w0), rfl⟩))))⟩⟩
  by_cases w4 : 4 < what.toInt
  · refine ev_tableOut (tgt := 91) i_mo_entry_20 (Or.inr w4) (by decide) ?_
    refine ev_iconst (v := (-1)) i_mo_entry_91 (by decide) ?_
    refine ev_ireturn i_mo_entry_92 rfl rfl ?_
    exact ⟨_, rfl, H, Or.inl ⟨j, rfl, hjn, Or.inr (Or.inr (Or.inr (Or.inr (Or.inr ⟨Or.inr (by rw [Int32.lt_iff_toInt_lt]; exact w4), rfl⟩))))⟩⟩
  obtain ⟨k, hk, rfl⟩ := nI_of (x := what) (by rw [Int32.lt_iff_toInt_lt]; exact w0)
  rw [nI_toInt hk] at w0 w4
  rcases (show k = 0 ∨ k = 1 ∨ k = 2 ∨ k = 3 ∨ k = 4 by omega) with rfl | rfl | rfl | rfl | rfl
  · refine ev_tableIn (off := 36) (tgt := 56) i_mo_entry_20 (by decide) (by decide) (by decide) (by decide) ?_
    refine ev_aload_0 i_mo_entry_56 ?_
    refine ev_get i_mo_entry_57 fl_mo_66 H.1 rfl ?_
    refine ev_iload_1 i_mo_entry_60 ?_
    refine ev_ia (L := 48) i_mo_entry_61 H rfl rfl (j := j) rfl (by omega) (by omega) ?_
    refine ev_ireturn i_mo_entry_62 rfl rfl ?_
    exact ⟨_, rfl, H, Or.inl ⟨j, rfl, hjn, Or.inl ⟨rfl, rfl⟩⟩⟩
  · refine ev_tableIn (off := 43) (tgt := 63) i_mo_entry_20 (by decide) (by decide) (by decide) (by decide) ?_
    refine ev_aload_0 i_mo_entry_63 ?_
    refine ev_get i_mo_entry_64 fl_mo_69 H.1 rfl ?_
    refine ev_iload_1 i_mo_entry_67 ?_
    refine ev_ia (L := 48) i_mo_entry_68 H rfl rfl (j := j) rfl (by omega) (by omega) ?_
    refine ev_ireturn i_mo_entry_69 rfl rfl ?_
    exact ⟨_, rfl, H, Or.inl ⟨j, rfl, hjn, Or.inr (Or.inl ⟨rfl, rfl⟩)⟩⟩
  · refine ev_tableIn (off := 50) (tgt := 70) i_mo_entry_20 (by decide) (by decide) (by decide) (by decide) ?_
    refine ev_aload_0 i_mo_entry_70 ?_
    refine ev_get i_mo_entry_71 fl_mo_72 H.1 rfl ?_
    refine ev_iload_1 i_mo_entry_74 ?_
    refine ev_ia (L := 48) i_mo_entry_75 H rfl rfl (j := j) rfl (by omega) (by omega) ?_
    refine ev_ireturn i_mo_entry_76 rfl rfl ?_
    exact ⟨_, rfl, H, Or.inl ⟨j, rfl, hjn, Or.inr (Or.inr (Or.inl ⟨rfl, rfl⟩))⟩⟩
  · refine ev_tableIn (off := 57) (tgt := 77) i_mo_entry_20 (by decide) (by decide) (by decide) (by decide) ?_
    refine ev_aload_0 i_mo_entry_77 ?_
    refine ev_get i_mo_entry_78 fl_mo_75 H.1 rfl ?_
    refine ev_iload_1 i_mo_entry_81 ?_
    refine ev_ia (L := 48) i_mo_entry_82 H rfl rfl (j := j) rfl (by omega) (by omega) ?_
    refine ev_ireturn i_mo_entry_83 rfl rfl ?_
    exact ⟨_, rfl, H, Or.inl ⟨j, rfl, hjn, Or.inr (Or.inr (Or.inr (Or.inl ⟨rfl, rfl⟩)))⟩⟩
  · refine ev_tableIn (off := 64) (tgt := 84) i_mo_entry_20 (by decide) (by decide) (by decide) (by decide) ?_
    refine ev_aload_0 i_mo_entry_84 ?_
    refine ev_get i_mo_entry_85 fl_mo_78 H.1 rfl ?_
    refine ev_iload_1 i_mo_entry_88 ?_
    refine ev_ia (L := 48) i_mo_entry_89 H rfl rfl (j := j) rfl (by omega) (by omega) ?_
    refine ev_ireturn i_mo_entry_90 rfl rfl ?_
    exact ⟨_, rfl, H, Or.inl ⟨j, rfl, hjn, Or.inr (Or.inr (Or.inr (Or.inr (Or.inl ⟨rfl, rfl⟩))))⟩⟩
theorem r_mo_all {n : Nat} (H : MI G h0 h m ad sc A Wd) (hn : sc 28 = nI n) (hn2 : n ≤ 48) : Rn G M_mo_all 0 0 0 [.ref m] h (ev_qi fun v h' => MI G h0 h' m ad (va_up sc 0 0) A Wd ∧ v = orf (A 32) n) := by
  refine Rn_of (ls := [some (.ref m), none, none]) rfl rfl (Nat.le_of_ble_eq_true rfl) rfl ?_
  refine ev_aload_0 i_mo_all_0 ?_
  refine ev_iconst (v := 0) i_mo_all_1 (by decide) ?_
  refine ev_p0 i_mo_all_2 pl_mo_all_81 H (fun h H => ?_)
  refine ev_iconst (v := 0) i_mo_all_5 (by decide) ?_
  refine ev_istore_1 i_mo_all_6 rfl ?_
  refine ev_iconst (v := 0) i_mo_all_7 (by decide) ?_
  refine ev_istore_2 i_mo_all_8 rfl ?_
  have loop : ∀ (q j : Nat), j + q = n → Ev G M_mo_all 0 0 0 (ev_qi fun v h' => MI G h0 h' m ad (va_up sc 0 0) A Wd ∧ v = orf (A 32) n) 9 [some (.ref m), some (.int (orf (A 32) j)), some (.int (nI j))] [] h := by
    intro q
    induction q with
    | zero =>
      intro j hj
      obtain rfl : j = n := by omega
      refine ev_iload_2 i_mo_all_9 ?_
      refine ev_aload_0 i_mo_all_10 ?_
      refine ev_get i_mo_all_11 fl_mo_169 H.1 rfl ?_
      refine ev_top (y := nI j) hn ?_
      refine ev_icmp_ge i_mo_all_14 (fun c_14 => ?_) (fun c_14 => ?_)
      · refine ev_iload_1 i_mo_all_32 ?_
        refine ev_ireturn i_mo_all_33 rfl rfl ?_
        exact ⟨_, rfl, H, rfl⟩
      · exact absurd (nI_le (Nat.le_refl _) (by omega)) c_14
    | succ q ih =>
      intro j hj
      refine ev_iload_2 i_mo_all_9 ?_
      refine ev_aload_0 i_mo_all_10 ?_
      refine ev_get i_mo_all_11 fl_mo_169 H.1 rfl ?_
      refine ev_top (y := nI n) hn ?_
      refine ev_icmp_ge i_mo_all_14 (fun c_14 => ?_) (fun c_14 => ?_)
      · exact absurd c_14 (nI_ge (by omega) (by omega))
      refine ev_iload_1 i_mo_all_17 ?_
      refine ev_aload_0 i_mo_all_18 ?_
      refine ev_get i_mo_all_19 fl_mo_75 H.1 rfl ?_
      refine ev_iload_2 i_mo_all_22 ?_
      refine ev_ia (L := 48) i_mo_all_23 H rfl rfl (j := j) rfl (by omega) (by omega) ?_
      refine ev_ior i_mo_all_24 ?_
      refine ev_istore_1 i_mo_all_25 rfl ?_
      refine ev_iinc_2 i_mo_all_26 (nI_1 j) rfl ?_
      refine ev_goto i_mo_all_29 ?_
      exact ih (j + 1) (by omega)
  exact loop n 0 (by omega)
theorem r_mo_material {i : Int32} {n : Nat} (H : MI G h0 h m ad sc A Wd) (hn : sc 28 = nI n) (hn2 : n ≤ 48) : Rn G M_mo_material 0 0 0 [.ref m, .int i] h (ev_qi fun v h' => MI G h0 h' m ad (va_up sc 0 0) A Wd ∧ v = dnum (A 29) i n) := by
  refine Rn_of (ls := [some (.ref m), some (.int i), none, none, none, none]) rfl rfl (Nat.le_of_ble_eq_true rfl) rfl ?_
  refine ev_aload_0 i_mo_material_0 ?_
  refine ev_iconst (v := 0) i_mo_material_1 (by decide) ?_
  refine ev_p0 i_mo_material_2 pl_mo_material_81 H (fun h H => ?_)
  refine ev_iconst (v := 0) i_mo_material_5 (by decide) ?_
  refine ev_istore_2 i_mo_material_6 rfl ?_
  refine ev_iconst (v := 0) i_mo_material_7 (by decide) ?_
  refine ev_istore_3 i_mo_material_8 rfl ?_
  generalize hN : A 29 = N
  have hNa : ∀ a, A 29 a = N a := fun a => by rw [hN]
  have loop : ∀ (q j : Nat) (w4 w5 : Option Value), ev_nl w4 = true → ev_nl w5 = true → j + q = n → (List.range j).find? (fun k => isf N k && decide (nI (sumb (isf N) k) = i)) = none → Ev G M_mo_material 0 0 0 (ev_qi fun v h' => MI G h0 h' m ad (va_up sc 0 0) A Wd ∧ v = dnum N i n) 9 [some (.ref m), some (.int i), some (.int (nI (sumb (isf N) j))), some (.int (nI j)), w4, w5] [] h := by
    intro q
    induction q with
    | zero =>
      intro j w4 w5 hw4 hw5 hj hno
      obtain rfl : j = n := by omega
      refine ev_iload_3 i_mo_material_9 ?_
      refine ev_aload_0 i_mo_material_10 ?_
      refine ev_get i_mo_material_11 fl_mo_169 H.1 rfl ?_
      refine ev_top (y := nI j) hn ?_
      refine ev_icmp_ge i_mo_material_14 (fun c_14 => ?_) (fun c_14 => ?_)
      · refine ev_iconst (v := (-1)) i_mo_material_92 (by decide) ?_
        refine ev_ireturn i_mo_material_93 rfl rfl ?_
        exact ⟨_, rfl, H, by unfold dnum; rw [hno]⟩
      · exact absurd (nI_le (Nat.le_refl _) (by omega)) c_14
    | succ q ih =>
      intro j w4 w5 hw4 hw5 hj hno
      have hnx := ih (j + 1)
      rw [show sumb (isf N) (j + 1) = sumb (isf N) j + (if isf N j then 1 else 0) from rfl] at hnx
      refine ev_iload_3 i_mo_material_9 ?_
      refine ev_aload_0 i_mo_material_10 ?_
      refine ev_get i_mo_material_11 fl_mo_169 H.1 rfl ?_
      refine ev_top (y := nI n) hn ?_
      refine ev_icmp_ge i_mo_material_14 (fun c_14 => ?_) (fun c_14 => ?_)
      · exact absurd c_14 (nI_ge (by omega) (by omega))
      refine ev_iconst (v := 0) i_mo_material_17 (by decide) ?_
      refine ev_istore_4 i_mo_material_18 rfl ?_
      refine ev_iconst (v := 0) i_mo_material_20 (by decide) ?_
      refine ev_istore_5 i_mo_material_21 rfl ?_
      have loop2 : ∀ (q2 b : Nat) (again : Int32), b + q2 = j → (again = 0 ∧ (∀ t, t < b → ¬ N t = N j) ∨ again = 1 ∧ ∃ t, t < b ∧ N t = N j) → Ev G M_mo_material 0 0 0 (ev_qi fun v h' => MI G h0 h' m ad (va_up sc 0 0) A Wd ∧ v = dnum N i n) 23 [some (.ref m), some (.int i), some (.int (nI (sumb (isf N) j))), some (.int (nI j)), some (.int again), some (.int (nI b))] [] h := by
        intro q2
        induction q2 with
        | zero =>
          intro b again hb hag
          obtain rfl : b = j := by omega
          refine ev_iload_5 i_mo_material_23 ?_
          refine ev_iload_3 i_mo_material_25 ?_
          refine ev_icmp_ge i_mo_material_26 (fun c_26 => ?_) (fun c_26 => ?_)
          rotate_left
          · exact absurd (nI_le (Nat.le_refl _) (by omega)) c_26
          rcases hag with ⟨rfl, hag⟩ | ⟨rfl, t, ht, et⟩
          · have hS : isf N b = true := decide_eq_true hag
            rw [hS] at hnx
            refine ev_iload_4 i_mo_material_63 ?_
            refine ev_if_eq i_mo_material_65 (fun c_65 => ?_) (fun c_65 => ?_)
            rotate_left
            · exact absurd rfl c_65
            refine ev_iload_2 i_mo_material_71 ?_
            refine ev_iload_1 i_mo_material_72 ?_
            refine ev_icmp_ne i_mo_material_73 (fun c_73 => ?_) (fun c_73 => ?_)
            · refine ev_iinc_2 i_mo_material_83 (nI_1 _) rfl ?_
              refine ev_iinc_3 i_mo_material_86 (nI_1 b) rfl ?_
              refine ev_goto i_mo_material_89 ?_
              exact hnx _ _ rfl rfl (by omega) (fd_n hno (by rw [decide_eq_false c_73, Bool.and_false]))
            · refine ev_aload_0 i_mo_material_76 ?_
              refine ev_get i_mo_material_77 fl_mo_66 H.1 rfl ?_
              refine ev_iload_3 i_mo_material_80 ?_
              refine ev_ia (L := 48) i_mo_material_81 H rfl rfl (j := b) rfl (by omega) (by omega) ?_
              rw [hNa]
              refine ev_ireturn i_mo_material_82 rfl rfl ?_
              refine ⟨_, rfl, H, ?_⟩
              unfold dnum
              rw [fd_h (j := b) hno (by omega) (by rw [hS, decide_eq_true c_73]; rfl)]
          · have hS : isf N b = false := decide_eq_false (fun z => z t ht et)
            rw [hS] at hnx
            refine ev_iload_4 i_mo_material_63 ?_
            refine ev_if_eq i_mo_material_65 (fun c_65 => ?_) (fun c_65 => ?_)
            · exact absurd c_65 (by decide)
            refine ev_goto i_mo_material_68 ?_
            refine ev_iinc_3 i_mo_material_86 (nI_1 b) rfl ?_
            refine ev_goto i_mo_material_89 ?_
            exact hnx _ _ rfl rfl (by omega) (fd_n hno (by rw [hS, Bool.false_and]))
        | succ q2 ih2 =>
          intro b again hb hag
          refine ev_iload_5 i_mo_material_23 ?_
          refine ev_iload_3 i_mo_material_25 ?_
          refine ev_icmp_ge i_mo_material_26 (fun c_26 => ?_) (fun c_26 => ?_)
          · exact absurd c_26 (nI_ge (by omega) (by omega))
          refine ev_iload_4 i_mo_material_29 ?_
          refine ev_if_ne i_mo_material_31 (fun c_31 => ?_) (fun c_31 => ?_)
          · rcases hag with ⟨rfl, hag⟩ | ⟨rfl, t, ht, et⟩
            · exact absurd rfl c_31
            refine ev_iconst (v := 1) i_mo_material_50 (by decide) ?_
            refine ev_goto i_mo_material_51 ?_
            refine ev_istore_4 i_mo_material_55 rfl ?_
            refine ev_iinc_5 i_mo_material_57 (nI_1 b) rfl ?_
            refine ev_goto i_mo_material_60 ?_
            exact ih2 (b + 1) _ (by omega) (Or.inr ⟨rfl, t, by omega, et⟩)
          rcases hag with ⟨rfl, hag⟩ | ⟨rfl, t, ht, et⟩
          rotate_left
          · exact absurd c_31 (by decide)
          refine ev_aload_0 i_mo_material_34 ?_
          refine ev_get i_mo_material_35 fl_mo_66 H.1 rfl ?_
          refine ev_iload_5 i_mo_material_38 ?_
          refine ev_ia (L := 48) i_mo_material_40 H rfl rfl (j := b) rfl (by omega) (by omega) ?_
          rw [hNa]
          refine ev_aload_0 i_mo_material_41 ?_
          refine ev_get i_mo_material_42 fl_mo_66 H.1 rfl ?_
          refine ev_iload_3 i_mo_material_45 ?_
          refine ev_ia (L := 48) i_mo_material_46 H rfl rfl (j := j) rfl (by omega) (by omega) ?_
          rw [hNa]
          refine ev_icmp_ne i_mo_material_47 (fun c_47 => ?_) (fun c_47 => ?_)
          · refine ev_iconst (v := 0) i_mo_material_54 (by decide) ?_
            refine ev_istore_4 i_mo_material_55 rfl ?_
            refine ev_iinc_5 i_mo_material_57 (nI_1 b) rfl ?_
            refine ev_goto i_mo_material_60 ?_
            exact ih2 (b + 1) _ (by omega) (Or.inl ⟨rfl, fun t ht => by
              by_cases z : t = b
              · rw [z]; exact c_47
              · exact hag t (by omega)⟩)
          · refine ev_iconst (v := 1) i_mo_material_50 (by decide) ?_
            refine ev_goto i_mo_material_51 ?_
            refine ev_istore_4 i_mo_material_55 rfl ?_
            refine ev_iinc_5 i_mo_material_57 (nI_1 b) rfl ?_
            refine ev_goto i_mo_material_60 ?_
            exact ih2 (b + 1) _ (by omega) (Or.inr ⟨rfl, b, by omega, c_47⟩)
      exact loop2 j 0 0 (by omega) (Or.inl ⟨rfl, fun t ht => by omega⟩)
  exact loop n 0 none none rfl rfl (by omega) rfl
end MO5
