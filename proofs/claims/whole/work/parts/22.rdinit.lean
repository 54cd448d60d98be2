section RDI
variable {G : ev_G} {h : ev_H}
theorem kpN {h : ev_H} {p q : Nat} {e : va_E} {x : Option va_E} (hp : h p = some e) (hq : h q = none) : va_up h q x p = some e := hu_ne (fun z => by subst z; rw [hp] at hq; cases hq) hp
theorem kpN0 {h : ev_H} {p q : Nat} {x : Option va_E} (hp : va_up h q x p = none) (hx : x ≠ none) : h p = none ∧ p ≠ q := by
  have : p ≠ q := fun z => by subst z; rw [va_up_self] at hp; exact hx hp
  rw [va_up_ne _ _ this] at hp
  exact ⟨hp, this⟩
/-- an object while it is made: its cell, and the new cells that it has -/
def mk_at (h hh : ev_H) (a : Nat) (cell : va_E) (L : List (Nat × va_E)) : Prop := hh a = some cell ∧ (∀ x ∈ L, hh x.1 = some x.2 ∧ x.1 ≠ a ∧ h x.1 = none) ∧ (L.map Prod.fst).Nodup ∧ (∀ q e, h q = some e → q ≠ a → hh q = some e)
theorem mk_0 {a : Nat} {cell : va_E} (ha : h a = some cell) : mk_at h h a cell [] := ⟨ha, fun x hx => absurd hx List.not_mem_nil, List.nodup_nil, fun _ _ hq _ => hq⟩
theorem mk_new {hh : ev_H} {a q : Nat} {cell e : va_E} {L : List (Nat × va_E)} (H : mk_at h hh a cell L) (hq : hh q = none) : mk_at h (va_up hh q (some e)) a cell ((q, e) :: L) := by
  obtain ⟨k0, k1, k2, k3⟩ := H
  have hqa : q ≠ a := fun z => by subst z; rw [k0] at hq; cases hq
  refine ⟨kpN k0 hq, fun x hx => ?_, ?_, fun p e' hp hpa => kpN (k3 p e' hp hpa) hq⟩
  · rcases List.mem_cons.mp hx with rfl | hx
    · refine ⟨va_up_self _ _ _, hqa, ?_⟩
      show h q = none
      cases z : h q with
      | none => rfl
      | some e' => rw [k3 q e' z hqa] at hq; cases hq
    · exact ⟨kpN (k1 x hx).1 hq, (k1 x hx).2⟩
  · rw [List.map_cons, List.nodup_cons]
    refine ⟨fun z => ?_, k2⟩
    obtain ⟨x, hx, e1⟩ := List.mem_map.mp z
    have := (k1 x hx).1
    rw [e1, hq] at this
    cases this
theorem mk_put {hh : ev_H} {a : Nat} {cell cell' : va_E} {L : List (Nat × va_E)} (H : mk_at h hh a cell L) : mk_at h (va_up hh a (some cell')) a cell' L := by
  obtain ⟨k0, k1, k2, k3⟩ := H
  exact ⟨va_up_self _ _ _, fun x hx => ⟨hu_ne (k1 x hx).2.1 (k1 x hx).1, (k1 x hx).2⟩, k2, fun p e hp hpa => hu_ne hpa (k3 p e hp hpa)⟩
theorem mk_set2 {hh : ev_H} {a q b : Nat} {cell e e0 x : va_E} {L : List (Nat × va_E)} (H : mk_at h hh a cell ((b, x) :: (q, e0) :: L)) : mk_at h (va_up hh q (some e)) a cell ((b, x) :: (q, e) :: L) := by
  obtain ⟨k0, k1, k2, k3⟩ := H
  have hqa := (k1 (q, e0) (by simp)).2.1
  have hqn := (k1 (q, e0) (by simp)).2.2
  simp only [List.map_cons, List.nodup_cons, List.mem_cons, not_or] at k2
  obtain ⟨⟨n1, n2⟩, n3, n4⟩ := k2
  refine ⟨hu_ne (Ne.symm hqa) k0, fun y hy => ?_, ?_, fun p e' hp hpa => hu_ne (fun z => by subst z; rw [hp] at hqn; cases hqn) (k3 p e' hp hpa)⟩
  · rcases List.mem_cons.mp hy with rfl | hy
    · exact ⟨hu_ne n1 (k1 (b, x) (by simp)).1, (k1 (b, x) (by simp)).2⟩
    · rcases List.mem_cons.mp hy with rfl | hy
      · exact ⟨va_up_self _ _ _, hqa, hqn⟩
      · have hy' := k1 y (by simp [hy])
        exact ⟨hu_ne (fun z => n3 (List.mem_map.mpr ⟨y, hy, z⟩)) hy'.1, hy'.2⟩
  · simp only [List.map_cons, List.nodup_cons, List.mem_cons, not_or]
    exact ⟨⟨n1, n2⟩, n3, n4⟩
/-- a new form, made whole -/
theorem mk_form {hh : ev_H} {a q b r : Nat} {cell : va_E} {L : List (Nat × va_E)} (H : mk_at h (va_up hh q (some (.inr (0, [.int 0, .null, .int 0])))) a cell ((q, .inr (0, [.int 0, .null, .int 0])) :: L)) (hb : va_up hh q (some (.inr (0, [.int 0, .null, .int 0]))) b = none) :
    mk_at h (va_up (va_up (va_up hh q (some (.inr (0, [.int 0, .null, .int 0])))) b (some (fo_b G r (fun _ => 0)))) q (some (fo_c b r 0))) a cell ((b, fo_b G r (fun _ => 0)) :: (q, fo_c b r 0) :: L) := mk_set2 (mk_new H hb)
/-- the reader while it is made: the forms in U are there; so many places of eithers and alsos are filled -/
def rdp (G : ev_G) (h0 hh : ev_H) (a tx ea aa : Nat) (fa fb : Nat → Nat) (U : Nat → Prop) (ie ia : Nat) : Prop :=
  hh a = some (rd_c tx ea aa (fa 0) (fa 1) 0 0 0 0 0) ∧ hh tx = some (aC G 60 (fun _ => 0)) ∧ (∃ f : Nat → Option Nat, hh ea = some (aF G 11 f) ∧ ∀ i, i < ie → f i = some (fa (2 + i))) ∧ (∃ f : Nat → Option Nat, hh aa = some (aF G 11 f) ∧ ∀ i, i < ia → f i = some (fa (13 + i))) ∧
  (∀ t, U t → fm_at G hh (fa t) (fb t) (rm t) []) ∧ (∀ t u, U t → U u → fa t = fa u → t = u) ∧ (∀ t u, U t → U u → fb t = fb u → t = u) ∧
  (∀ t, U t → h0 (fa t) = none ∧ h0 (fb t) = none) ∧ (h0 tx = none ∧ h0 ea = none ∧ h0 aa = none ∧ ea ≠ aa) ∧ (∀ q e, h0 q = some e → q ≠ a → hh q = some e) ∧ (∃ e, h0 a = some e)
theorem rdp_form {h0 hh : ev_H} {a tx ea aa ie ia t q b : Nat} {fa fb : Nat → Nat} {U : Nat → Prop} (H : rdp G h0 hh a tx ea aa fa fb U ie ia) (hq : hh q = none) (hb : hh b = none) (hqb : b ≠ q) (ht : ¬ U t) (h0t : U 0) (h1t : U 1) (he : ∀ i, i < ie → U (2 + i)) (hai : ∀ i, i < ia → U (13 + i)) :
    rdp G h0 (va_up (va_up hh b (some (fo_b G (rm t) (fun _ => 0)))) q (some (fo_c b (rm t) 0))) a tx ea aa (va_up fa t q) (va_up fb t b) (fun u => U u ∨ u = t) ie ia := by
  obtain ⟨k0, k1, ⟨f2, k2, e2⟩, ⟨f3, k3, e3⟩, k4, k5, k6, k7, k8, k9, k10⟩ := H
  have hq' : va_up hh b (some (fo_b G (rm t) (fun _ => 0))) q = none := hu_ne (Ne.symm hqb) hq
  have kp : ∀ p e, hh p = some e → va_up (va_up hh b (some (fo_b G (rm t) (fun _ => 0)))) q (some (fo_c b (rm t) 0)) p = some e := fun p e hp => kpN (kpN hp hb) hq'
  have nt : ∀ u, U u → u ≠ t := fun u hu z => ht (z ▸ hu)
  have fq : h0 q = none := by
    cases z : h0 q with
    | none => rfl
    | some e =>
      by_cases hqa : q = a
      · subst hqa; rw [k0] at hq; cases hq
      · rw [k9 q e z hqa] at hq; cases hq
  have fb0 : h0 b = none := by
    cases z : h0 b with
    | none => rfl
    | some e =>
      by_cases hqa : b = a
      · subst hqa; rw [k0] at hb; cases hb
      · rw [k9 b e z hqa] at hb; cases hb
  refine ⟨?_, kp _ _ k1, ⟨f2, kp _ _ k2, fun i hi => ?_⟩, ⟨f3, kp _ _ k3, fun i hi => ?_⟩, fun u hu => ?_, fun u v hu hv z => ?_, fun u v hu hv z => ?_, fun u hu => ?_, k8, fun p e hp hpa => kp _ _ (k9 p e hp hpa), k10⟩
  · rw [va_up_ne _ _ (nt 0 h0t), va_up_ne _ _ (nt 1 h1t)]
    exact kp _ _ k0
  · rw [va_up_ne _ _ (nt _ (he i hi))]
    exact e2 i hi
  · rw [va_up_ne _ _ (nt _ (hai i hi))]
    exact e3 i hi
  · rcases hu with hu | rfl
    · rw [va_up_ne _ _ (nt u hu), va_up_ne _ _ (nt u hu)]
      obtain ⟨n, B, g1, g2, g3, g4⟩ := k4 u hu
      exact ⟨n, B, kp _ _ g1, kp _ _ g2, g3, g4⟩
    · rw [va_up_self, va_up_self]
      exact ⟨0, fun _ => 0, va_up_self _ _ _, hu_ne hqb (va_up_self _ _ _), Nat.zero_le _, rfl⟩
  · rcases hu with hu | rfl <;> rcases hv with hv | rfl
    · rw [va_up_ne _ _ (nt u hu), va_up_ne _ _ (nt v hv)] at z
      exact k5 u v hu hv z
    · rw [va_up_ne _ _ (nt u hu), va_up_self] at z
      obtain ⟨n, B, g1, -⟩ := k4 u hu
      rw [z, hq] at g1
      cases g1
    · rw [va_up_ne _ _ (nt v hv), va_up_self] at z
      obtain ⟨n, B, g1, -⟩ := k4 v hv
      rw [← z, hq] at g1
      cases g1
    · rfl
  · rcases hu with hu | rfl <;> rcases hv with hv | rfl
    · rw [va_up_ne _ _ (nt u hu), va_up_ne _ _ (nt v hv)] at z
      exact k6 u v hu hv z
    · rw [va_up_ne _ _ (nt u hu), va_up_self] at z
      obtain ⟨n, B, -, g2, -⟩ := k4 u hu
      rw [z, hb] at g2
      cases g2
    · rw [va_up_ne _ _ (nt v hv), va_up_self] at z
      obtain ⟨n, B, -, g2, -⟩ := k4 v hv
      rw [← z, hb] at g2
      cases g2
    · rfl
  · rcases hu with hu | rfl
    · rw [va_up_ne _ _ (nt u hu), va_up_ne _ _ (nt u hu)]
      exact k7 u hu
    · rw [va_up_self, va_up_self]
      exact ⟨fq, fb0⟩
theorem rdp_ea {h0 hh : ev_H} {a tx ea aa ie ia : Nat} {fa fb : Nat → Nat} {U : Nat → Prop} {f : Nat → Option Nat} (H : rdp G h0 hh a tx ea aa fa fb U ie ia) (hf : hh ea = some (aF G 11 f)) : rdp G h0 (va_up hh ea (some (aF G 11 (va_up f ie (some (fa (2 + ie))))))) a tx ea aa fa fb U (ie + 1) ia := by
  obtain ⟨k0, k1, ⟨f2, k2, e2⟩, ⟨f3, k3, e3⟩, k4, k5, k6, k7, k8, k9, k10⟩ := H
  have ef : f2 = f := by
    rw [k2] at hf
    have := Option.some.inj hf
    cases this
    rfl
  subst ef
  refine ⟨hu_ne (hne_of k0 k2 (fun z => by cases z)) k0, hu_ne (hne_of k1 k2 (al_ne2 (fun z => by cases z))) k1, ⟨_, va_up_self _ _ _, fun i hi => ?_⟩, ⟨f3, hu_ne (Ne.symm k8.2.2.2) k3, e3⟩, fun t ht => ?_, k5, k6, k7, k8, fun q e hq hqa => ?_, k10⟩
  · by_cases z : i = ie
    · rw [z, va_up_self]
    · rw [va_up_ne _ _ z]
      exact e2 i (by omega)
  · obtain ⟨n, B, g1, g2, g3, g4⟩ := k4 t ht
    exact ⟨n, B, hu_ne (hne_of g1 k2 (fun z => by cases z)) g1, hu_ne (hne_of g2 k2 (al_ne2 (fun z => by cases z))) g2, g3, g4⟩
  · exact hu_ne (fun z => by subst z; rw [k8.2.1] at hq; cases hq) (k9 q e hq hqa)
theorem rdp_aa {h0 hh : ev_H} {a tx ea aa ie ia : Nat} {fa fb : Nat → Nat} {U : Nat → Prop} {f : Nat → Option Nat} (H : rdp G h0 hh a tx ea aa fa fb U ie ia) (hf : hh aa = some (aF G 11 f)) : rdp G h0 (va_up hh aa (some (aF G 11 (va_up f ia (some (fa (13 + ia))))))) a tx ea aa fa fb U ie (ia + 1) := by
  obtain ⟨k0, k1, ⟨f2, k2, e2⟩, ⟨f3, k3, e3⟩, k4, k5, k6, k7, k8, k9, k10⟩ := H
  have ef : f3 = f := by
    rw [k3] at hf
    have := Option.some.inj hf
    cases this
    rfl
  subst ef
  refine ⟨hu_ne (hne_of k0 k3 (fun z => by cases z)) k0, hu_ne (hne_of k1 k3 (al_ne2 (fun z => by cases z))) k1, ⟨f2, hu_ne k8.2.2.2 k2, e2⟩, ⟨_, va_up_self _ _ _, fun i hi => ?_⟩, fun t ht => ?_, k5, k6, k7, k8, fun q e hq hqa => ?_, k10⟩
  · by_cases z : i = ia
    · rw [z, va_up_self]
    · rw [va_up_ne _ _ z]
      exact e3 i (by omega)
  · obtain ⟨n, B, g1, g2, g3, g4⟩ := k4 t ht
    exact ⟨n, B, hu_ne (hne_of g1 k3 (fun z => by cases z)) g1, hu_ne (hne_of g2 k3 (al_ne2 (fun z => by cases z))) g2, g3, g4⟩
  · exact hu_ne (fun z => by subst z; rw [k8.2.2.1] at hq; cases hq) (k9 q e hq hqa)
theorem rdp_U {h0 hh : ev_H} {a tx ea aa ie ia : Nat} {fa fb : Nat → Nat} {U V : Nat → Prop} (H : rdp G h0 hh a tx ea aa fa fb U ie ia) (hUV : ∀ t, V t → U t) : rdp G h0 hh a tx ea aa fa fb V ie ia := by
  obtain ⟨k0, k1, k2, k3, k4, k5, k6, k7, k8, k9, k10⟩ := H
  exact ⟨k0, k1, k2, k3, fun t ht => k4 t (hUV t ht), fun t u ht hu => k5 t u (hUV t ht) (hUV u hu), fun t u ht hu => k6 t u (hUV t ht) (hUV u hu), fun t ht => k7 t (hUV t ht), k8, k9, k10⟩
def uS (i : Nat) (t : Nat) : Prop := t < 2 ∨ (2 ≤ t ∧ t < 2 + i) ∨ (13 ≤ t ∧ t < 13 + i)
theorem r_rd_init {a : Nat} (ha : h a = some (.inr (2, [.null, .null, .null, .null, .null, .int 0, .int 0, .int 0, .int 0, .int 0]))) :
    Rn G M_rd_init 2 51 2677 [.ref a] h (ev_qv fun h' => ∃ (tx ea aa : Nat) (fa fb : Nat → Nat), rdp G h h' a tx ea aa fa fb (fun t => t < 24) 11 11) := by
  have m0 := mk_0 ha
  refine Rn_of (ls := [some (.ref a), none]) rfl rfl (Nat.le_of_ble_eq_true rfl) rfl ?_
  refine ev_aload_0 i_rd_init_0 ?_
  refine ev_obj i_rd_init_1 ob_rd_3 ob_2 ob_3 (by decide) (Nat.le_of_ble_eq_true rfl) ?_
  refine ev_aload_0 i_rd_init_4 ?_
  refine ev_bipush (v := 60) i_rd_init_5 (by decide) ?_
  refine ev_newa (N := 60) (a0 := (60, .inl (fun _ => 0))) (kc' := 50) (ks' := 2617) i_rd_init_7 rfl ty_char ac_char (fun _ => rfl) rfl (by omega) rfl rfl (fun tx htx => ?_)
  have m1 := mk_new (e := aC G 60 (fun _ => 0)) m0 htx
  refine ev_put i_rd_init_9 pl_rd_init_9 m1.1 rfl rfl (Nat.le_of_ble_eq_true rfl) rfl ?_
  have m2 := mk_put (cell' := .inr (2, [.ref tx, .null, .null, .null, .null, .int 0, .int 0, .int 0, .int 0, .int 0])) m1
  show Ev G M_rd_init 2 50 2617 _ _ _ _ (va_up (va_up h tx (some (aC G 60 (fun _ => 0)))) a (some (.inr (2, [.ref tx, .null, .null, .null, .null, .int 0, .int 0, .int 0, .int 0, .int 0]))))
  generalize va_up (va_up h tx (some (aC G 60 (fun _ => 0)))) a (some (.inr (2, [.ref tx, .null, .null, .null, .null, .int 0, .int 0, .int 0, .int 0, .int 0]))) = g2 at m2 ⊢
  refine ev_aload_0 i_rd_init_12 ?_
  refine ev_bipush (v := 11) i_rd_init_13 (by decide) ?_
  refine ev_newq (N := 11) (kc' := 49) (ks' := 2606) i_rd_init_15 ty_form cl_rd_15 (by decide +kernel) rfl (by omega) rfl rfl (fun ea hea => ?_)
  have m3 := mk_new (e := aF G 11 (fun _ => none)) m2 hea
  refine ev_put i_rd_init_18 pl_rd_init_17 m3.1 rfl rfl (Nat.le_of_ble_eq_true rfl) rfl ?_
  have m4 := mk_put (cell' := .inr (2, [.ref tx, .ref ea, .null, .null, .null, .int 0, .int 0, .int 0, .int 0, .int 0])) m3
  show Ev G M_rd_init 2 49 2606 _ _ _ _ (va_up (va_up g2 ea (some (aF G 11 (fun _ => none)))) a (some (.inr (2, [.ref tx, .ref ea, .null, .null, .null, .int 0, .int 0, .int 0, .int 0, .int 0]))))
  generalize va_up (va_up g2 ea (some (aF G 11 (fun _ => none)))) a (some (.inr (2, [.ref tx, .ref ea, .null, .null, .null, .int 0, .int 0, .int 0, .int 0, .int 0]))) = g4 at m4 ⊢
  refine ev_aload_0 i_rd_init_21 ?_
  refine ev_bipush (v := 11) i_rd_init_22 (by decide) ?_
  refine ev_newq (N := 11) (kc' := 48) (ks' := 2595) i_rd_init_24 ty_form cl_rd_15 (by decide +kernel) rfl (by omega) rfl rfl (fun aa haa => ?_)
  have m5 := mk_new (e := aF G 11 (fun _ => none)) m4 haa
  refine ev_put i_rd_init_27 pl_rd_init_21 m5.1 rfl rfl (Nat.le_of_ble_eq_true rfl) rfl ?_
  have m6 := mk_put (cell' := .inr (2, [.ref tx, .ref ea, .ref aa, .null, .null, .int 0, .int 0, .int 0, .int 0, .int 0])) m5
  show Ev G M_rd_init 2 48 2595 _ _ _ _ (va_up (va_up g4 aa (some (aF G 11 (fun _ => none)))) a (some (.inr (2, [.ref tx, .ref ea, .ref aa, .null, .null, .int 0, .int 0, .int 0, .int 0, .int 0]))))
  generalize va_up (va_up g4 aa (some (aF G 11 (fun _ => none)))) a (some (.inr (2, [.ref tx, .ref ea, .ref aa, .null, .null, .int 0, .int 0, .int 0, .int 0, .int 0]))) = g6 at m6 ⊢
  refine ev_aload_0 i_rd_init_30 ?_
  refine ev_new (fs := [.int 0, .null, .int 0]) (kc' := 47) (ks' := 2592) i_rd_init_31 k_fo cl_rd_15 ns_fo in_fo (fun j hj => by rcases (show j = 0 ∨ j = 1 ∨ j = 2 by omega) with rfl | rfl | rfl <;> rfl) rfl rfl (fun q0 hq0 => ?_)
  have m7 := mk_new (e := .inr (0, [.int 0, .null, .int 0])) m6 hq0
  refine ev_dup i_rd_init_34 rfl ?_
  refine ev_iconst (v := 1) i_rd_init_35 (by decide) ?_
  refine ev_sv1 (kc' := 46) (ks' := 2589) i_rd_init_36 lk_rd_24 cb_fo_init iv_fo_init (r_fo_init (r := 1) (va_up_self _ _ _) (by omega) (by omega)) (by decide) (Nat.le_of_ble_eq_true rfl) rfl rfl (fun h1 hq => ?_)
  obtain ⟨b0, hb0q, hb0, rfl⟩ := hq
  have m8 := mk_form (G := G) (r := 1) m7 hb0
  refine ev_put i_rd_init_39 pl_rd_init_27 m8.1 rfl rfl (Nat.le_of_ble_eq_true rfl) rfl ?_
  have m9 := mk_put (cell' := .inr (2, [.ref tx, .ref ea, .ref aa, .ref q0, .null, .int 0, .int 0, .int 0, .int 0, .int 0])) m8
  show Ev G M_rd_init 2 46 2589 _ _ _ _ (va_up (va_up (va_up (va_up g6 q0 (some (.inr (0, [.int 0, .null, .int 0])))) b0 (some (fo_b G 1 (fun _ => 0)))) q0 (some (fo_c b0 1 0))) a (some (.inr (2, [.ref tx, .ref ea, .ref aa, .ref q0, .null, .int 0, .int 0, .int 0, .int 0, .int 0]))))
  generalize va_up (va_up (va_up (va_up g6 q0 (some (.inr (0, [.int 0, .null, .int 0])))) b0 (some (fo_b G 1 (fun _ => 0)))) q0 (some (fo_c b0 1 0))) a (some (.inr (2, [.ref tx, .ref ea, .ref aa, .ref q0, .null, .int 0, .int 0, .int 0, .int 0, .int 0]))) = g9 at m9 ⊢
  refine ev_aload_0 i_rd_init_42 ?_
  refine ev_new (fs := [.int 0, .null, .int 0]) (kc' := 45) (ks' := 2586) i_rd_init_43 k_fo cl_rd_15 ns_fo in_fo (fun j hj => by rcases (show j = 0 ∨ j = 1 ∨ j = 2 by omega) with rfl | rfl | rfl <;> rfl) rfl rfl (fun q1 hq1 => ?_)
  have m10 := mk_new (e := .inr (0, [.int 0, .null, .int 0])) m9 hq1
  refine ev_dup i_rd_init_46 rfl ?_
  refine ev_sipush (v := 400) i_rd_init_47 (by decide) ?_
  refine ev_sv1 (kc' := 44) (ks' := 1386) i_rd_init_50 lk_rd_24 cb_fo_init iv_fo_init (r_fo_init (r := 400) (va_up_self _ _ _) (by omega) (by omega)) (by decide) (Nat.le_of_ble_eq_true rfl) rfl rfl (fun h1 hq => ?_)
  obtain ⟨b1, hb1q, hb1, rfl⟩ := hq
  have m11 := mk_form (G := G) (r := 400) m10 hb1
  refine ev_put i_rd_init_53 pl_rd_init_31 m11.1 rfl rfl (Nat.le_of_ble_eq_true rfl) rfl ?_
  refine ev_aload_0 i_rd_init_56 ?_
  refine ev_iconst (v := 0) i_rd_init_57 (by decide) ?_
  refine ev_put i_rd_init_58 pl_rd_init_34 (by repeat (first | assumption | exact va_up_self _ _ _ | refine hu_ne (by first | assumption | exact Ne.symm (by assumption)) ?_)) rfl rfl (Nat.le_of_ble_eq_true rfl) rfl ?_
  refine ev_aload_0 i_rd_init_61 ?_
  refine ev_iconst (v := 0) i_rd_init_62 (by decide) ?_
  refine ev_put i_rd_init_63 pl_rd_init_38 (by repeat (first | assumption | exact va_up_self _ _ _ | refine hu_ne (by first | assumption | exact Ne.symm (by assumption)) ?_)) rfl rfl (Nat.le_of_ble_eq_true rfl) rfl ?_
  refine ev_aload_0 i_rd_init_66 ?_
  refine ev_iconst (v := 0) i_rd_init_67 (by decide) ?_
  refine ev_put i_rd_init_68 pl_rd_init_41 (by repeat (first | assumption | exact va_up_self _ _ _ | refine hu_ne (by first | assumption | exact Ne.symm (by assumption)) ?_)) rfl rfl (Nat.le_of_ble_eq_true rfl) rfl ?_
  refine ev_aload_0 i_rd_init_71 ?_
  refine ev_iconst (v := 0) i_rd_init_72 (by decide) ?_
  refine ev_put i_rd_init_73 pl_rd_init_44 (by repeat (first | assumption | exact va_up_self _ _ _ | refine hu_ne (by first | assumption | exact Ne.symm (by assumption)) ?_)) rfl rfl (Nat.le_of_ble_eq_true rfl) rfl ?_
  refine ev_aload_0 i_rd_init_76 ?_
  refine ev_iconst (v := 0) i_rd_init_77 (by decide) ?_
  refine ev_put i_rd_init_78 pl_rd_init_47 (by repeat (first | assumption | exact va_up_self _ _ _ | refine hu_ne (by first | assumption | exact Ne.symm (by assumption)) ?_)) rfl rfl (Nat.le_of_ble_eq_true rfl) rfl ?_
  refine ev_iconst (v := 0) i_rd_init_81 (by decide) ?_
  refine ev_istore_1 i_rd_init_82 rfl ?_
  rw [hu_uu, hu_uu, hu_uu, hu_uu, hu_uu]
  have m12 := mk_put (cell' := rd_c tx ea aa q0 q1 0 0 0 0 0) m11
  show Ev G M_rd_init 2 44 1386 _ _ _ _ (va_up (va_up (va_up (va_up g9 q1 (some (.inr (0, [.int 0, .null, .int 0])))) b1 (some (fo_b G 400 (fun _ => 0)))) q1 (some (fo_c b1 400 0))) a (some (rd_c tx ea aa q0 q1 0 0 0 0 0)))
  generalize va_up (va_up (va_up (va_up g9 q1 (some (.inr (0, [.int 0, .null, .int 0])))) b1 (some (fo_b G 400 (fun _ => 0)))) q1 (some (fo_c b1 400 0))) a (some (rd_c tx ea aa q0 q1 0 0 0 0 0)) = g12 at m12 ⊢
  have hR : rdp G h g12 a tx ea aa (fun t => if t = 0 then q0 else q1) (fun t => if t = 0 then b0 else b1) (uS 0) 0 0 := by
    obtain ⟨k0, k1, k2, k3⟩ := m12
    simp only [List.map_cons, List.map_nil, List.nodup_cons, List.mem_cons, not_or, List.not_mem_nil, not_false_eq_true, and_true] at k2
    refine ⟨k0, (k1 (tx, _) (by simp)).1, ⟨fun _ => none, (k1 (ea, aF G 11 (fun _ => none)) (by simp)).1, fun i hi => absurd hi (Nat.not_lt_zero i)⟩, ⟨fun _ => none, (k1 (aa, aF G 11 (fun _ => none)) (by simp)).1, fun i hi => absurd hi (Nat.not_lt_zero i)⟩, fun t ht => ?_, fun t u ht hu z => ?_, fun t u ht hu z => ?_, fun t ht => ?_, ⟨(k1 (tx, aC G 60 (fun _ => 0)) (by simp)).2.2, (k1 (ea, aF G 11 (fun _ => none)) (by simp)).2.2, (k1 (aa, aF G 11 (fun _ => none)) (by simp)).2.2, ?_⟩, k3, ⟨_, ha⟩⟩
    · rcases (show t = 0 ∨ t = 1 by unfold uS at ht; omega) with rfl | rfl
      · exact ⟨0, fun _ => 0, (k1 (q0, fo_c b0 1 0) (by simp)).1, (k1 (b0, fo_b G 1 (fun _ => 0)) (by simp)).1, Nat.zero_le _, rfl⟩
      · exact ⟨0, fun _ => 0, (k1 (q1, fo_c b1 400 0) (by simp)).1, (k1 (b1, fo_b G 400 (fun _ => 0)) (by simp)).1, Nat.zero_le _, rfl⟩
    · rcases (show t = 0 ∨ t = 1 by unfold uS at ht; omega) with rfl | rfl <;> rcases (show u = 0 ∨ u = 1 by unfold uS at hu; omega) with rfl | rfl
      · rfl
      · simp at z; omega
      · simp at z; omega
      · rfl
    · rcases (show t = 0 ∨ t = 1 by unfold uS at ht; omega) with rfl | rfl <;> rcases (show u = 0 ∨ u = 1 by unfold uS at hu; omega) with rfl | rfl
      · rfl
      · simp at z; omega
      · simp at z; omega
      · rfl
    · rcases (show t = 0 ∨ t = 1 by unfold uS at ht; omega) with rfl | rfl
      · exact ⟨(k1 (q0, fo_c b0 1 0) (by simp)).2.2, (k1 (b0, fo_b G 1 (fun _ => 0)) (by simp)).2.2⟩
      · exact ⟨(k1 (q1, fo_c b1 400 0) (by simp)).2.2, (k1 (b1, fo_b G 400 (fun _ => 0)) (by simp)).2.2⟩
    · omega
  clear m0 m1 m2 m3 m4 m5 m6 m7 m8 m9 m10 m11 m12
  have loop : ∀ (m i : Nat) (fa fb : Nat → Nat) (hh : ev_H), i + m = 11 → rdp G h hh a tx ea aa fa fb (uS i) i i → Ev G M_rd_init 2 (4 * m) (126 * m) (ev_qv fun h' => ∃ (tx ea aa : Nat) (fa fb : Nat → Nat), rdp G h h' a tx ea aa fa fb (fun t => t < 24) 11 11) 83 [some (.ref a), some (.int (nI i))] [] hh := by
    intro m
    induction m with
    | zero =>
      intro i fa fb hh hi H
      obtain rfl : i = 11 := by omega
      refine ev_iload_1 i_rd_init_83 ?_
      refine ev_bipush (v := 10) i_rd_init_84 (by decide) ?_
      refine ev_icmp_gt i_rd_init_86 (fun c_86 => ?_) (fun c_86 => ?_)
      rotate_left
      · exact absurd (by decide) c_86
      refine ev_return i_rd_init_125 rfl ?_
      exact ⟨rfl, tx, ea, aa, fa, fb, rdp_U H (fun t ht => by unfold uS; omega)⟩
    | succ m ih =>
      intro i fa fb hh hi H
      obtain ⟨k0, -, ⟨f2, k2, e2⟩, -⟩ := id H
      refine ev_iload_1 i_rd_init_83 ?_
      refine ev_bipush (v := 10) i_rd_init_84 (by decide) ?_
      refine ev_icmp_gt i_rd_init_86 (fun c_86 => ?_) (fun c_86 => ?_)
      · exact absurd c_86 (show ¬ nI 10 < nI i from nI_nlt (by omega) (by omega))
      refine ev_aload_0 i_rd_init_89 ?_
      refine ev_get i_rd_init_90 fl_rd_17 (by repeat (first | assumption | exact va_up_self _ _ _ | refine hu_ne (by first | assumption | exact Ne.symm (by assumption)) ?_)) rfl ?_
      refine ev_iload_1 i_rd_init_93 ?_
      refine ev_new (fs := [.int 0, .null, .int 0]) (kc' := 4 * m + 3) (ks' := 126 * m + 123) i_rd_init_94 k_fo cl_rd_15 ns_fo in_fo (fun j hj => by rcases (show j = 0 ∨ j = 1 ∨ j = 2 by omega) with rfl | rfl | rfl <;> rfl) (by omega) (by omega) (fun q hq => ?_)
      refine ev_dup i_rd_init_97 rfl ?_
      refine ev_bipush (v := 20) i_rd_init_98 (by decide) ?_
      refine ev_sv1 (kc' := 4 * m + 2) (ks' := 126 * m + 63) i_rd_init_100 lk_rd_24 cb_fo_init iv_fo_init (r_fo_init (r := 20) (va_up_self _ _ _) (by omega) (by omega)) (by decide) (Nat.le_of_ble_eq_true rfl) (by omega) (by omega) (fun h1 hx => ?_)
      obtain ⟨b, hbq, hb, rfl⟩ := hx
      obtain ⟨hb, -⟩ := kpN0 hb (by simp)
      rw [hu_comm (Ne.symm hbq), hu_uu]
      have H1 := rdp_form (t := 2 + i) H hq hb hbq (by unfold uS; omega) (by unfold uS; omega) (by unfold uS; omega) (fun j hj => by unfold uS; omega) (fun j hj => by unfold uS; omega)
      rw [rm_2 (by omega)] at H1
      obtain ⟨k0', -, ⟨f2', k2', e2'⟩, -, k4', -⟩ := id H1
      obtain ⟨n', B', g1', -⟩ := k4' (2 + i) (Or.inr rfl)
      rw [va_up_self] at g1'
      refine ev_aastore i_rd_init_103 ty_form k2' g1' (rfl : ev_CL[_]? = some (RC_fo, _, _)) (j := i) rfl (by omega) (by omega) ?_
      have H2 := rdp_ea H1 k2'
      rw [va_up_self] at H2
      generalize va_up (va_up (va_up hh b (some (fo_b G 20 (fun _ => 0)))) q (some (fo_c b 20 0))) ea (some (aF G 11 (va_up f2' i (some q)))) = hh2 at H2 ⊢
      clear H1 k0' k2' g1' k4'
      obtain ⟨k0, -, -, ⟨f3, k3, e3⟩, -⟩ := id H2
      refine ev_aload_0 i_rd_init_104 ?_
      refine ev_get i_rd_init_105 fl_rd_21 (by repeat (first | assumption | exact va_up_self _ _ _ | refine hu_ne (by first | assumption | exact Ne.symm (by assumption)) ?_)) rfl ?_
      refine ev_iload_1 i_rd_init_108 ?_
      refine ev_new (fs := [.int 0, .null, .int 0]) (kc' := 4 * m + 1) (ks' := 126 * m + 60) i_rd_init_109 k_fo cl_rd_15 ns_fo in_fo (fun j hj => by rcases (show j = 0 ∨ j = 1 ∨ j = 2 by omega) with rfl | rfl | rfl <;> rfl) (by omega) (by omega) (fun q' hq' => ?_)
      refine ev_dup i_rd_init_112 rfl ?_
      refine ev_bipush (v := 20) i_rd_init_113 (by decide) ?_
      refine ev_sv1 (kc' := 4 * m) (ks' := 126 * m) i_rd_init_115 lk_rd_24 cb_fo_init iv_fo_init (r_fo_init (r := 20) (va_up_self _ _ _) (by omega) (by omega)) (by decide) (Nat.le_of_ble_eq_true rfl) (by omega) (by omega) (fun h1 hx => ?_)
      obtain ⟨b', hbq', hb', rfl⟩ := hx
      obtain ⟨hb', -⟩ := kpN0 hb' (by simp)
      rw [hu_comm (Ne.symm hbq'), hu_uu]
      have H3 := rdp_form (t := 13 + i) H2 hq' hb' hbq' (by unfold uS; omega) (by unfold uS; omega) (by unfold uS; omega) (fun j hj => by unfold uS; omega) (fun j hj => by unfold uS; omega)
      rw [rm_2 (by omega)] at H3
      obtain ⟨k0', -, -, ⟨f3', k3', e3'⟩, k4', -⟩ := id H3
      obtain ⟨n', B', g1', -⟩ := k4' (13 + i) (Or.inr rfl)
      rw [va_up_self] at g1'
      refine ev_aastore i_rd_init_118 ty_form k3' g1' (rfl : ev_CL[_]? = some (RC_fo, _, _)) (j := i) rfl (by omega) (by omega) ?_
      have H4 := rdp_aa H3 k3'
      rw [va_up_self] at H4
      refine ev_iinc_1 i_rd_init_119 (nI_1 i) rfl ?_
      refine ev_goto i_rd_init_122 ?_
      exact ih (i + 1) _ _ _ (by omega) (rdp_U H4 (fun t ht => by unfold uS at ht ⊢; omega))
  exact loop 11 0 _ _ g12 (by omega) hR
end RDI
