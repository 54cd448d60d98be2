section INI
variable {G : ev_G} {h : ev_H}
def kx (x : Nat) (h h' : ev_H) : Prop := ∀ q e, h q = some e → q ≠ x → h' q = some e
theorem kx_tr {x : Nat} {h1 h2 h3 : ev_H} (p : kx x h1 h2) (q : kx x h2 h3) : kx x h1 h3 := fun r e hr hx => q r e (p r e hr hx) hx
theorem kx_new {x q : Nat} {e : va_E} (hq : h q = none) : kx x h (va_up h q (some e)) := fun r e' hr _ => kpN hr hq
theorem kx_put {x : Nat} {e : va_E} : kx x h (va_up h x (some e)) := fun r e' hr hx => hu_ne hx hr
theorem kx_ne {p r : Nat} {e : va_E} (hp : h p = some e) (hr : h r = none) : p ≠ r := fun z => by subst z; rw [hp] at hr; cases hr
theorem rd_kx {h' : ev_H} {x a tx ea aa len opn nm : Nat} {fa fb : Nat → Nat} {st tm : Int32} {TX : Nat → Int32} {X : Nat → List T3} {cell : List Value} (H : rd_at G h a tx ea aa fa fb len opn st nm tm TX X) (hx : h x = some (.inr (5, cell))) (k : kx x h h') : rd_at G h' a tx ea aa fa fb len opn st nm tm TX X := by
  obtain ⟨h0, h1, ⟨f2, h2, e2⟩, ⟨f3, h3, e3⟩, h4, h5, h6⟩ := H
  refine ⟨k _ _ h0 (hne_of h0 hx (fun z => by cases z)), k _ _ h1 (hne_of h1 hx (fun z => by cases z)), ⟨f2, k _ _ h2 (hne_of h2 hx (fun z => by cases z)), e2⟩, ⟨f3, k _ _ h3 (hne_of h3 hx (fun z => by cases z)), e3⟩, fun t ht => ?_, h5, h6⟩
  obtain ⟨n, B, g1, g2, g3, g4⟩ := h4 t ht
  exact ⟨n, B, k _ _ g1 (hne_of g1 hx (fun z => by cases z)), k _ _ g2 (hne_of g2 hx (fun z => by cases z)), g3, g4⟩
def gU (ru w t l y : Nat) : Prop := y = ru ∨ y = w ∨ y = t ∨ y = l
def gR (rd tx ea aa : Nat) (fa fb : Nat → Nat) (y : Nat) : Prop := y = rd ∨ y = tx ∨ y = ea ∨ y = aa ∨ ∃ k, k < 24 ∧ (y = fa k ∨ y = fb k)
def gV (rv q1 q2 q3 q4 q5 y : Nat) : Prop := y = rv ∨ y = q1 ∨ y = q2 ∨ y = q3 ∨ y = q4 ∨ y = q5
noncomputable def tagf (x ru w t l rd tx ea aa : Nat) (fa fb : Nat → Nat) (pp rv q1 q2 q3 q4 q5 y : Nat) : Nat :=
  @ite _ (y = x) (Classical.propDecidable _) 0 (@ite _ (gU ru w t l y) (Classical.propDecidable _) 1 (@ite _ (gR rd tx ea aa fa fb y) (Classical.propDecidable _) 2 (@ite _ (y = pp) (Classical.propDecidable _) 4 (@ite _ (gV rv q1 q2 q3 q4 q5 y) (Classical.propDecidable _) 3 99))))
theorem r_lr_init {x : Nat} (hx : h x = some (.inr (5, [.null, .null, .null, .null, .int 0, .int 0]))) :
    Rn G M_lr_init 3 63 3020 [.ref x] h (ev_qv fun h' => kx x h h' ∧ ∃ (τ : Nat → Nat) (ru w t l rd tx ea aa pp rv q1 q2 q3 q4 q5 : Nat) (fa fb : Nat → Nat), CI G h' τ x ru w t l rd tx ea aa pp rv q1 q2 q3 q4 q5 fa fb 0 (fun _ => 0) (fun _ => 0) (fun _ => 0) 0 (0, 0, 0, 0, fun _ => []) (fun _ => 0) (fun _ => 0) 0 (fun _ => none) (fun _ => pk0 (0, 0, 0, 0, 0)) (0, fun _ => 0, fun _ => 0, fun _ => 0) (fun _ => 0) (fun _ => 0) 0 ∧ (∀ q, τ q ≠ 99 → ∃ e, h' q = some e)) := by
  refine Rn_of (ls := [some (.ref x)]) rfl rfl (Nat.le_of_ble_eq_true rfl) rfl ?_
  refine ev_aload_0 i_lr_init_0 ?_
  refine ev_obj i_lr_init_1 ob_lr_3 ob_2 ob_3 (by decide) (Nat.le_of_ble_eq_true rfl) ?_
  refine ev_aload_0 i_lr_init_4 ?_
  refine ev_new (fs := [.null, .null, .null, .int 0]) (kc' := 62) (ks' := 3016) i_lr_init_5 k_ru cl_lr_9 ns_ru in_ru (fun j hj => by rcases (show j = 0 ∨ j = 1 ∨ j = 2 ∨ j = 3 by omega) with rfl | rfl | rfl | rfl <;> rfl) rfl rfl (fun ru hru => ?_)
  have nru : x ≠ ru := kx_ne hx hru
  refine ev_dup i_lr_init_8 rfl ?_
  refine ev_sv0 (kc' := 59) (ks' := 2949) i_lr_init_9 lk_lr_11 cb_ru_init iv_ru_init (r_ru_init (va_up_self _ _ _)) (by decide) (Nat.le_of_ble_eq_true rfl) rfl rfl (fun h1 hq => ?_)
  obtain ⟨w, t, l, ⟨nwr, ntr, nlr, ntw, nlw, nlt⟩, fw, ft, fl, rfl⟩ := hq
  rw [va_up_ne _ _ nwr] at fw
  rw [va_up_ne _ _ ntr] at ft
  rw [va_up_ne _ _ nlr] at fl
  have k1 : kx x h (va_up (va_up (va_up (va_up (va_up h ru (some (.inr (4, [.null, .null, .null, .int 0])))) w (some (aL G 16 (fun _ => 0)))) t (some (aI G 48 (fun _ => 0)))) l (some (aI G 3 (fun _ => 0)))) ru (some (ru_c w t l 0))) := fun r e hr _ => hu_ne (kx_ne hr hru) (hu_ne (kx_ne hr fl) (hu_ne (kx_ne hr ft) (hu_ne (kx_ne hr fw) (hu_ne (kx_ne hr hru) hr))))
  have x1 : va_up (va_up (va_up (va_up (va_up h ru (some (.inr (4, [.null, .null, .null, .int 0])))) w (some (aL G 16 (fun _ => 0)))) t (some (aI G 48 (fun _ => 0)))) l (some (aI G 3 (fun _ => 0)))) ru (some (ru_c w t l 0)) x = some (.inr (5, [.null, .null, .null, .null, .int 0, .int 0])) := hu_ne nru (hu_ne (kx_ne hx fl) (hu_ne (kx_ne hx ft) (hu_ne (kx_ne hx fw) (hu_ne nru hx))))
  have U1 : ru_at G (va_up (va_up (va_up (va_up (va_up h ru (some (.inr (4, [.null, .null, .null, .int 0])))) w (some (aL G 16 (fun _ => 0)))) t (some (aI G 48 (fun _ => 0)))) l (some (aI G 3 (fun _ => 0)))) ru (some (ru_c w t l 0))) ru w t l 0 (fun _ => 0) (fun _ => 0) (fun _ => 0) := ⟨va_up_self _ _ _, hu_ne nwr (hu_ne (Ne.symm nlw) (hu_ne (Ne.symm ntw) (va_up_self _ _ _))), hu_ne ntr (hu_ne (Ne.symm nlt) (va_up_self _ _ _)), hu_ne nlr (va_up_self _ _ _), Nat.zero_le _⟩
  generalize va_up (va_up (va_up (va_up (va_up h ru (some (.inr (4, [.null, .null, .null, .int 0])))) w (some (aL G 16 (fun _ => 0)))) t (some (aI G 48 (fun _ => 0)))) l (some (aI G 3 (fun _ => 0)))) ru (some (ru_c w t l 0)) = g1 at k1 x1 U1 ⊢
  have nx1 : ru ≠ x ∧ w ≠ x ∧ t ≠ x ∧ l ≠ x := ⟨Ne.symm nru, Ne.symm (kx_ne hx fw), Ne.symm (kx_ne hx ft), Ne.symm (kx_ne hx fl)⟩
  have Ukx : ∀ {g g' : ev_H}, ru_at G g ru w t l 0 (fun _ => 0) (fun _ => 0) (fun _ => 0) → kx x g g' → ru_at G g' ru w t l 0 (fun _ => 0) (fun _ => 0) (fun _ => 0) := fun U k => ⟨k _ _ U.1 nx1.1, k _ _ U.2.1 nx1.2.1, k _ _ U.2.2.1 nx1.2.2.1, k _ _ U.2.2.2.1 nx1.2.2.2, U.2.2.2.2⟩
  refine ev_put i_lr_init_12 pl_lr_init_12 x1 rfl rfl (Nat.le_of_ble_eq_true rfl) rfl ?_
  have k2 : kx x h (va_up g1 x (some (.inr (5, [.ref ru, .null, .null, .null, .int 0, .int 0])))) := kx_tr k1 kx_put
  have U2 := Ukx U1 (kx_put (x := x) (e := .inr (5, [.ref ru, .null, .null, .null, .int 0, .int 0])))
  have x2 : va_up g1 x (some (.inr (5, [.ref ru, .null, .null, .null, .int 0, .int 0]))) x = some (.inr (5, [.ref ru, .null, .null, .null, .int 0, .int 0])) := va_up_self _ _ _
  show Ev G M_lr_init 3 59 2949 _ _ _ _ (va_up g1 x (some (.inr (5, [.ref ru, .null, .null, .null, .int 0, .int 0]))))
  generalize va_up g1 x (some (.inr (5, [.ref ru, .null, .null, .null, .int 0, .int 0]))) = g2 at k2 U2 x2 ⊢
  refine ev_aload_0 i_lr_init_15 ?_
  refine ev_new (fs := [.null, .null, .null, .null, .null, .int 0, .int 0, .int 0, .int 0, .int 0]) (kc' := 58) (ks' := 2939) i_lr_init_16 k_rd cl_lr_16 ns_rd in_rd (fun j hj => by rcases (show j = 0 ∨ j = 1 ∨ j = 2 ∨ j = 3 ∨ j = 4 ∨ j = 5 ∨ j = 6 ∨ j = 7 ∨ j = 8 ∨ j = 9 by omega) with rfl | rfl | rfl | rfl | rfl | rfl | rfl | rfl | rfl | rfl <;> rfl) rfl rfl (fun rd hrd => ?_)
  refine ev_dup i_lr_init_19 rfl ?_
  refine ev_sv0 (kc' := 7) (ks' := 262) i_lr_init_20 lk_lr_18 cb_rd_init iv_rd_init (r_rd_init (va_up_self _ _ _)) (by decide) (Nat.le_of_ble_eq_true rfl) rfl rfl (fun g3 hq => ?_)
  obtain ⟨tx, ea, aa, fa, fb, R⟩ := hq
  obtain ⟨m0, m1, m2, m3, m4, m5, m6, m7, m8, m9, -⟩ := R
  have R3 : rd_at G g3 rd tx ea aa fa fb 0 0 0 0 0 (fun _ => 0) (fun _ => []) := ⟨m0, m1, m2, m3, m4, m5, m6⟩
  have fR : ∀ y, gR rd tx ea aa fa fb y → g2 y = none := by
    intro y hy
    rcases hy with rfl | rfl | rfl | rfl | ⟨k, hk, rfl | rfl⟩
    · exact hrd
    · exact (kpN0 m8.1 (by simp)).1
    · exact (kpN0 m8.2.1 (by simp)).1
    · exact (kpN0 m8.2.2.1 (by simp)).1
    · exact (kpN0 (m7 k hk).1 (by simp)).1
    · exact (kpN0 (m7 k hk).2 (by simp)).1
  have k3' : ∀ r e, g2 r = some e → g3 r = some e := fun r e hr => m9 r e (kpN hr hrd) (kx_ne hr hrd)
  have k3 : kx x g2 g3 := fun r e hr _ => k3' r e hr
  have x3 := k3' _ _ x2
  have U3 := Ukx U2 k3
  have k3h := kx_tr k2 k3
  have nU2 := U2
  clear m0 m1 m2 m3 m4 m5 m6 m7 m8 m9
  refine ev_put i_lr_init_23 pl_lr_init_19 x3 rfl rfl (Nat.le_of_ble_eq_true rfl) rfl ?_
  have k4 := kx_put (h := g3) (x := x) (e := .inr (5, [.ref ru, .ref rd, .null, .null, .int 0, .int 0]))
  have U4 := Ukx U3 k4
  have R4 := rd_kx R3 x3 k4
  have k4h := kx_tr k3h k4
  have x4 : va_up g3 x (some (.inr (5, [.ref ru, .ref rd, .null, .null, .int 0, .int 0]))) x = some (.inr (5, [.ref ru, .ref rd, .null, .null, .int 0, .int 0])) := va_up_self _ _ _
  show Ev G M_lr_init 3 7 262 _ _ _ _ (va_up g3 x (some (.inr (5, [.ref ru, .ref rd, .null, .null, .int 0, .int 0]))))
  generalize va_up g3 x (some (.inr (5, [.ref ru, .ref rd, .null, .null, .int 0, .int 0]))) = g4 at k4 U4 R4 k4h x4 ⊢
  refine ev_aload_0 i_lr_init_26 ?_
  refine ev_bipush (v := 16) i_lr_init_27 (by decide) ?_
  refine ev_newq (N := 16) (kc' := 6) (ks' := 246) i_lr_init_29 ty_pack cl_lr_23 (by decide +kernel) rfl (by omega) rfl rfl (fun pp hpp => ?_)
  have k5 := kx_new (h := g4) (x := x) (e := aQ G 16 (fun _ => none)) hpp
  have x5 := kpN (x := some (aQ G 16 (fun _ => none))) x4 hpp
  have U5 := Ukx U4 k5
  have R5 := rd_kx R4 x4 k5
  have k5h := kx_tr k4h k5
  have p5 : va_up g4 pp (some (aQ G 16 (fun _ => none))) pp = some (aQ G 16 (fun _ => none)) := va_up_self _ _ _
  refine ev_put i_lr_init_32 pl_lr_init_25 x5 rfl rfl (Nat.le_of_ble_eq_true rfl) rfl ?_
  have k6 := kx_put (h := va_up g4 pp (some (aQ G 16 (fun _ => none)))) (x := x) (e := .inr (5, [.ref ru, .ref rd, .ref pp, .null, .int 0, .int 0]))
  have npx : pp ≠ x := Ne.symm (kx_ne x4 hpp)
  have U6 := Ukx U5 k6
  have R6 := rd_kx R5 x5 k6
  have k6h := kx_tr k5h k6
  have p6 := k6 _ _ p5 npx
  have x6 : va_up (va_up g4 pp (some (aQ G 16 (fun _ => none)))) x (some (.inr (5, [.ref ru, .ref rd, .ref pp, .null, .int 0, .int 0]))) x = some (.inr (5, [.ref ru, .ref rd, .ref pp, .null, .int 0, .int 0])) := va_up_self _ _ _
  show Ev G M_lr_init 3 6 246 _ _ _ _ (va_up (va_up g4 pp (some (aQ G 16 (fun _ => none)))) x (some (.inr (5, [.ref ru, .ref rd, .ref pp, .null, .int 0, .int 0]))))
  generalize va_up (va_up g4 pp (some (aQ G 16 (fun _ => none)))) x (some (.inr (5, [.ref ru, .ref rd, .ref pp, .null, .int 0, .int 0]))) = g6 at k6 U6 R6 k6h p6 x6 ⊢
  refine ev_aload_0 i_lr_init_35 ?_
  refine ev_new (fs := [.null, .null, .null, .null, .null, .int 0]) (kc' := 5) (ks' := 240) i_lr_init_36 k_rv cl_lr_29 ns_rv in_rv (fun j hj => by rcases (show j = 0 ∨ j = 1 ∨ j = 2 ∨ j = 3 ∨ j = 4 ∨ j = 5 by omega) with rfl | rfl | rfl | rfl | rfl | rfl <;> rfl) rfl rfl (fun rv hrv => ?_)
  refine ev_dup i_lr_init_39 rfl ?_
  refine ev_sv0 (kc' := 0) (ks' := 0) i_lr_init_40 lk_lr_31 cb_rv_init iv_rv_init (r_rv_init (va_up_self _ _ _)) (by decide) (Nat.le_of_ble_eq_true rfl) rfl rfl (fun g7 hq => ?_)
  obtain ⟨q1, q2, q3, q4, q5, hd, ⟨n1, n2, n3, n4, n5⟩, f1, f2, f3, f4, f5, rfl⟩ := hq
  rw [va_up_ne _ _ n1] at f1
  rw [va_up_ne _ _ n2] at f2
  rw [va_up_ne _ _ n3] at f3
  rw [va_up_ne _ _ n4] at f4
  rw [va_up_ne _ _ n5] at f5
  obtain ⟨d12, d13, d14, d15, d23, d24, d25, d34, d35, d45⟩ := id hd
  have fV : ∀ y, gV rv q1 q2 q3 q4 q5 y → g6 y = none := by
    intro y hy
    rcases hy with rfl | rfl | rfl | rfl | rfl | rfl <;> assumption
  have k7' : ∀ r e, g6 r = some e → va_up (va_up (va_up (va_up (va_up (va_up (va_up g6 rv (some (.inr (3, [.null, .null, .null, .null, .null, .int 0])))) q1 (some (aI G 48 (fun _ => 0)))) q2 (some (aI G 48 (fun _ => 0)))) q3 (some (aI G 48 (fun _ => 0)))) q4 (some (aI G 48 (fun _ => 0)))) q5 (some (aI G 48 (fun _ => 0)))) rv (some (rv_c q1 q2 q3 q4 q5 0)) r = some e := fun r e hr => hu_ne (kx_ne hr hrv) (hu_ne (kx_ne hr f5) (hu_ne (kx_ne hr f4) (hu_ne (kx_ne hr f3) (hu_ne (kx_ne hr f2) (hu_ne (kx_ne hr f1) (hu_ne (kx_ne hr hrv) hr))))))
  have V7 : va_up (va_up (va_up (va_up (va_up (va_up (va_up g6 rv (some (.inr (3, [.null, .null, .null, .null, .null, .int 0])))) q1 (some (aI G 48 (fun _ => 0)))) q2 (some (aI G 48 (fun _ => 0)))) q3 (some (aI G 48 (fun _ => 0)))) q4 (some (aI G 48 (fun _ => 0)))) q5 (some (aI G 48 (fun _ => 0)))) rv (some (rv_c q1 q2 q3 q4 q5 0)) rv = some (rv_c q1 q2 q3 q4 q5 0) ∧ ∀ y, y = q1 ∨ y = q2 ∨ y = q3 ∨ y = q4 ∨ y = q5 → va_up (va_up (va_up (va_up (va_up (va_up (va_up g6 rv (some (.inr (3, [.null, .null, .null, .null, .null, .int 0])))) q1 (some (aI G 48 (fun _ => 0)))) q2 (some (aI G 48 (fun _ => 0)))) q3 (some (aI G 48 (fun _ => 0)))) q4 (some (aI G 48 (fun _ => 0)))) q5 (some (aI G 48 (fun _ => 0)))) rv (some (rv_c q1 q2 q3 q4 q5 0)) y = some (aI G 48 (fun _ => 0)) := by
    refine ⟨va_up_self _ _ _, fun y hy => ?_⟩
    rcases hy with rfl | rfl | rfl | rfl | rfl
    · exact hu_ne n1 (hu_ne d15 (hu_ne d14 (hu_ne d13 (hu_ne d12 (va_up_self _ _ _)))))
    · exact hu_ne n2 (hu_ne d25 (hu_ne d24 (hu_ne d23 (va_up_self _ _ _))))
    · exact hu_ne n3 (hu_ne d35 (hu_ne d34 (va_up_self _ _ _)))
    · exact hu_ne n4 (hu_ne d45 (va_up_self _ _ _))
    · exact hu_ne n5 (va_up_self _ _ _)
  generalize va_up (va_up (va_up (va_up (va_up (va_up (va_up g6 rv (some (.inr (3, [.null, .null, .null, .null, .null, .int 0])))) q1 (some (aI G 48 (fun _ => 0)))) q2 (some (aI G 48 (fun _ => 0)))) q3 (some (aI G 48 (fun _ => 0)))) q4 (some (aI G 48 (fun _ => 0)))) q5 (some (aI G 48 (fun _ => 0)))) rv (some (rv_c q1 q2 q3 q4 q5 0)) = g7 at k7' V7 ⊢
  have k7 : kx x g6 g7 := fun r e hr _ => k7' r e hr
  have x7 := k7' _ _ x6
  refine ev_put i_lr_init_43 pl_lr_init_32 x7 rfl rfl (Nat.le_of_ble_eq_true rfl) rfl ?_
  refine ev_aload_0 i_lr_init_46 ?_
  refine ev_iconst (v := 0) i_lr_init_47 (by decide) ?_
  refine ev_put i_lr_init_48 pl_lr_init_36 (by repeat (first | assumption | exact va_up_self _ _ _ | refine hu_ne (by first | assumption | exact Ne.symm (by assumption)) ?_)) rfl rfl (Nat.le_of_ble_eq_true rfl) rfl ?_
  refine ev_aload_0 i_lr_init_51 ?_
  refine ev_iconst (v := 0) i_lr_init_52 (by decide) ?_
  refine ev_put i_lr_init_53 pl_lr_init_40 (by repeat (first | assumption | exact va_up_self _ _ _ | refine hu_ne (by first | assumption | exact Ne.symm (by assumption)) ?_)) rfl rfl (Nat.le_of_ble_eq_true rfl) rfl ?_
  refine ev_return i_lr_init_56 rfl ?_
  rw [hu_uu, hu_uu]
  have k8 := kx_put (h := g7) (x := x) (e := lr_c ru rd pp rv 0 0)
  have k78 := kx_tr k7 k8
  have U8 := Ukx U6 k78
  have R8 := rd_kx R6 x6 k78
  have p8 := k78 _ _ p6 npx
  have nVx : ∀ y, gV rv q1 q2 q3 q4 q5 y → y ≠ x := fun y hy => Ne.symm (kx_ne x6 (fV y hy))
  have nRx : ∀ y, gR rd tx ea aa fa fb y → y ≠ x := fun y hy => Ne.symm (kx_ne x2 (fR y hy))
  have nUx : ∀ y, gU ru w t l y → y ≠ x := by
    intro y hy
    rcases hy with rfl | rfl | rfl | rfl
    · exact nx1.1
    · exact nx1.2.1
    · exact nx1.2.2.1
    · exact nx1.2.2.2
  have sU : ∀ y, gU ru w t l y → ∃ e, g2 y = some e := by
    intro y hy
    rcases hy with rfl | rfl | rfl | rfl
    · exact ⟨_, nU2.1⟩
    · exact ⟨_, nU2.2.1⟩
    · exact ⟨_, nU2.2.2.1⟩
    · exact ⟨_, nU2.2.2.2.1⟩
  have sR : ∀ {g : ev_H}, rd_at G g rd tx ea aa fa fb 0 0 0 0 0 (fun _ => 0) (fun _ => []) → ∀ y, gR rd tx ea aa fa fb y → ∃ e, g y = some e := by
    intro g R y hy
    obtain ⟨h0, h1, ⟨f2, h2, e2⟩, ⟨f3, h3, e3⟩, h4, h5, h6⟩ := R
    rcases hy with rfl | rfl | rfl | rfl | ⟨k, hk, rfl | rfl⟩
    · exact ⟨_, h0⟩
    · exact ⟨_, h1⟩
    · exact ⟨_, h2⟩
    · exact ⟨_, h3⟩
    · obtain ⟨n, B, g1, g2, -⟩ := h4 k hk
      exact ⟨_, g1⟩
    · obtain ⟨n, B, g1, g2, -⟩ := h4 k hk
      exact ⟨_, g2⟩
  have t0 : ∀ y, y = x → tagf x ru w t l rd tx ea aa fa fb pp rv q1 q2 q3 q4 q5 y = 0 := fun y hy => by unfold tagf; rw [if_pos hy]
  have t1 : ∀ y, gU ru w t l y → tagf x ru w t l rd tx ea aa fa fb pp rv q1 q2 q3 q4 q5 y = 1 := fun y hy => by unfold tagf; rw [if_neg (nUx y hy), if_pos hy]
  have t2 : ∀ y, gR rd tx ea aa fa fb y → tagf x ru w t l rd tx ea aa fa fb pp rv q1 q2 q3 q4 q5 y = 2 := fun y hy => by
    unfold tagf
    rw [if_neg (nRx y hy), if_neg (fun z => by obtain ⟨e, he⟩ := sU y z; rw [fR y hy] at he; cases he), if_pos hy]
  have t4 : tagf x ru w t l rd tx ea aa fa fb pp rv q1 q2 q3 q4 q5 pp = 4 := by
    unfold tagf
    rw [if_neg npx, if_neg (fun z => ?_), if_neg (fun z => ?_), if_pos rfl]
    · obtain ⟨e, he⟩ := sR R4 pp z
      rw [hpp] at he
      cases he
    · have : ∃ e, g4 pp = some e := by
        rcases z with z | z | z | z
        · exact ⟨_, by rw [z]; exact U4.1⟩
        · exact ⟨_, by rw [z]; exact U4.2.1⟩
        · exact ⟨_, by rw [z]; exact U4.2.2.1⟩
        · exact ⟨_, by rw [z]; exact U4.2.2.2.1⟩
      obtain ⟨e, he⟩ := this
      rw [hpp] at he
      cases he
  have t3 : ∀ y, gV rv q1 q2 q3 q4 q5 y → tagf x ru w t l rd tx ea aa fa fb pp rv q1 q2 q3 q4 q5 y = 3 := fun y hy => by
    have fy := fV y hy
    unfold tagf
    rw [if_neg (nVx y hy), if_neg (fun z => ?_), if_neg (fun z => ?_), if_neg (fun z => ?_), if_pos hy]
    · rw [z, p6] at fy
      cases fy
    · obtain ⟨e, he⟩ := sR R6 y z
      rw [fy] at he
      cases he
    · have : ∃ e, g6 y = some e := by
        rcases z with z | z | z | z
        · exact ⟨_, by rw [z]; exact U6.1⟩
        · exact ⟨_, by rw [z]; exact U6.2.1⟩
        · exact ⟨_, by rw [z]; exact U6.2.2.1⟩
        · exact ⟨_, by rw [z]; exact U6.2.2.2.1⟩
      obtain ⟨e, he⟩ := this
      rw [fy] at he
      cases he
  have V8 : ∀ y, y = q1 ∨ y = q2 ∨ y = q3 ∨ y = q4 ∨ y = q5 → va_up g7 x (some (lr_c ru rd pp rv 0 0)) y = some (aI G 48 (fun _ => 0)) := fun y hy => k8 _ _ (V7.2 y hy) (nVx y (Or.inr hy))
  have v8 : va_up g7 x (some (lr_c ru rd pp rv 0 0)) rv = some (rv_c q1 q2 q3 q4 q5 0) := k8 _ _ V7.1 (nVx rv (Or.inl rfl))
  refine ⟨rfl, kx_tr k6h k78, tagf x ru w t l rd tx ea aa fa fb pp rv q1 q2 q3 q4 q5, ru, w, t, l, rd, tx, ea, aa, pp, rv, q1, q2, q3, q4, q5, fa, fb, ⟨⟨va_up_self _ _ _, by omega, by omega⟩, U8, ⟨R8, ⟨by decide, by decide, Or.inl rfl⟩, by omega, fun i hi => absurd hi (Nat.not_lt_zero i)⟩, ⟨p8, fun p hp => absurd hp (Nat.not_lt_zero p)⟩, ⟨v8, V8 q1 (Or.inl rfl), V8 q2 (Or.inr (Or.inl rfl)), V8 q3 (Or.inr (Or.inr (Or.inl rfl))), V8 q4 (Or.inr (Or.inr (Or.inr (Or.inl rfl)))), V8 q5 (Or.inr (Or.inr (Or.inr (Or.inr rfl)))), hd, ⟨show (0 : Nat) ≤ 48 by omega, fun i hi => absurd hi (Nat.not_lt_zero i)⟩⟩, ⟨t0 x rfl, ⟨t1 _ (Or.inl rfl), t1 _ (Or.inr (Or.inl rfl)), t1 _ (Or.inr (Or.inr (Or.inl rfl))), t1 _ (Or.inr (Or.inr (Or.inr rfl)))⟩, ⟨t2 _ (Or.inl rfl), t2 _ (Or.inr (Or.inl rfl)), t2 _ (Or.inr (Or.inr (Or.inl rfl))), t2 _ (Or.inr (Or.inr (Or.inr (Or.inl rfl)))), fun k hk => ⟨t2 _ (Or.inr (Or.inr (Or.inr (Or.inr ⟨k, hk, Or.inl rfl⟩)))), t2 _ (Or.inr (Or.inr (Or.inr (Or.inr ⟨k, hk, Or.inr rfl⟩))))⟩⟩, ⟨t3 _ (Or.inl rfl), t3 _ (Or.inr (Or.inl rfl)), t3 _ (Or.inr (Or.inr (Or.inl rfl))), t3 _ (Or.inr (Or.inr (Or.inr (Or.inl rfl)))), t3 _ (Or.inr (Or.inr (Or.inr (Or.inr (Or.inl rfl))))), t3 _ (Or.inr (Or.inr (Or.inr (Or.inr (Or.inr rfl)))))⟩, t4, fun p hp => absurd hp (Nat.not_lt_zero p)⟩⟩, fun q hq => ?_⟩
  by_cases e0 : q = x
  · exact ⟨_, by rw [e0]; exact va_up_self _ _ _⟩
  by_cases e1 : gU ru w t l q
  · rcases e1 with rfl | rfl | rfl | rfl
    · exact ⟨_, U8.1⟩
    · exact ⟨_, U8.2.1⟩
    · exact ⟨_, U8.2.2.1⟩
    · exact ⟨_, U8.2.2.2.1⟩
  by_cases e2 : gR rd tx ea aa fa fb q
  · exact sR R8 q e2
  by_cases e4 : q = pp
  · exact ⟨_, by rw [e4]; exact p8⟩
  by_cases e3 : gV rv q1 q2 q3 q4 q5 q
  · rcases e3 with rfl | e3
    · exact ⟨_, v8⟩
    · exact ⟨_, V8 q e3⟩
  · exact absurd (by unfold tagf; rw [if_neg e0, if_neg e1, if_neg e2, if_neg e4, if_neg e3]) hq
end INI
