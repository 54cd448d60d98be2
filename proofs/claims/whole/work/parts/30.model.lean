section MO
variable {G : ev_G}
abbrev aZ (G : ev_G) (n : Nat) (f : Nat → Int32) : va_E := .inl (G.2 3, n, .inl f)
abbrev mo_l (ad : Nat → Nat) (sc : Nat → Int32) : List Value := [.int (sc 0), .int (sc 1), .int (sc 2), .int (sc 3), .ref (ad 4), .ref (ad 5), .ref (ad 6), .ref (ad 7), .ref (ad 8), .int (sc 9), .ref (ad 10), .ref (ad 11), .ref (ad 12), .ref (ad 13), .ref (ad 14), .ref (ad 15), .ref (ad 16), .ref (ad 17), .ref (ad 18), .ref (ad 19), .ref (ad 20), .ref (ad 21), .ref (ad 22), .int (sc 23), .int (sc 24), .int (sc 25), .int (sc 26), .int (sc 27), .int (sc 28), .ref (ad 29), .ref (ad 30), .ref (ad 31), .ref (ad 32), .ref (ad 33), .int (sc 34)]
abbrev mo_c (ad : Nat → Nat) (sc : Nat → Int32) : va_E := .inr (6, mo_l ad sc)
/-- which fields are int arrays, arrays, numbers -/
def isA (k : Nat) : Bool := k == 5 || k == 6 || k == 8 || k == 10 || k == 11 || k == 12 || k == 13 || k == 14 || k == 15 || k == 16 || k == 17 || k == 18 || k == 19 || k == 20 || k == 21 || k == 22 || k == 29 || k == 30 || k == 31 || k == 32 || k == 33
def isR (k : Nat) : Bool := isA k || k == 4 || k == 7
def isS (k : Nat) : Bool := k == 0 || k == 1 || k == 2 || k == 3 || k == 9 || k == 23 || k == 24 || k == 25 || k == 26 || k == 28 || k == 34
def ln (k : Nat) : Nat := match k with
  | 5 => 48
  | 6 => 48
  | 8 => 60
  | 10 => 16
  | 11 => 480
  | 12 => 16
  | 13 => 320
  | 14 => 16
  | 15 => 96
  | 16 => 96
  | 17 => 16
  | 18 => 30
  | 19 => 800
  | 20 => 40
  | 21 => 400
  | 22 => 80
  | 29 => 48
  | 30 => 48
  | 31 => 48
  | 32 => 48
  | 33 => 48
  | _ => 0
def MI (G : ev_G) (h0 h : ev_H) (m : Nat) (ad : Nat → Nat) (sc : Nat → Int32) (A : Nat → Nat → Int32) (Wd : Nat → Int64) : Prop :=
  h m = some (mo_c ad sc) ∧ (∀ k, isA k = true → h (ad k) = some (aI G (ln k) (A k))) ∧ h (ad 4) = some (aL G 16 Wd) ∧ h (ad 7) = some (aZ G 24 (A 7)) ∧ (∀ k k', isR k = true → isR k' = true → ad k = ad k' → k = k') ∧ (∀ q, q ≠ m → (∀ k, isR k = true → q ≠ ad k) → h q = h0 q)
theorem isA_R {k : Nat} (h : isA k = true) : isR k = true := by unfold isR; rw [h]; rfl
theorem MI_m {h0 h : ev_H} {m : Nat} {ad : Nat → Nat} {sc : Nat → Int32} {A : Nat → Nat → Int32} {Wd : Nat → Int64} (H : MI G h0 h m ad sc A Wd) {k : Nat} (hk : isR k = true) : ad k ≠ m := by
  obtain ⟨a0, a1, a2, a3, -⟩ := H
  intro z
  by_cases hA : isA k = true
  · have := a1 k hA
    rw [z, a0] at this
    cases this
  · unfold isR at hk
    rw [bn_f hA] at hk
    simp at hk
    rcases hk with rfl | rfl
    · rw [z, a0] at a2; cases a2
    · rw [z, a0] at a3; cases a3
theorem MI_put {h0 h : ev_H} {m : Nat} {ad : Nat → Nat} {sc sc' : Nat → Int32} {A : Nat → Nat → Int32} {Wd : Nat → Int64} (H : MI G h0 h m ad sc A Wd) : MI G h0 (va_up h m (some (mo_c ad sc'))) m ad sc' A Wd := by
  have hm := fun {k : Nat} (hk : isR k = true) => MI_m H hk
  obtain ⟨a0, a1, a2, a3, a4, a5⟩ := H
  exact ⟨va_up_self _ _ _, fun k hk => hu_ne (hm (isA_R hk)) (a1 k hk), hu_ne (hm rfl) a2, hu_ne (hm rfl) a3, a4, fun q h1 h2 => (va_up_ne _ _ h1).trans (a5 q h1 h2)⟩
theorem MI_set {h0 h : ev_H} {m k : Nat} {ad : Nat → Nat} {sc : Nat → Int32} {A : Nat → Nat → Int32} {Wd : Nat → Int64} {f : Nat → Int32} (H : MI G h0 h m ad sc A Wd) (hk : isA k = true) : MI G h0 (va_up h (ad k) (some (aI G (ln k) f))) m ad sc (va_up A k f) Wd := by
  have hm := MI_m H (isA_R hk)
  obtain ⟨a0, a1, a2, a3, a4, a5⟩ := H
  have n4 : ad 4 ≠ ad k := fun z => by have := a4 4 k rfl (isA_R hk) z; subst this; cases hk
  have n7 : ad 7 ≠ ad k := fun z => by have := a4 7 k rfl (isA_R hk) z; subst this; cases hk
  refine ⟨hu_ne (Ne.symm hm) a0, fun j hj => ?_, hu_ne n4 a2, hu_ne n7 (by rw [va_up_ne _ _ (fun z => by subst z; cases hk)]; exact a3), a4, fun q h1 h2 => (va_up_ne _ _ (h2 k (isA_R hk))).trans (a5 q h1 h2)⟩
  by_cases e : j = k
  · subst e
    rw [va_up_self, va_up_self]
  · rw [va_up_ne _ _ e]
    exact hu_ne (fun z => e (a4 j k (isA_R hj) (isA_R hk) z)) (a1 j hj)
theorem MI_set4 {h0 h : ev_H} {m : Nat} {ad : Nat → Nat} {sc : Nat → Int32} {A : Nat → Nat → Int32} {Wd : Nat → Int64} {f : Nat → Int64} (H : MI G h0 h m ad sc A Wd) : MI G h0 (va_up h (ad 4) (some (aL G 16 f))) m ad sc A f := by
  have hm := MI_m H (k := 4) rfl
  obtain ⟨a0, a1, a2, a3, a4, a5⟩ := H
  refine ⟨hu_ne (Ne.symm hm) a0, fun j hj => hu_ne (fun z => by have := a4 j 4 (isA_R hj) rfl z; subst this; cases hj) (a1 j hj), va_up_self _ _ _, hu_ne (fun z => absurd (a4 7 4 rfl rfl z) (by decide)) a3, a4, fun q h1 h2 => (va_up_ne _ _ (h2 4 rfl)).trans (a5 q h1 h2)⟩
theorem MI_set7 {h0 h : ev_H} {m : Nat} {ad : Nat → Nat} {sc : Nat → Int32} {A : Nat → Nat → Int32} {Wd : Nat → Int64} {f : Nat → Int32} (H : MI G h0 h m ad sc A Wd) : MI G h0 (va_up h (ad 7) (some (aZ G 24 f))) m ad sc (va_up A 7 f) Wd := by
  have hm := MI_m H (k := 7) rfl
  obtain ⟨a0, a1, a2, a3, a4, a5⟩ := H
  refine ⟨hu_ne (Ne.symm hm) a0, fun j hj => ?_, hu_ne (fun z => absurd (a4 4 7 rfl rfl z) (by decide)) a2, by rw [va_up_self, va_up_self], a4, fun q h1 h2 => (va_up_ne _ _ (h2 7 rfl)).trans (a5 q h1 h2)⟩
  have e : j ≠ 7 := fun z => by subst z; cases hj
  rw [va_up_ne _ _ e]
  exact hu_ne (fun z => e (a4 j 7 (isA_R hj) rfl z)) (a1 j hj)
section MOR
variable {M : ev_M} {d kc ks : Nat} {Q : Option Value → ev_H → Prop} {pc pc' : Nat} {ls : List (Option Value)} {st : List Value} {h h0 : ev_H} {m : Nat} {ad : Nat → Nat} {sc : Nat → Int32} {A : Nat → Nat → Int32} {Wd : Nat → Int64}
theorem ev_ia {k L j : Nat} {i : Int32} (hd : fe M pc .iaload 1 pc') (H : MI G h0 h m ad sc A Wd) (hk : isA k = true) (hL : ln k = L) (hi : i = nI j) (hj : j < L) (hL2 : L < 2 ^ 31) (kk : Ev G M d kc ks Q pc' ls (.int (A k j) :: st) h) : Ev G M d kc ks Q pc ls (.int i :: .ref (ad k) :: st) h :=
  ev_iaload hd ty_int (H.2.1 k hk) hi (by rw [hL]; exact hj) (by rw [hL]; exact hL2) kk
theorem ev_is {k L j : Nat} {i v : Int32} (hd : fe M pc .iastore 1 pc') (H : MI G h0 h m ad sc A Wd) (hk : isA k = true) (hL : ln k = L) (hi : i = nI j) (hj : j < L) (hL2 : L < 2 ^ 31) (kk : ∀ h, MI G h0 h m ad sc (va_up A k (upd (A k) j v)) Wd → Ev G M d kc ks Q pc' ls st h) : Ev G M d kc ks Q pc ls (.int v :: .int i :: .ref (ad k) :: st) h :=
  ev_iastore hd ty_int (H.2.1 k hk) hi (by rw [hL]; exact hj) (by rw [hL]; exact hL2) (kk _ (MI_set H hk))
theorem ev_p0 {ix : Nat} {v : Int32} (hd : fe M pc (.putfield ix) 3 pc') (hf : ev_pl M ix 6 0 .int) (H : MI G h0 h m ad sc A Wd) (kk : ∀ h, MI G h0 h m ad (va_up sc 0 v) A Wd → Ev G M d kc ks Q pc' ls st h) : Ev G M d kc ks Q pc ls (.int v :: .ref m :: st) h :=
  ev_put hd hf H.1 rfl rfl (Nat.le_of_ble_eq_true rfl) (show _ = mo_l ad (va_up sc 0 v) from rfl) (kk _ (MI_put H))
theorem ev_p1 {ix : Nat} {v : Int32} (hd : fe M pc (.putfield ix) 3 pc') (hf : ev_pl M ix 6 1 .int) (H : MI G h0 h m ad sc A Wd) (kk : ∀ h, MI G h0 h m ad (va_up sc 1 v) A Wd → Ev G M d kc ks Q pc' ls st h) : Ev G M d kc ks Q pc ls (.int v :: .ref m :: st) h :=
  ev_put hd hf H.1 rfl rfl (Nat.le_of_ble_eq_true rfl) (show _ = mo_l ad (va_up sc 1 v) from rfl) (kk _ (MI_put H))
theorem ev_p2 {ix : Nat} {v : Int32} (hd : fe M pc (.putfield ix) 3 pc') (hf : ev_pl M ix 6 2 .int) (H : MI G h0 h m ad sc A Wd) (kk : ∀ h, MI G h0 h m ad (va_up sc 2 v) A Wd → Ev G M d kc ks Q pc' ls st h) : Ev G M d kc ks Q pc ls (.int v :: .ref m :: st) h :=
  ev_put hd hf H.1 rfl rfl (Nat.le_of_ble_eq_true rfl) (show _ = mo_l ad (va_up sc 2 v) from rfl) (kk _ (MI_put H))
theorem ev_p3 {ix : Nat} {v : Int32} (hd : fe M pc (.putfield ix) 3 pc') (hf : ev_pl M ix 6 3 .int) (H : MI G h0 h m ad sc A Wd) (kk : ∀ h, MI G h0 h m ad (va_up sc 3 v) A Wd → Ev G M d kc ks Q pc' ls st h) : Ev G M d kc ks Q pc ls (.int v :: .ref m :: st) h :=
  ev_put hd hf H.1 rfl rfl (Nat.le_of_ble_eq_true rfl) (show _ = mo_l ad (va_up sc 3 v) from rfl) (kk _ (MI_put H))
theorem ev_p9 {ix : Nat} {v : Int32} (hd : fe M pc (.putfield ix) 3 pc') (hf : ev_pl M ix 6 9 .int) (H : MI G h0 h m ad sc A Wd) (kk : ∀ h, MI G h0 h m ad (va_up sc 9 v) A Wd → Ev G M d kc ks Q pc' ls st h) : Ev G M d kc ks Q pc ls (.int v :: .ref m :: st) h :=
  ev_put hd hf H.1 rfl rfl (Nat.le_of_ble_eq_true rfl) (show _ = mo_l ad (va_up sc 9 v) from rfl) (kk _ (MI_put H))
theorem ev_p23 {ix : Nat} {v : Int32} (hd : fe M pc (.putfield ix) 3 pc') (hf : ev_pl M ix 6 23 .int) (H : MI G h0 h m ad sc A Wd) (kk : ∀ h, MI G h0 h m ad (va_up sc 23 v) A Wd → Ev G M d kc ks Q pc' ls st h) : Ev G M d kc ks Q pc ls (.int v :: .ref m :: st) h :=
  ev_put hd hf H.1 rfl rfl (Nat.le_of_ble_eq_true rfl) (show _ = mo_l ad (va_up sc 23 v) from rfl) (kk _ (MI_put H))
theorem ev_p24 {ix : Nat} {v : Int32} (hd : fe M pc (.putfield ix) 3 pc') (hf : ev_pl M ix 6 24 .int) (H : MI G h0 h m ad sc A Wd) (kk : ∀ h, MI G h0 h m ad (va_up sc 24 v) A Wd → Ev G M d kc ks Q pc' ls st h) : Ev G M d kc ks Q pc ls (.int v :: .ref m :: st) h :=
  ev_put hd hf H.1 rfl rfl (Nat.le_of_ble_eq_true rfl) (show _ = mo_l ad (va_up sc 24 v) from rfl) (kk _ (MI_put H))
theorem ev_p25 {ix : Nat} {v : Int32} (hd : fe M pc (.putfield ix) 3 pc') (hf : ev_pl M ix 6 25 .int) (H : MI G h0 h m ad sc A Wd) (kk : ∀ h, MI G h0 h m ad (va_up sc 25 v) A Wd → Ev G M d kc ks Q pc' ls st h) : Ev G M d kc ks Q pc ls (.int v :: .ref m :: st) h :=
  ev_put hd hf H.1 rfl rfl (Nat.le_of_ble_eq_true rfl) (show _ = mo_l ad (va_up sc 25 v) from rfl) (kk _ (MI_put H))
theorem ev_p26 {ix : Nat} {v : Int32} (hd : fe M pc (.putfield ix) 3 pc') (hf : ev_pl M ix 6 26 .int) (H : MI G h0 h m ad sc A Wd) (kk : ∀ h, MI G h0 h m ad (va_up sc 26 v) A Wd → Ev G M d kc ks Q pc' ls st h) : Ev G M d kc ks Q pc ls (.int v :: .ref m :: st) h :=
  ev_put hd hf H.1 rfl rfl (Nat.le_of_ble_eq_true rfl) (show _ = mo_l ad (va_up sc 26 v) from rfl) (kk _ (MI_put H))
theorem ev_p27 {ix : Nat} {v : Int32} (hd : fe M pc (.putfield ix) 3 pc') (hf : ev_pl M ix 6 27 .boolean) (hv : v = 0 ∨ v = 1) (H : MI G h0 h m ad sc A Wd) (kk : ∀ h, MI G h0 h m ad (va_up sc 27 v) A Wd → Ev G M d kc ks Q pc' ls st h) : Ev G M d kc ks Q pc ls (.int v :: .ref m :: st) h :=
  ev_put hd hf H.1 (by rcases hv with rfl | rfl <;> rfl) (by rcases hv with rfl | rfl <;> rfl) (Nat.le_of_ble_eq_true rfl) (show _ = mo_l ad (va_up sc 27 v) from rfl) (kk _ (MI_put H))
theorem ev_p28 {ix : Nat} {v : Int32} (hd : fe M pc (.putfield ix) 3 pc') (hf : ev_pl M ix 6 28 .int) (H : MI G h0 h m ad sc A Wd) (kk : ∀ h, MI G h0 h m ad (va_up sc 28 v) A Wd → Ev G M d kc ks Q pc' ls st h) : Ev G M d kc ks Q pc ls (.int v :: .ref m :: st) h :=
  ev_put hd hf H.1 rfl rfl (Nat.le_of_ble_eq_true rfl) (show _ = mo_l ad (va_up sc 28 v) from rfl) (kk _ (MI_put H))
theorem ev_p34 {ix : Nat} {v : Int32} (hd : fe M pc (.putfield ix) 3 pc') (hf : ev_pl M ix 6 34 .int) (H : MI G h0 h m ad sc A Wd) (kk : ∀ h, MI G h0 h m ad (va_up sc 34 v) A Wd → Ev G M d kc ks Q pc' ls st h) : Ev G M d kc ks Q pc ls (.int v :: .ref m :: st) h :=
  ev_put hd hf H.1 rfl rfl (Nat.le_of_ble_eq_true rfl) (show _ = mo_l ad (va_up sc 34 v) from rfl) (kk _ (MI_put H))
end MOR
end MO
