def ev_ck (ci : Nat) (C : String) (T : u_T) (N : Nat) (ty : Nat → FieldType) : Prop :=
  ev_CL[ci]? = some (C, T, N) ∧ (∀ w ∈ u_ws C T N, w ∈ ev_WS) ∧ (∀ k, k < N → parseFieldDescriptor (T k).2.2.1 = some (ty k)) ∧ (∀ a, a < N → ∀ b, b < N → a ≠ b → (T a).2.1 ≠ (T b).2.1)
/-- a field's link, from a class by an index of its pool: the field k of the class ci -/
def ev_fl (own : String) (ix ci k : Nat) (fin : Bool) (fty : FieldType) : Prop :=
  ∃ (C : String) (T : u_T) (N : Nat) (ty : Nat → FieldType), ev_ck ci C T N ty ∧ k < N ∧ ty k = fty ∧ (T k).2.2.2 = fin ∧
    ((Cond.fieldLink own ix (T k).1 (T k).2.1 (T k).2.2.1 ∈ ev_WS ∧ (fin = true → (T k).1 = own)) ∨ (fin = false ∧ ∃ host : String, Cond.fieldLinkNest own ix (T k).1 (T k).2.1 (T k).2.2.1 host ∈ ev_NW) ∨ (∃ host : String, Cond.fieldLinkNest own ix (T k).1 (T k).2.1 (T k).2.2.1 host ∈ ev_NW))
def ev_ty (t : Nat) (ty : FieldType) : Prop := ∀ g : Nat → ClassId, (ev_TY g)[t]? = some (g t, ty)
theorem nm_onT {w : Cond} (h : ev_isN w = true) : w.onTables = true := by
  cases w <;> first | rfl | (simp [ev_isN] at h)
theorem nm_use {w : Cond} {U : State} {args : Array Value} (h : ev_nw U) (hw : w ∈ ev_NW) : w.before args U = true :=
  va_Nw.use (nm_onT (List.mem_filter.mp hw).2) (h.1 w hw)
section EVH
variable {G : ev_G} {M : ev_M} {d kc ks : Nat} {Q : Option Value → ev_H → Prop} {pc pc' : Nat} {ls : List (Option Value)} {st : List Value} {h : ev_H}
theorem ev_get {ix ci k a : Nat} {fin : Bool} {fty : FieldType} {fs : List Value} {v : Value} (hd : fe M pc (.getfield ix) 3 pc') (hf : ev_fl M.1.cls ix ci k fin fty) (ha : h a = some (.inr (ci, fs))) (hv : fs[k]? = some v)
    (kk : Ev G M d kc ks Q pc' ls (v :: st) h) : Ev G M d kc ks Q pc ls (.ref a :: st) h := by
  obtain ⟨hd, rfl⟩ := hd
  intro p l e R s m args below meth c A H locs cells slots lsA Qf hc h1 h2 hw hS hl hr
  obtain ⟨C, T, N, ty, ⟨c1, c2, c3, c4⟩, hk, -, -, hlk⟩ := hf
  obtain ⟨ws, hP, hD, hg, -⟩ := xw_ws hw
  obtain ⟨q0, hq0⟩ := hg a _ ha
  rcases hlk with ⟨hlk, -⟩ | ⟨-, host, hlk⟩ | ⟨host, hlk⟩
  · exact va_get hc.1 hc.2.1 hc.2.2.2.2.1 c2 hc.2.2.2.1 hc.2.2.2.2.2.1 hP q0 hq0 c1 k hk (hc.2.2.2.2.1 _ hlk) (fun _ z => z) hv hd (kk p l e R s m args below meth c A H locs cells slots lsA Qf hc h1 h2 hw hS hl hr)
  · exact va_getN hc.1 hc.2.1 hc.2.2.2.2.1 c2 hc.2.2.2.1 hc.2.2.2.2.2.1 hP q0 hq0 c1 k hk (nm_use hc.2.2.2.2.2.2.2.2.2.1 hlk) (fun _ z => z) hv hd (kk p l e R s m args below meth c A H locs cells slots lsA Qf hc h1 h2 hw hS hl hr)
  · exact va_getN hc.1 hc.2.1 hc.2.2.2.2.1 c2 hc.2.2.2.1 hc.2.2.2.2.2.1 hP q0 hq0 c1 k hk (nm_use hc.2.2.2.2.2.2.2.2.2.1 hlk) (fun _ z => z) hv hd (kk p l e R s m args below meth c A H locs cells slots lsA Qf hc h1 h2 hw hS hl hr)
/-- what putfield may do: no final field, or a final one of its own class in a constructor -/
def ev_pl (M : ev_M) (ix ci k : Nat) (fty : FieldType) : Prop :=
  ∃ (C : String) (T : u_T) (N : Nat) (ty : Nat → FieldType), ev_ck ci C T N ty ∧ k < N ∧ ty k = fty ∧
    ((Cond.fieldLink M.1.cls ix (T k).1 (T k).2.1 (T k).2.2.1 ∈ ev_WS ∧ ((T k).2.2.2 = false ∨ ((T k).2.2.2 = true ∧ (T k).1 = M.1.cls ∧ M.1.name = "<init>"))) ∨ ((T k).2.2.2 = false ∧ ∃ host : String, Cond.fieldLinkNest M.1.cls ix (T k).1 (T k).2.1 (T k).2.2.1 host ∈ ev_NW))
theorem ev_put {ix ci k a : Nat} {fty : FieldType} {fs fs' : List Value} {v : Value} (hd : fe M pc (.putfield ix) 3 pc') (hf : ev_pl M ix ci k fty) (ha : h a = some (.inr (ci, fs))) (hn : narrow fty v = v) (hfit : fits fty v = true) (hlen : k < fs.length) (hs : fs.set k v = fs')
    (kk : Ev G M d kc ks Q pc' ls st (va_up h a (some (.inr (ci, fs'))))) : Ev G M d kc ks Q pc ls (v :: .ref a :: st) h := by
  obtain ⟨hd, rfl⟩ := hd
  subst hs
  intro p l e R s m args below meth c A H locs cells slots lsA Qf hc h1 h2 hw hS hl hr
  obtain ⟨C, T, N, ty, ⟨c1, c2, c3, c4⟩, hk, hty, hlk⟩ := hf
  obtain ⟨ws, hP, hD, hg, hset, -⟩ := xw_ws hw
  obtain ⟨q0, hq0⟩ := hg a _ ha
  have hdd : parseFieldDescriptor (T k).2.2.1 = some fty := by rw [← hty]; exact c3 k hk
  have go : ∀ (H1 : Heap) (locs1 : List Loc), va_P G.1 ev_CL (ws.set q0 (a, .inr (ci, fs.set k v))) H1 → va_D A (ws.set q0 (a, .inr (ci, fs.set k v))) → va_S A s.heap H1 locs1 → W p l e R s m args below meth c H1 locs1 cells slots Qf (F0 m (pc + 3) lsA st) := fun H1 locs1 g1 g2 g3 =>
    kk p l e R s m args below meth c A H1 locs1 cells slots lsA Qf hc h1 h2 (hset a _ q0 _ H1 hq0 g1 g2) g3 hl hr
  rcases hlk with ⟨hlk, hfin | ⟨hfin, ho, hini⟩⟩ | ⟨hfin, host, hlk⟩
  · exact va_put hc.1 hc.2.1 hc.2.2.2.2.1 c2 ty c3 c4 hc.2.2.2.1 hc.2.2.2.2.2.1 hP hD hS q0 hq0 c1 k hk (hc.2.2.2.2.1 _ hlk) (fun _ z => z) hfin hdd hn hfit hlen hd go
  · exact va_putF hc.1 hc.2.1 hc.2.2.2.2.1 c2 ty c3 c4 hc.2.2.2.1 hc.2.2.2.2.2.1 hP hD hS q0 hq0 c1 k hk (hc.2.2.2.2.1 _ hlk) (fun _ z => z) hfin (hc.2.2.2.2.2.2.2.1.trans hini) ho hdd hn hfit hlen hd go
  · exact va_putN hc.1 hc.2.1 hc.2.2.2.2.1 c2 ty c3 c4 hc.2.2.2.1 hc.2.2.2.2.2.1 hP hD hS q0 hq0 c1 k hk (nm_use hc.2.2.2.2.2.2.2.2.2.1 hlk) (fun _ z => z) hfin hdd hn hfit hlen hd go
theorem ev_iaload {t n j a : Nat} {f : Nat → Int32} {i : Int32} (hd : fe M pc .iaload 1 pc') (ht : ev_ty t .int) (ha : h a = some (.inl (G.2 t, n, .inl f))) (hi : i = nI j) (hj : j < n) (hn : n < 2 ^ 31)
    (kk : Ev G M d kc ks Q pc' ls (.int (f j) :: st) h) : Ev G M d kc ks Q pc ls (.int i :: .ref a :: st) h := by
  obtain ⟨hd, rfl⟩ := hd
  subst hi
  intro p l e R s m args below meth c A H locs cells slots lsA Qf hc h1 h2 hw hS hl hr
  obtain ⟨ws, hP, hD, hg, -⟩ := xw_ws hw
  obtain ⟨q0, hq0⟩ := hg a _ ha
  refine va_iald hc.1 hc.2.1 hc.2.2.2.2.2.1 hP q0 t hq0 (ht G.2) (vp_in_nI hj hn) hd ?_
  rw [nI_clamp (Nat.lt_trans hj hn)]
  exact kk p l e R s m args below meth c A H locs cells slots lsA Qf hc h1 h2 hw hS hl hr
theorem ev_laload {t n j a : Nat} {f : Nat → Int64} {i : Int32} (hd : fe M pc .laload 1 pc') (ht : ev_ty t .long) (ha : h a = some (.inl (G.2 t, n, .inr (.inl f)))) (hi : i = nI j) (hj : j < n) (hn : n < 2 ^ 31)
    (kk : Ev G M d kc ks Q pc' ls (.long (f j) :: st) h) : Ev G M d kc ks Q pc ls (.int i :: .ref a :: st) h := by
  obtain ⟨hd, rfl⟩ := hd
  subst hi
  intro p l e R s m args below meth c A H locs cells slots lsA Qf hc h1 h2 hw hS hl hr
  obtain ⟨ws, hP, hD, hg, -⟩ := xw_ws hw
  obtain ⟨q0, hq0⟩ := hg a _ ha
  refine va_lald hc.1 hc.2.1 hc.2.2.2.2.2.1 hP q0 t hq0 (ht G.2) (vp_in_nI hj hn) hd ?_
  rw [nI_clamp (Nat.lt_trans hj hn)]
  exact kk p l e R s m args below meth c A H locs cells slots lsA Qf hc h1 h2 hw hS hl hr
theorem ev_caload {t n j a : Nat} {f : Nat → Int32} {i : Int32} (hd : fe M pc .caload 1 pc') (ht : ev_ty t .char) (ha : h a = some (.inl (G.2 t, n, .inl f))) (hi : i = nI j) (hj : j < n) (hn : n < 2 ^ 31)
    (kk : Ev G M d kc ks Q pc' ls (.int (f j) :: st) h) : Ev G M d kc ks Q pc ls (.int i :: .ref a :: st) h := by
  obtain ⟨hd, rfl⟩ := hd
  subst hi
  intro p l e R s m args below meth c A H locs cells slots lsA Qf hc h1 h2 hw hS hl hr
  obtain ⟨ws, hP, hD, hg, -⟩ := xw_ws hw
  obtain ⟨q0, hq0⟩ := hg a _ ha
  refine va_cald hc.1 hc.2.1 hc.2.2.2.2.2.1 hP q0 t hq0 (ht G.2) (vp_in_nI hj hn) hd ?_
  rw [nI_clamp (Nat.lt_trans hj hn)]
  exact kk p l e R s m args below meth c A H locs cells slots lsA Qf hc h1 h2 hw hS hl hr
theorem ev_baload {t n j a : Nat} {f : Nat → Int32} {i : Int32} (hd : fe M pc .baload 1 pc') (ht : ev_ty t .byte) (ha : h a = some (.inl (G.2 t, n, .inl f))) (hi : i = nI j) (hj : j < n) (hn : n < 2 ^ 31)
    (kk : Ev G M d kc ks Q pc' ls (.int (f j) :: st) h) : Ev G M d kc ks Q pc ls (.int i :: .ref a :: st) h := by
  obtain ⟨hd, rfl⟩ := hd
  subst hi
  intro p l e R s m args below meth c A H locs cells slots lsA Qf hc h1 h2 hw hS hl hr
  obtain ⟨ws, hP, hD, hg, -⟩ := xw_ws hw
  obtain ⟨q0, hq0⟩ := hg a _ ha
  refine va_bald hc.1 hc.2.1 hc.2.2.2.2.2.1 hP q0 t hq0 (ht G.2) (vp_in_nI hj hn) hd ?_
  rw [nI_clamp (Nat.lt_trans hj hn)]
  exact kk p l e R s m args below meth c A H locs cells slots lsA Qf hc h1 h2 hw hS hl hr
theorem ev_zaload {t n j a : Nat} {f : Nat → Int32} {i : Int32} (hd : fe M pc .baload 1 pc') (ht : ev_ty t .boolean) (ha : h a = some (.inl (G.2 t, n, .inl f))) (hi : i = nI j) (hj : j < n) (hn : n < 2 ^ 31)
    (kk : Ev G M d kc ks Q pc' ls (.int (f j) :: st) h) : Ev G M d kc ks Q pc ls (.int i :: .ref a :: st) h := by
  obtain ⟨hd, rfl⟩ := hd
  subst hi
  intro p l e R s m args below meth c A H locs cells slots lsA Qf hc h1 h2 hw hS hl hr
  obtain ⟨ws, hP, hD, hg, -⟩ := xw_ws hw
  obtain ⟨q0, hq0⟩ := hg a _ ha
  refine va_zald hc.1 hc.2.1 hc.2.2.2.2.2.1 hP q0 t hq0 (ht G.2) (vp_in_nI hj hn) hd ?_
  rw [nI_clamp (Nat.lt_trans hj hn)]
  exact kk p l e R s m args below meth c A H locs cells slots lsA Qf hc h1 h2 hw hS hl hr
theorem ev_iastore {t n j a : Nat} {f : Nat → Int32} {i : Int32} {x : Int32} (hd : fe M pc .iastore 1 pc') (ht : ev_ty t .int) (ha : h a = some (.inl (G.2 t, n, .inl (f)))) (hi : i = nI j) (hj : j < n) (hn : n < 2 ^ 31)
    (kk : Ev G M d kc ks Q pc' ls st (va_up h a (some (.inl (G.2 t, n, .inl (upd f j x)))))) : Ev G M d kc ks Q pc ls (.int x :: .int i :: .ref a :: st) h := by
  obtain ⟨hd, rfl⟩ := hd
  subst hi
  intro p l e R s m args below meth c A H locs cells slots lsA Qf hc h1 h2 hw hS hl hr
  obtain ⟨ws, hP, hD, hg, hset, -⟩ := xw_ws hw
  obtain ⟨q0, hq0⟩ := hg a _ ha
  refine va_iast hc.1 hc.2.1 hc.2.2.2.2.2.1 hP hD hS q0 t hq0 (ht G.2) (vp_in_nI hj hn) hd (fun H1 locs1 g1 g2 g3 => ?_)
  rw [nI_clamp (Nat.lt_trans hj hn)] at g1 g2
  exact kk p l e R s m args below meth c A H1 locs1 cells slots lsA Qf hc h1 h2 (hset a _ q0 _ H1 hq0 g1 g2) g3 hl hr
theorem ev_lastore {t n j a : Nat} {f : Nat → Int64} {i : Int32} {x : Int64} (hd : fe M pc .lastore 1 pc') (ht : ev_ty t .long) (ha : h a = some (.inl (G.2 t, n, .inr (.inl (f))))) (hi : i = nI j) (hj : j < n) (hn : n < 2 ^ 31)
    (kk : Ev G M d kc ks Q pc' ls st (va_up h a (some (.inl (G.2 t, n, .inr (.inl (vp_updL f j x))))))) : Ev G M d kc ks Q pc ls (.long x :: .int i :: .ref a :: st) h := by
  obtain ⟨hd, rfl⟩ := hd
  subst hi
  intro p l e R s m args below meth c A H locs cells slots lsA Qf hc h1 h2 hw hS hl hr
  obtain ⟨ws, hP, hD, hg, hset, -⟩ := xw_ws hw
  obtain ⟨q0, hq0⟩ := hg a _ ha
  refine va_last hc.1 hc.2.1 hc.2.2.2.2.2.1 hP hD hS q0 t hq0 (ht G.2) (vp_in_nI hj hn) hd (fun H1 locs1 g1 g2 g3 => ?_)
  rw [nI_clamp (Nat.lt_trans hj hn)] at g1 g2
  exact kk p l e R s m args below meth c A H1 locs1 cells slots lsA Qf hc h1 h2 (hset a _ q0 _ H1 hq0 g1 g2) g3 hl hr
theorem ev_castore {t n j a : Nat} {f : Nat → Int32} {i : Int32} {x : Int32} (hd : fe M pc .castore 1 pc') (ht : ev_ty t .char) (ha : h a = some (.inl (G.2 t, n, .inl (f)))) (hi : i = nI j) (hj : j < n) (hn : n < 2 ^ 31)
    (kk : Ev G M d kc ks Q pc' ls st (va_up h a (some (.inl (G.2 t, n, .inl (upd f j (vp_nar .char x))))))) : Ev G M d kc ks Q pc ls (.int x :: .int i :: .ref a :: st) h := by
  obtain ⟨hd, rfl⟩ := hd
  subst hi
  intro p l e R s m args below meth c A H locs cells slots lsA Qf hc h1 h2 hw hS hl hr
  obtain ⟨ws, hP, hD, hg, hset, -⟩ := xw_ws hw
  obtain ⟨q0, hq0⟩ := hg a _ ha
  refine va_cast hc.1 hc.2.1 hc.2.2.2.2.2.1 hP hD hS q0 t hq0 (ht G.2) (vp_in_nI hj hn) hd (fun H1 locs1 g1 g2 g3 => ?_)
  rw [nI_clamp (Nat.lt_trans hj hn)] at g1 g2
  exact kk p l e R s m args below meth c A H1 locs1 cells slots lsA Qf hc h1 h2 (hset a _ q0 _ H1 hq0 g1 g2) g3 hl hr
theorem ev_bastore {t n j a : Nat} {f : Nat → Int32} {i : Int32} {x : Int32} (hd : fe M pc .bastore 1 pc') (ht : ev_ty t .byte) (ha : h a = some (.inl (G.2 t, n, .inl (f)))) (hi : i = nI j) (hj : j < n) (hn : n < 2 ^ 31)
    (kk : Ev G M d kc ks Q pc' ls st (va_up h a (some (.inl (G.2 t, n, .inl (upd f j (vp_nar .byte x))))))) : Ev G M d kc ks Q pc ls (.int x :: .int i :: .ref a :: st) h := by
  obtain ⟨hd, rfl⟩ := hd
  subst hi
  intro p l e R s m args below meth c A H locs cells slots lsA Qf hc h1 h2 hw hS hl hr
  obtain ⟨ws, hP, hD, hg, hset, -⟩ := xw_ws hw
  obtain ⟨q0, hq0⟩ := hg a _ ha
  refine va_bast hc.1 hc.2.1 hc.2.2.2.2.2.1 hP hD hS q0 t hq0 (ht G.2) (vp_in_nI hj hn) hd (fun H1 locs1 g1 g2 g3 => ?_)
  rw [nI_clamp (Nat.lt_trans hj hn)] at g1 g2
  exact kk p l e R s m args below meth c A H1 locs1 cells slots lsA Qf hc h1 h2 (hset a _ q0 _ H1 hq0 g1 g2) g3 hl hr
theorem ev_zastore {t n j a : Nat} {f : Nat → Int32} {i : Int32} {x : Int32} (hd : fe M pc .bastore 1 pc') (ht : ev_ty t .boolean) (ha : h a = some (.inl (G.2 t, n, .inl (f)))) (hi : i = nI j) (hj : j < n) (hn : n < 2 ^ 31)
    (kk : Ev G M d kc ks Q pc' ls st (va_up h a (some (.inl (G.2 t, n, .inl (upd f j (vp_nar .boolean x))))))) : Ev G M d kc ks Q pc ls (.int x :: .int i :: .ref a :: st) h := by
  obtain ⟨hd, rfl⟩ := hd
  subst hi
  intro p l e R s m args below meth c A H locs cells slots lsA Qf hc h1 h2 hw hS hl hr
  obtain ⟨ws, hP, hD, hg, hset, -⟩ := xw_ws hw
  obtain ⟨q0, hq0⟩ := hg a _ ha
  refine va_zast hc.1 hc.2.1 hc.2.2.2.2.2.1 hP hD hS q0 t hq0 (ht G.2) (vp_in_nI hj hn) hd (fun H1 locs1 g1 g2 g3 => ?_)
  rw [nI_clamp (Nat.lt_trans hj hn)] at g1 g2
  exact kk p l e R s m args below meth c A H1 locs1 cells slots lsA Qf hc h1 h2 (hset a _ q0 _ H1 hq0 g1 g2) g3 hl hr
theorem ev_aaload {t n j a : Nat} {C : String} {f : Nat → Option Nat} {i : Int32} (hd : fe M pc .aaload 1 pc') (ht : ev_ty t (.object C)) (ha : h a = some (.inl (G.2 t, n, .inr (.inr (.inr (.inr f)))))) (hi : i = nI j) (hj : j < n) (hn : n < 2 ^ 31)
    (kk : Ev G M d kc ks Q pc' ls (va_rf (f j) :: st) h) : Ev G M d kc ks Q pc ls (.int i :: .ref a :: st) h := by
  obtain ⟨hd, rfl⟩ := hd
  subst hi
  intro p l e R s m args below meth c A H locs cells slots lsA Qf hc h1 h2 hw hS hl hr
  obtain ⟨ws, hP, hD, hg, -⟩ := xw_ws hw
  obtain ⟨q0, hq0⟩ := hg a _ ha
  refine va_aldq hc.1 hc.2.1 hc.2.2.2.2.2.1 hP q0 t hq0 (ht G.2) (vp_in_nI hj hn) hd ?_
  rw [nI_clamp (Nat.lt_trans hj hn)]
  exact kk p l e R s m args below meth c A H locs cells slots lsA Qf hc h1 h2 hw hS hl hr
theorem ev_aastore {t n j a v ci : Nat} {C : String} {T : u_T} {N : Nat} {vs : List Value} {f : Nat → Option Nat} {i : Int32} (hd : fe M pc .aastore 1 pc') (ht : ev_ty t (.object C)) (ha : h a = some (.inl (G.2 t, n, .inr (.inr (.inr (.inr f)))))) (hv : h v = some (.inr (ci, vs))) (hcl : ev_CL[ci]? = some (C, T, N)) (hi : i = nI j) (hj : j < n) (hn : n < 2 ^ 31)
    (kk : Ev G M d kc ks Q pc' ls st (va_up h a (some (.inl (G.2 t, n, .inr (.inr (.inr (.inr (va_up f j (some v)))))))))) : Ev G M d kc ks Q pc ls (.ref v :: .int i :: .ref a :: st) h := by
  obtain ⟨hd, rfl⟩ := hd
  subst hi
  intro p l e R s m args below meth c A H locs cells slots lsA Qf hc h1 h2 hw hS hl hr
  obtain ⟨ws, hP, hD, hg, hset, -⟩ := xw_ws hw
  obtain ⟨q0, hq0⟩ := hg a _ ha
  obtain ⟨q1, hq1⟩ := hg v _ hv
  refine va_astq hc.1 hc.2.1 hc.2.2.2.2.2.1 hP hD hS q0 t q1 ci hq0 (ht G.2) hq1 hcl (vp_in_nI hj hn) hd (fun H1 locs1 g1 g2 g3 => ?_)
  rw [nI_clamp (Nat.lt_trans hj hn)] at g1 g2
  exact kk p l e R s m args below meth c A H1 locs1 cells slots lsA Qf hc h1 h2 (hset a _ q0 _ H1 hq0 g1 g2) g3 hl hr
theorem ev_alen {t a : Nat} {ty : FieldType} {x : vp_A} {v : Int32} (hd : fe M pc .arraylength 1 pc') (ht : ev_ty t ty) (ha : h a = some (.inl (G.2 t, x))) (hv : nI x.1 = v)
    (kk : Ev G M d kc ks Q pc' ls (.int v :: st) h) : Ev G M d kc ks Q pc ls (.ref a :: st) h := by
  obtain ⟨hd, rfl⟩ := hd
  intro p l e R s m args below meth c A H locs cells slots lsA Qf hc h1 h2 hw hS hl hr
  obtain ⟨ws, hP, hD, hg, -⟩ := xw_ws hw
  obtain ⟨q0, hq0⟩ := hg a _ ha
  exact va_alen hc.1 hc.2.1 hc.2.2.2.2.2.1 hP q0 t hq0 (ht G.2) hv hd (kk p l e R s m args below meth c A H locs cells slots lsA Qf hc h1 h2 hw hS hl hr)
theorem ev_sld {b L j : Nat} {xs : Nat → Int32} {i : Int32} (hX : M.2.2.2.2 = some (b, L, xs)) (hd : fe M pc .iaload 1 pc') (hi : i = nI j) (hj : j < L) (hn : L < 2 ^ 31)
    (kk : Ev G M d kc ks Q pc' ls (.int (xs j) :: st) h) : Ev G M d kc ks Q pc ls (.int i :: .ref b :: st) h := by
  obtain ⟨hd, rfl⟩ := hd
  subst hi
  intro p l e R s m args below meth c A H locs cells slots lsA Qf hc h1 h2 hw hS hl hr
  obtain ⟨x1, x2, x3⟩ := hc.2.2.2.2.2.2.2.2.2.2 b L xs hX
  refine va_sld hc.1 hc.2.1 x1 x2 x3 hS (vp_in_nI hj hn) hd ?_
  rw [nI_clamp (Nat.lt_trans hj hn)]
  exact kk p l e R s m args below meth c A H locs cells slots lsA Qf hc h1 h2 hw hS hl hr
theorem ev_slen {b L : Nat} {xs : Nat → Int32} (hX : M.2.2.2.2 = some (b, L, xs)) (hd : fe M pc .arraylength 1 pc')
    (kk : Ev G M d kc ks Q pc' ls (.int (nI L) :: st) h) : Ev G M d kc ks Q pc ls (.ref b :: st) h := by
  obtain ⟨hd, rfl⟩ := hd
  intro p l e R s m args below meth c A H locs cells slots lsA Qf hc h1 h2 hw hS hl hr
  obtain ⟨x1, x2, x3⟩ := hc.2.2.2.2.2.2.2.2.2.2 b L xs hX
  exact va_slen hc.1 hc.2.1 x1 x2 x3 hS hd (kk p l e R s m args below meth c A H locs cells slots lsA Qf hc h1 h2 hw hS hl hr)
theorem nm_ra {U : State} {c1 c2 : ClassId} {ty : FieldType} (h1 : va_RA U c1 ty) (h2 : va_RA U c2 ty) : c1 = c2 := by
  cases ty with
  | object C =>
    obtain ⟨-, -, -, -, -, a⟩ := h1
    obtain ⟨-, -, -, -, -, b⟩ := h2
    exact Option.some.inj (a.symm.trans b)
  | _ => exact Option.some.inj (h1.symm.trans h2)
theorem ev_newa {atype : ArrayType} {ty : FieldType} {t N kc' ks' : Nat} {n : Int32} {a0 : vp_A} (hd : fe M pc (.newarray atype) 2 pc') (hty : newarray.typeOf atype = ty) (ht : ev_ty t ty) (hac : Cond.arrayClass ty ∈ ev_WS) (ha0 : ∀ cA : ClassId, vp_cell cA a0 = arrV cA N (fun _ => defaultValue ty)) (hn : n = nI N) (hN : N < 2 ^ 20)
    (hk : kc = kc' + 1) (hs : ks = ks' + N) (kk : ∀ q : Nat, h q = none → Ev G M d kc' ks' Q pc' ls (.ref q :: st) (va_up h q (some (.inl (G.2 t, a0))))) : Ev G M d kc ks Q pc ls (.int n :: st) h := by
  obtain ⟨hd, rfl⟩ := hd
  subst hn; subst hk; subst hs; subst hty
  intro p l e R s m args below meth c A H locs cells slots lsA Qf hc h1 h2 hw hS hl hr
  obtain ⟨ws, hP, hD, hg, -, hpush⟩ := xw_ws hw
  have hcl : (nI N).toNatClampNeg = N := nI_clamp (by omega)
  have hby : N * componentBytes (newarray.typeOf atype) ≤ 536870912 := by
    have : componentBytes (newarray.typeOf atype) ≤ 8 := by cases atype <;> decide
    calc N * componentBytes (newarray.typeOf atype) ≤ N * 8 := Nat.mul_le_mul_left _ this
      _ ≤ 536870912 := by omega
  refine va_newa hc.1 hc.2.1 (hc.2.2.2.2.1 _ hac) rfl hc.2.2.2.2.2.1 hP hD hS hc.2.2.2.2.2.2.1 ha0 (nI_pos (by omega)) hcl hby (by omega) (by omega) hd (fun q cA H1 g0 g1 g2 g3 => ?_)
  have e1 : cA = G.2 t := by
    have k1 := (hc.2.2.2.2.2.1.2 t _ (ht G.2)).2
    have k2 := (g0.2 (ev_TY G.2).length (cA, newarray.typeOf atype) (by simp)).2
    exact nm_ra k2 k1
  subst e1
  obtain ⟨w1, w2⟩ := hpush q _ H1 g1 g2
  exact kk q w1 p l e R s m args below meth c A H1 locs (cells + 1) (slots + N) lsA Qf hc (by omega) (by omega) w2 g3 hl hr
theorem ev_newq {C : String} {ix t N kc' ks' : Nat} {n : Int32} (hd : fe M pc (.anewarray ix) 3 pc') (ht : ev_ty t (.object C)) (hlk : Cond.classLink M.1.cls ix C ∈ ev_WS) (hao : C ∈ ev_AO) (hn : n = nI N) (hN : N < 2 ^ 20)
    (hk : kc = kc' + 1) (hs : ks = ks' + N) (kk : ∀ q : Nat, h q = none → Ev G M d kc' ks' Q pc' ls (.ref q :: st) (va_up h q (some (.inl (G.2 t, N, .inr (.inr (.inr (.inr (fun _ => none))))))))) : Ev G M d kc ks Q pc ls (.int n :: st) h := by
  obtain ⟨hd, rfl⟩ := hd
  subst hn; subst hk; subst hs
  intro p l e R s m args below meth c A H locs cells slots lsA Qf hc h1 h2 hw hS hl hr
  obtain ⟨ws, hP, hD, hg, -, hpush⟩ := xw_ws hw
  have hcl : (nI N).toNatClampNeg = N := nI_clamp (by omega)
  refine va_newq hc.1 hc.2.1 hc.2.2.2.1 (hc.2.2.2.2.1 _ hlk) (hc.2.2.2.2.2.2.2.2.2.1.2 C hao) hc.2.2.2.2.2.1 hP hD hS hc.2.2.2.2.2.2.1 (nI_pos (by omega)) hcl (by omega) (by omega) (by omega) hd (fun q cA H1 g0 g1 g2 g3 => ?_)
  have e1 : cA = G.2 t := by
    have k1 := (hc.2.2.2.2.2.1.2 t _ (ht G.2)).2
    have k2 := (g0.2 (ev_TY G.2).length (cA, .object C) (by simp)).2
    exact nm_ra k2 k1
  subst e1
  obtain ⟨w1, w2⟩ := hpush q _ H1 g1 g2
  exact kk q w1 p l e R s m args below meth c A H1 locs (cells + 1) (slots + N) lsA Qf hc (by omega) (by omega) w2 g3 hl hr
theorem ev_new {C : String} {T : u_T} {N ci ix kc' ks' : Nat} {ty : Nat → FieldType} {fs : List Value} (hd : fe M pc (.new ix) 3 pc') (hck : ev_ck ci C T N ty) (hlk : Cond.classLink M.1.cls ix C ∈ ev_WS) (hin : Cond.instantiable C N ∈ ev_WS) (hini : Cond.initialized C ∈ ev_WS) (hfs : ∀ j, j < N → defaultValue (ty j) = vp_V fs j)
    (hk : kc = kc' + 1) (hs : ks = ks' + N) (kk : ∀ q : Nat, h q = none → Ev G M d kc' ks' Q pc' ls (.ref q :: st) (va_up h q (some (.inr (ci, fs))))) : Ev G M d kc ks Q pc ls st h := by
  obtain ⟨hd, rfl⟩ := hd
  subst hk; subst hs
  intro p l e R s m args below meth c A H locs cells slots lsA Qf hc h1 h2 hw hS hl hr
  obtain ⟨ws, hP, hD, hg, -, hpush⟩ := xw_ws hw
  obtain ⟨c1, c2, c3, c4⟩ := hck
  refine va_new hc.1 hc.2.1 hc.2.2.2.2.1 c2 ty c3 hc.2.2.2.1 (hc.2.2.2.2.1 _ hlk) (hc.2.2.2.2.1 _ hin) (hc.2.2.2.2.1 _ hini) hc.2.2.2.2.2.1 hP hD hS hc.2.2.2.2.2.2.1 c1 hfs (by omega) (by omega) hd (fun q H1 g1 g2 g3 => ?_)
  obtain ⟨w1, w2⟩ := hpush q _ H1 g1 g2
  exact kk q w1 p l e R s m args below meth c A H1 locs (cells + 1) (slots + N) lsA Qf hc (by omega) (by omega) w2 g3 hl hr
theorem ev_obj {a ix : Nat} (hd : fe M pc (.invokespecial ix) 3 pc') (k1 : Cond.methodLink M.1.cls ix Lib.objectInit ∈ ev_WS) (k2 : Cond.instanceMethod Lib.objectInit ∈ ev_WS) (k3 : Cond.code Lib.objectInit ⟨#[0xb1]⟩ 1 none ∈ ev_WS) (hdd : 1 ≤ d) (hst : (st.map fun v => v.category).sum ≤ 8)
    (kk : Ev G M d kc ks Q pc' ls st h) : Ev G M d kc ks Q pc ls (.ref a :: st) h := by
  obtain ⟨hd, rfl⟩ := hd
  intro p l e R s m args below meth c A H locs cells slots lsA Qf hc h1 h2 hw hS hl hr
  obtain ⟨r1, r2⟩ := hc.2.2.2.2.2.2.2.2.1
  refine W.objInit hc.1 hc.2.1 hc.2.2.2.1 (hc.2.2.2.2.1 _ k1) (hc.2.2.2.2.1 _ k2) (hc.2.2.2.2.1 _ k3) rfl (hl.1.trans hc.2.2.1.symm) rfl hd (by omega) ?_ ?_
  · have := lv_room (m := m) (pc := pc) (ls := lsA) (rest := .ref a :: st) hst
    omega
  · exact W.eq (g2 := F0 m (pc + 3) lsA st) rfl (kk p l e R s m args below meth c A H locs cells slots lsA Qf hc h1 h2 hw hS hl hr)
theorem ev_copyl {t n0 n1 a0 a sp dp n ix : Nat} {f g : Nat → Int64} {xsp xdp xn : Int32} (hd : fe M pc (.invokestatic ix) 3 pc') (k1 : Cond.methodLink M.1.cls ix arraycopyName ∈ ev_WS) (k2 : Cond.native arraycopyName ∈ ev_WS) (k3 : Cond.static arraycopyName ∈ ev_WS) (k4 : Cond.initialized "java/lang/System" ∈ ev_WS) (ht : ev_ty t .long) (ha0 : h a0 = some (.inl (G.2 t, n0, .inr (.inl f)))) (ha : h a = some (.inl (G.2 t, n1, .inr (.inl g))))
    (e1 : xsp = nI sp) (e2 : xdp = nI dp) (e3 : xn = nI n) (h4 : sp + n ≤ n0) (h5 : dp + n ≤ n1) (hb0 : n0 < 2 ^ 31) (hb1 : n1 < 2 ^ 31) (hdd : 1 ≤ d) (hwt : (st.map fun v => v.category).sum ≤ 8)
    (kk : Ev G M d kc ks Q pc' ls st (va_up h a (some (.inl (G.2 t, n1, .inr (.inl (va_cpy f g sp dp n))))))) : Ev G M d kc ks Q pc ls (.int xn :: .int xdp :: .ref a :: .int xsp :: .ref a0 :: st) h := by
  obtain ⟨hd, rfl⟩ := hd
  subst e1; subst e2; subst e3
  intro p l e R s m args below meth c A H locs cells slots lsA Qf hc h1 h2 hw hS hl hr
  obtain ⟨r1, r2⟩ := hc.2.2.2.2.2.2.2.2.1
  obtain ⟨ws, hP, hD, hg, hset, -⟩ := xw_ws hw
  obtain ⟨q0, hq0⟩ := hg a0 _ ha0
  obtain ⟨q1, hq1⟩ := hg a _ ha
  have c1 : (nI sp).toNatClampNeg = sp := nI_clamp (by omega)
  have c2 : (nI dp).toNatClampNeg = dp := nI_clamp (by omega)
  have c3 : (nI n).toNatClampNeg = n := nI_clamp (by omega)
  have hnf : nativeFrameWords "java/lang/System" "arraycopy" 5 = 7 := by decide
  refine va_copyl hc.1 hc.2.1 (hc.2.2.1.trans hl.1.symm) hc.2.2.2.1 (hc.2.2.2.2.1 _ k1) (hc.2.2.2.2.1 _ k2) (hc.2.2.2.2.1 _ k3) (hc.2.2.2.2.1 _ k4) hc.2.2.2.2.2.1 hP hD hS q0 q1 t t hq0 hq1 (ht G.2) (ht G.2) rfl (nI_pos (by omega)) (nI_pos (by omega)) (nI_pos (by omega)) (by rw [c1, c3]; exact h4) (by rw [c2, c3]; exact h5) (fun _ _ => rfl) (by omega) (by rw [hnf]; omega) hd (fun H1 locs1 g1 g2 g3 => ?_)
  rw [c1, c2, c3] at g1 g2
  exact kk p l e R s m args below meth c A H1 locs1 cells slots lsA Qf hc h1 h2 (hset a _ q1 _ H1 hq1 g1 g2) g3 hl hr
/-- returns -/
theorem ev_ireturn {x : Int32} {ty : FieldType} (hd : fe M pc .ireturn 1 pc') (hrt : M.2.2.2.1 = some ty) (hn : narrow ty (.int x) = .int x) (hq : Q (some (.int x)) h) : Ev G M d kc ks Q pc ls [.int x] h := by
  obtain ⟨hd, rfl⟩ := hd
  intro p l e R s m args below meth c A H locs cells slots lsA Qf hc h1 h2 hw hS hl hr
  exact hr (some (.int x)) h H locs cells slots pc lsA (Or.inl ⟨x, ty, rfl, hrt, hn, hd⟩) hq hw hS (by omega) (by omega)
theorem ev_lreturn {x : Int64} (hd : fe M pc .lreturn 1 pc') (hrt : M.2.2.2.1 = some .long) (hq : Q (some (.long x)) h) : Ev G M d kc ks Q pc ls [.long x] h := by
  obtain ⟨hd, rfl⟩ := hd
  intro p l e R s m args below meth c A H locs cells slots lsA Qf hc h1 h2 hw hS hl hr
  exact hr (some (.long x)) h H locs cells slots pc lsA (Or.inr (Or.inr (Or.inl ⟨x, rfl, hrt, hd⟩))) hq hw hS (by omega) (by omega)
theorem ev_areturn {v : Value} {C : String} (hd : fe M pc .areturn 1 pc') (hrt : M.2.2.2.1 = some (.object C)) (hv : v = .null ∨ ∃ a, v = .ref a) (hq : Q (some v) h) : Ev G M d kc ks Q pc ls [v] h := by
  obtain ⟨hd, rfl⟩ := hd
  intro p l e R s m args below meth c A H locs cells slots lsA Qf hc h1 h2 hw hS hl hr
  exact hr (some v) h H locs cells slots pc lsA (Or.inr (Or.inr (Or.inr ⟨v, C, rfl, hv, hrt, hd⟩))) hq hw hS (by omega) (by omega)
theorem ev_return (hd : fe M pc .return_ 1 pc') (hrt : M.2.2.2.1 = none) (hq : Q none h) : Ev G M d kc ks Q pc ls [] h := by
  obtain ⟨hd, rfl⟩ := hd
  intro p l e R s m args below meth c A H locs cells slots lsA Qf hc h1 h2 hw hS hl hr
  exact hr none h H locs cells slots pc lsA (Or.inr (Or.inl ⟨rfl, hrt, hd⟩)) hq hw hS (by omega) (by omega)
end EVH
/-! a method's contract -/
def ev_ws (M : ev_M) : List Cond := .code M.1 M.2.1 M.2.2.1 M.2.2.2.1 :: ev_WS
def ev_rm (d kc ks : Nat) : Room := { frames := d, cells := kc, slots := ks, locals := 44 * d }
def ev_Pu (G : ev_G) (h : ev_H) (sz : Nat) (U : State) : Prop := U.heap.size = sz ∧ xw G (fun _ => True) h U.heap ∧ va_K G.1 ev_CL (ev_TY G.2) U ∧ ev_nw U
def ev_Qc (G : ev_G) (h : ev_H) (sz : Nat) (Q : Option Value → ev_H → Prop) : Array Value → State → Outcome → State → Prop := fun _ s oc t => (∃ (r : Option Value) (h' : ev_H), oc = .returned r ∧ Q r h' ∧ xw G (ev_fr h sz) h' t.heap) ∧ va_F (ev_fr h sz) s t
def Rn (G : ev_G) (M : ev_M) (d kc ks : Nat) (av : List Value) (h : ev_H) (Q : Option Value → ev_H → Prop) : Prop :=
  ∀ (l : Launch) (sz : Nat), Met l M.1 (ev_ws M) (ev_rm d kc ks) (va_Pc av (ev_Pu G h sz)) (ev_Qc G h sz Q) kc ks (ev_fr h sz)
theorem Rn_mono {G : ev_G} {M : ev_M} {d kc ks : Nat} {av : List Value} {h : ev_H} {Q Q' : Option Value → ev_H → Prop} (hQ : ∀ v h, Q v h → Q' v h) (k : Rn G M d kc ks av h Q) : Rn G M d kc ks av h Q' := by
  intro l sz
  exact MetFree.mono (k l sz) (fun _ _ q => q) (fun _ _ _ _ _ q => q) (fun a s o t _ q => ⟨⟨by obtain ⟨⟨⟨r, h', e1, e2, e3⟩, -⟩, -⟩ := q; exact ⟨r, h', e1, hQ _ _ e2, e3⟩, q.1.2⟩, q.2⟩)
def ev_sl : List Value → List (Option Value)
  | [] => []
  | v :: vs => if v.category = 2 then some v :: none :: ev_sl vs else some v :: ev_sl vs
def ev_ent (nL : Nat) (av : List Value) : List (Option Value) := ev_sl av ++ List.replicate (nL - (ev_sl av).length) none
theorem ev_sl_mem : ∀ (av : List Value) (k i : Nat) (v : Value), (ev_sl av)[i]? = some (some v) → (k + i, v) ∈ lv_args k av
  | [], k, i, v, h => by simp [ev_sl] at h
  | w :: av, k, i, v, h => by
    unfold ev_sl at h
    unfold lv_args
    by_cases hc : w.category = 2
    · rw [if_pos hc] at h ⊢
      match i, h with
      | 0, h => simp at h; subst h; simp
      | 1, h => simp at h
      | i + 2, h =>
        have := ev_sl_mem av (k + 2) i v (by simpa using h)
        exact List.mem_cons_of_mem _ (by rw [show k + (i + 2) = k + 2 + i by omega]; exact this)
    · rw [if_neg hc] at h ⊢
      match i, h with
      | 0, h => simp at h; subst h; simp
      | i + 1, h =>
        have := ev_sl_mem av (k + 1) i v (by simpa using h)
        exact List.mem_cons_of_mem _ (by rw [show k + (i + 1) = k + 1 + i by omega]; exact this)
theorem ev_sl_len (av : List Value) : (ev_sl av).length = (lg_sl av).length := by
  induction av with
  | nil => rfl
  | cons v av ih =>
    unfold ev_sl
    by_cases hc : v.category = 2
    · rw [if_pos hc]
      simp [lg_sl, hc, ih]
    · rw [if_neg hc]
      simp [lg_sl, hc, ih]
theorem ev_ent_ok {lsA : Array Slot} {nL : Nat} {av : List Value} (hn : (lg_sl av).length ≤ nL) (hl : lv_has lsA nL (lv_args 0 av)) : ev_ls lsA nL (ev_ent nL av) := by
  refine ⟨hl.1, hl.2.1, ?_, fun i v hi => ?_⟩
  · unfold ev_ent
    rw [← ev_sl_len] at hn
    simp
    omega
  · unfold ev_ent at hi
    by_cases hb : i < (ev_sl av).length
    · rw [List.getElem?_append_left hb] at hi
      have := ev_sl_mem av 0 i v hi
      rw [Nat.zero_add] at this
      exact hl.2.2 _ this
    · rw [List.getElem?_append_right (by omega), List.getElem?_replicate] at hi
      split at hi <;> simp at hi
theorem Rn_of {G : ev_G} {M : ev_M} {d kc ks : Nat} {av : List Value} {h : ev_H} {Q : Option Value → ev_H → Prop} {ls : List (Option Value)} (hX : M.2.2.2.2 = none) (hy : plainName M.1.cls = true) (hn : (lg_sl av).length ≤ M.2.2.1) (hls : ev_ent M.2.2.1 av = ls) (k : Ev G M d kc ks Q 0 ls [] h) : Rn G M d kc ks av h Q := by
  intro l sz
  refine Met.ofW (cc := M.2.1) (maxL := M.2.2.1) (ret := M.2.2.2.1) hy rfl ?_
  intro p e s m args below meth c s₁ B hml hv
  obtain ⟨rfl, hsz, hw, hK, hN⟩ := hv
  have hx := B.exec
  have hb := B.bytes
  have hrr := B.returns
  have hts := atoms_spec (ws := ev_ws M) B.pre
  have hown : s.vm.findClass M.1.cls = some m.cls := findClass_of_methodNamed B.named
  have hlocks := B.notSynchronized
  have hname : meth.name = M.1.name := (name_of_methodNamed B.named B.method).1
  subst hsz
  have hl := lv_entry av hn
  rw [lg_entry_eq]
  generalize (lg_sl av ++ List.replicate (M.2.2.1 - (lg_sl av).length) Slot.unset).toArray = lsA at hl ⊢
  refine k p l e _ s m av.toArray below meth c (ev_fr h s.heap.size) s.heap [] 0 0 lsA _ ⟨hx, hb, hml, hown, fun w hw => hts w (List.mem_cons_of_mem _ hw), hK, fun q hq => Or.inr hq, hname, ⟨Nat.le_refl _, Nat.le_refl _⟩, hN, fun b L xs z => by rw [hX] at z; cases z⟩ (by rw [Nat.zero_add]; exact Nat.le_refl _) (by rw [Nat.zero_add]; exact Nat.le_refl _) (xw_weak hw (fun a e ha _ => Or.inl ⟨e, ha⟩)) va_S.rf (by rw [← hls]; exact ev_ent_ok hn hl) ?_
  intro v h' H' locs cells slots pc lsB hri hq hw1 hS1 h1 h2
  refine W.widen (k := kc) (n := ks) h1 h2 ?_
  rcases hri with ⟨x, ty, rfl, hrt, hnn, hd⟩ | ⟨rfl, hrt, hd⟩ | ⟨x, rfl, hrt, hd⟩ | ⟨w, C, rfl, hvv, hrt, hd⟩
  · exact W.zret hx hb (hrr.trans hrt) hnn (fun t ht hW => ⟨⟨_, h', rfl, hq, by rw [ht]; exact hw1⟩, hS1.F ht⟩) hS1.2.2 hd hlocks
  · exact W.vret hx hb (hrr.trans hrt) (fun t ht hW => ⟨⟨_, h', rfl, hq, by rw [ht]; exact hw1⟩, hS1.F ht⟩) hS1.2.2 hd hlocks
  · exact W.lret hx hb (hrr.trans hrt) (fun t ht hW => ⟨⟨_, h', rfl, hq, by rw [ht]; exact hw1⟩, hS1.F ht⟩) hS1.2.2 hd hlocks
  · exact W.aret hx hb (hrr.trans hrt) (Or.inl ⟨C, rfl⟩) hvv (fun t ht hW => ⟨⟨_, h', rfl, hq, by rw [ht]; exact hw1⟩, hS1.F ht⟩) hS1.2.2 hd hlocks
/-! calls -/
theorem ev_good {M : ev_M} (h : Cond.code M.1 M.2.1 M.2.2.1 M.2.2.2.1 ∈ ev_WS) : GoodIn ev_WS (ev_ws M) := by
  intro w hw
  have hm : w ∈ ev_WS := by
    rcases List.mem_cons.mp hw with q | q
    · rw [q]; exact h
    · exact q
  exact ⟨hm, good_of_word (List.mem_filter.mp hm).2⟩
/-- what a call asks of the tables -/
def ev_cb (M' : ev_M) (n : Nat) : Prop := Cond.initialized M'.1.cls ∈ ev_WS ∧ Cond.code M'.1 M'.2.1 M'.2.2.1 M'.2.2.2.1 ∈ ev_WS ∧ (M'.1.cls ≠ "java/lang/invoke/MethodHandle" ∧ M'.1.cls ≠ "java/lang/invoke/VarHandle" ∧ (parseMethodDescriptor M'.1.desc).map (fun d => d.parameters.length) = some n) ∧ M'.2.2.1 + 19 ≤ 44
def ev_lk (own : String) (ix : Nat) (M' : ev_M) : Prop := Cond.methodLink own ix M'.1 ∈ ev_WS ∨ ∃ host : String, Cond.methodLinkNest own ix M'.1 host ∈ ev_NW
def ev_iv (M' : ev_M) : Prop := Cond.instanceMethod M'.1 ∈ ev_WS ∧ Cond.selects M'.1.cls M'.1 M'.1 ∈ ev_WS
theorem ev_blind {G : ev_G} {h : ev_H} {sz : Nat} {av : List Value} : FrameBlind (va_Pc av (ev_Pu G h sz)) := fun a U g mk q => by
  obtain ⟨q0, q1, qP, qK, qN⟩ := q
  exact ⟨q0, q1, qP, va_K.moved (u := U) (U := U.calling g mk a) (Vm.Alike.refl U.vm) qK, ev_nw_same (s := U) (U := U.calling g mk a) rfl qN⟩
section EVC
variable {G : ev_G} {M M' : ev_M} {d kc ks d' kc1 ks1 kc' ks' : Nat} {Q Q' : Option Value → ev_H → Prop} {pc pc' ix n : Nat} {ls : List (Option Value)} {st st0 As : List Value} {h : ev_H}
theorem ev_cont {p : Program} {l : Launch} {e : Env} {R : Room} {s : State} {m : MethodId} {args : Array Value} {below : List Frame} {meth : Method} {c : Code} {A : Nat → Prop} {H : Heap} {locs : List Loc} {cells slots : Nat} {lsA : Array Slot} {Qf : State → Prop} {a : Array Value}
    (hr : va_Run p l e R s m args below meth c H locs cells slots kc1 ks1 (F0 m pc lsA st0) st (ev_Qc G h H.size Q' a) (ev_fr h H.size)) (hw : xw G A h H) (hS : va_S A s.heap H locs) (hA : ∀ q : Nat, s.heap.size ≤ q → A q)
    (kk : ∀ (r : Option Value) (h' : ev_H) (H1 : Heap) (locs1 : List Loc), Q' r h' → xw G A h' H1 → va_S A s.heap H1 locs1 → W p l e R s m args below meth c H1 locs1 (cells + kc1) (slots + ks1) Qf (F0 m (pc + 3) lsA (r.toList ++ st))) : W p l e R s m args below meth c H locs cells slots Qf (F0 m pc lsA st0) := by
  have hAA : ∀ q : Nat, ev_fr h H.size q → A q := by
    intro q hq
    rcases hq with ⟨e, hq⟩ | hq
    · exact (xw_in hw hq).1
    · exact hA q (Nat.le_trans hS.1 hq)
  intro T hT X
  obtain ⟨v, st₀, t, T', L, h0, X', hL, e1, e2, ⟨⟨r, h', hv, hq, hw1⟩, hz, hk⟩, stp⟩ := hr T hT X
  cases hv
  rw [h0] at hz hk
  obtain ⟨t2, a1, b1⟩ := kk v h' T'.heap (locs ++ L) hq (by rw [e1]; exact xw_weak hw1 (fun a _ _ z => hAA a z))
    ⟨Nat.le_trans hS.1 (by rw [e1]; exact hz), fun q g1 g2 => by rw [e1, hk q (Nat.lt_of_lt_of_le g1 hS.1) (fun z => g2 (hAA q z))]; exact hS.2.1 q g1 g2, fun q hq => by
      rcases List.mem_append.mp hq with z | z
      · exact hS.2.2 q z
      · exact hAA _ (hL q z)⟩ T' rfl X'
  exact ⟨t2, stp t2 a1, b1⟩
theorem ev_vcall {b ci : Nat} {T : u_T} {N : Nat} {fs : List Value} (hd : fe M pc (.invokevirtual ix) 3 pc') (hlk : ev_lk M.1.cls ix M') (hcb : ev_cb M' n) (hiv : ev_iv M') (hM : Rn G M' d' kc1 ks1 (.ref b :: As) h Q') (hb : h b = some (.inr (ci, fs))) (hcl : ev_CL[ci]? = some (M'.1.cls, T, N)) (hn : As.length = n) (hst0 : st0 = As.reverse ++ .ref b :: st)
    (hdd : d' + 1 ≤ d) (hwt : (st.map fun v => v.category).sum ≤ 8) (hk : kc = kc' + kc1) (hs : ks = ks' + ks1)
    (kk : ∀ (r : Option Value) (h' : ev_H), Q' r h' → Ev G M d kc' ks' Q pc' ls (r.toList ++ st) h') : Ev G M d kc ks Q pc ls st0 h := by
  obtain ⟨hd, rfl⟩ := hd
  subst hk; subst hs; subst hst0
  intro p l e R s m args below meth c A H locs cells slots lsA Qf hc h1 h2 hw hS hl hr
  obtain ⟨hx, hbb, hml, hown, hts, hK, hA, hnm, ⟨r1, r2⟩, hN, -⟩ := id hc
  obtain ⟨ws, hP, hD, hg, -⟩ := xw_ws hw
  obtain ⟨q0, hq0⟩ := hg b _ hb
  have hPre : PreV s H M'.1.cls b (va_Pc (.ref b :: As) (ev_Pu G h H.size)) As := ⟨ev_blind, va_recv hK hP hcl hq0, fun U hU hW => ⟨rfl, by rw [hU], by rw [hU]; exact xw_weak hw (fun _ _ _ _ => trivial), va_K.moved hW.alike hK, ev_nw_warm hW hN⟩⟩
  have hroom : (ev_rm d' kc1 ks1).frames + 1 ≤ R.frames ∧ 8 + (M'.2.2.1 + 11) + (ev_rm d' kc1 ks1).locals ≤ R.locals := by
    have := hcb.2.2.2
    refine ⟨Nat.le_trans hdd r1, ?_⟩
    show 8 + (M'.2.2.1 + 11) + 44 * d' ≤ R.locals
    omega
  refine ev_cont (kc1 := kc1) (ks1 := ks1) (Q' := Q') (a := (Value.ref b :: As).toArray) ?_ hw hS hA (fun r h' H1 locs1 g1 g2 g3 => kk r h' g1 p l e R s m args below meth c A H1 locs1 (cells + kc1) (slots + ks1) lsA Qf hc (by omega) (by omega) g2 g3 hl hr)
  rcases hlk with hlk | ⟨host, hlk⟩
  · exact va_runV ⟨hx, hbb, hml, hown, hts⟩ (hM l H.size) ⟨callB_of n hts (ev_good hcb.2.1) rfl rfl rfl (hts _ hcb.1) (hts _ hlk) hcb.2.2.1 hroom, hts _ hiv.1, hts _ hiv.2⟩ hPre rfl hn hl.1 rfl (lv_room hwt) hd ⟨by omega, by omega⟩
  · exact va_runVN ⟨hx, hbb, hml, hown, hts⟩ (hM l H.size) ⟨va_cnB n hts (ev_good hcb.2.1) rfl rfl rfl (hN.1 _ hlk) (hts _ hcb.1) hcb.2.2.1 hroom, hts _ hiv.1, hts _ hiv.2⟩ hPre rfl hn hl.1 rfl (lv_room hwt) hd ⟨by omega, by omega⟩
theorem ev_icall {b : Nat} (hd : fe M pc (.invokespecial ix) 3 pc') (hlk : ev_lk M.1.cls ix M') (hcb : ev_cb M' n) (hiv : Cond.instanceMethod M'.1 ∈ ev_WS ∧ M'.1.name = "<init>" ∧ M'.2.2.2.1 = none) (hM : Rn G M' d' kc1 ks1 (.ref b :: As) h Q') (hn : As.length = n) (hst0 : st0 = As.reverse ++ .ref b :: st)
    (hdd : d' + 1 ≤ d) (hwt : (st.map fun v => v.category).sum ≤ 8) (hk : kc = kc' + kc1) (hs : ks = ks' + ks1)
    (kk : ∀ (r : Option Value) (h' : ev_H), Q' r h' → Ev G M d kc' ks' Q pc' ls (r.toList ++ st) h') : Ev G M d kc ks Q pc ls st0 h := by
  obtain ⟨hd, rfl⟩ := hd
  subst hk; subst hs; subst hst0
  intro p l e R s m args below meth c A H locs cells slots lsA Qf hc h1 h2 hw hS hl hr
  obtain ⟨hx, hbb, hml, hown, hts, hK, hA, hnm, ⟨r1, r2⟩, hN, -⟩ := id hc
  have hPre : PreS s H (va_Pc (.ref b :: As) (ev_Pu G h H.size)) (.ref b :: As) := ⟨ev_blind, fun U hU hW => ⟨rfl, by rw [hU], by rw [hU]; exact xw_weak hw (fun _ _ _ _ => trivial), va_K.moved hW.alike hK, ev_nw_warm hW hN⟩⟩
  have hroom : (ev_rm d' kc1 ks1).frames + 1 ≤ R.frames ∧ 8 + (M'.2.2.1 + 11) + (ev_rm d' kc1 ks1).locals ≤ R.locals := by
    have := hcb.2.2.2
    refine ⟨Nat.le_trans hdd r1, ?_⟩
    show 8 + (M'.2.2.1 + 11) + 44 * d' ≤ R.locals
    omega
  have hgd : GoodIn ev_WS (ev_ws M') := ev_good hcb.2.1
  have hwe : ev_ws M' = Cond.code M'.1 M'.2.1 M'.2.2.1 none :: ev_WS := by unfold ev_ws; rw [hiv.2.2]
  refine ev_cont (kc1 := kc1) (ks1 := ks1) (Q' := Q') (a := (Value.ref b :: As).toArray) ?_ hw hS hA (fun r h' H1 locs1 g1 g2 g3 => kk r h' g1 p l e R s m args below meth c A H1 locs1 (cells + kc1) (slots + ks1) lsA Qf hc (by omega) (by omega) g2 g3 hl hr)
  rcases hlk with hlk | ⟨host, hlk⟩
  · exact va_runI ⟨hx, hbb, hml, hown, hts⟩ (hM l H.size) ⟨callB_of n hts hgd hwe rfl rfl (hts _ hcb.1) (hts _ hlk) hcb.2.2.1 hroom, hiv.2.1, hts _ hiv.1⟩ hPre rfl hn hl.1 rfl (lv_room hwt) hd ⟨by omega, by omega⟩
  · exact va_runIN ⟨hx, hbb, hml, hown, hts⟩ (hM l H.size) ⟨va_cnB n hts hgd hwe rfl rfl (hN.1 _ hlk) (hts _ hcb.1) hcb.2.2.1 hroom, hiv.2.1, hts _ hiv.1⟩ hPre rfl hn hl.1 rfl (lv_room hwt) hd ⟨by omega, by omega⟩
theorem ev_scall (hd : fe M pc (.invokestatic ix) 3 pc') (hlk : ev_lk M.1.cls ix M') (hcb : ev_cb M' n) (hiv : Cond.static M'.1 ∈ ev_WS) (hM : Rn G M' d' kc1 ks1 As h Q') (hn : As.length = n) (hst0 : st0 = As.reverse ++ st)
    (hdd : d' + 1 ≤ d) (hwt : (st.map fun v => v.category).sum ≤ 8) (hk : kc = kc' + kc1) (hs : ks = ks' + ks1)
    (kk : ∀ (r : Option Value) (h' : ev_H), Q' r h' → Ev G M d kc' ks' Q pc' ls (r.toList ++ st) h') : Ev G M d kc ks Q pc ls st0 h := by
  obtain ⟨hd, rfl⟩ := hd
  subst hk; subst hs; subst hst0
  intro p l e R s m args below meth c A H locs cells slots lsA Qf hc h1 h2 hw hS hl hr
  obtain ⟨hx, hbb, hml, hown, hts, hK, hA, hnm, ⟨r1, r2⟩, hN, -⟩ := id hc
  have hPre : PreS s H (va_Pc As (ev_Pu G h H.size)) As := ⟨ev_blind, fun U hU hW => ⟨rfl, by rw [hU], by rw [hU]; exact xw_weak hw (fun _ _ _ _ => trivial), va_K.moved hW.alike hK, ev_nw_warm hW hN⟩⟩
  have hroom : (ev_rm d' kc1 ks1).frames + 1 ≤ R.frames ∧ 8 + (M'.2.2.1 + 11) + (ev_rm d' kc1 ks1).locals ≤ R.locals := by
    have := hcb.2.2.2
    refine ⟨Nat.le_trans hdd r1, ?_⟩
    show 8 + (M'.2.2.1 + 11) + 44 * d' ≤ R.locals
    omega
  refine ev_cont (kc1 := kc1) (ks1 := ks1) (Q' := Q') (a := As.toArray) ?_ hw hS hA (fun r h' H1 locs1 g1 g2 g3 => kk r h' g1 p l e R s m args below meth c A H1 locs1 (cells + kc1) (slots + ks1) lsA Qf hc (by omega) (by omega) g2 g3 hl hr)
  rcases hlk with hlk | ⟨host, hlk⟩
  · exact va_runS ⟨hx, hbb, hml, hown, hts⟩ (hM l H.size) ⟨callB_of n hts (ev_good hcb.2.1) rfl rfl rfl (hts _ hcb.1) (hts _ hlk) hcb.2.2.1 hroom, hts _ hiv⟩ hPre rfl hn hl.1 rfl (lv_room hwt) hd ⟨by omega, by omega⟩
  · exact va_runSN ⟨hx, hbb, hml, hown, hts⟩ (hM l H.size) ⟨va_cnB n hts (ev_good hcb.2.1) rfl rfl rfl (hN.1 _ hlk) (hts _ hcb.1) hcb.2.2.1 hroom, hts _ hiv, trivial⟩ hPre rfl hn hl.1 rfl (lv_room hwt) hd ⟨by omega, by omega⟩
end EVC
def ev_qi (post : Int32 → ev_H → Prop) : Option Value → ev_H → Prop := fun r h => ∃ x : Int32, r = some (.int x) ∧ post x h
def ev_ql (post : Int64 → ev_H → Prop) : Option Value → ev_H → Prop := fun r h => ∃ x : Int64, r = some (.long x) ∧ post x h
def ev_qv (post : ev_H → Prop) : Option Value → ev_H → Prop := fun r h => r = none ∧ post h
def ev_qq (post : Option Nat → ev_H → Prop) : Option Value → ev_H → Prop := fun r h => ∃ x : Option Nat, r = some (va_rf x) ∧ post x h
section EVF
variable {G : ev_G} {M M' : ev_M} {d kc ks d' kc1 ks1 kc' ks' : Nat} {Q : Option Value → ev_H → Prop} {pc pc' ix : Nat} {ls : List (Option Value)} {st : List Value} {h : ev_H}
theorem ev_vi0 {b ci : Nat} {T : u_T} {N : Nat} {fs : List Value} {post : Int32 → ev_H → Prop} (hd : fe M pc (.invokevirtual ix) 3 pc') (hlk : ev_lk M.1.cls ix M') (hcb : ev_cb M' 0) (hiv : ev_iv M') (hM : Rn G M' d' kc1 ks1 (.ref b :: []) h (ev_qi post)) (hb : h b = some (.inr (ci, fs))) (hcl : ev_CL[ci]? = some (M'.1.cls, T, N)) (hdd : d' + 1 ≤ d) (hwt : (st.map fun v => v.category).sum ≤ 8) (hk : kc = kc' + kc1) (hs : ks = ks' + ks1) (kk : ∀ (x : Int32) (h' : ev_H), post x h' → Ev G M d kc' ks' Q pc' ls (.int x :: st) h') : Ev G M d kc ks Q pc ls (.ref b :: st) h :=
  ev_vcall hd hlk hcb hiv hM hb hcl rfl rfl hdd hwt hk hs (fun r h' hq => by obtain ⟨x, rfl, hp⟩ := hq; exact kk x h' hp)
theorem ev_ti0 {post : Int32 → ev_H → Prop} (hd : fe M pc (.invokestatic ix) 3 pc') (hlk : ev_lk M.1.cls ix M') (hcb : ev_cb M' 0) (hiv : Cond.static M'.1 ∈ ev_WS) (hM : Rn G M' d' kc1 ks1 [] h (ev_qi post)) (hdd : d' + 1 ≤ d) (hwt : (st.map fun v => v.category).sum ≤ 8) (hk : kc = kc' + kc1) (hs : ks = ks' + ks1) (kk : ∀ (x : Int32) (h' : ev_H), post x h' → Ev G M d kc' ks' Q pc' ls (.int x :: st) h') : Ev G M d kc ks Q pc ls (st) h :=
  ev_scall hd hlk hcb hiv hM rfl rfl hdd hwt hk hs (fun r h' hq => by obtain ⟨x, rfl, hp⟩ := hq; exact kk x h' hp)
theorem ev_vl0 {b ci : Nat} {T : u_T} {N : Nat} {fs : List Value} {post : Int64 → ev_H → Prop} (hd : fe M pc (.invokevirtual ix) 3 pc') (hlk : ev_lk M.1.cls ix M') (hcb : ev_cb M' 0) (hiv : ev_iv M') (hM : Rn G M' d' kc1 ks1 (.ref b :: []) h (ev_ql post)) (hb : h b = some (.inr (ci, fs))) (hcl : ev_CL[ci]? = some (M'.1.cls, T, N)) (hdd : d' + 1 ≤ d) (hwt : (st.map fun v => v.category).sum ≤ 8) (hk : kc = kc' + kc1) (hs : ks = ks' + ks1) (kk : ∀ (x : Int64) (h' : ev_H), post x h' → Ev G M d kc' ks' Q pc' ls (.long x :: st) h') : Ev G M d kc ks Q pc ls (.ref b :: st) h :=
  ev_vcall hd hlk hcb hiv hM hb hcl rfl rfl hdd hwt hk hs (fun r h' hq => by obtain ⟨x, rfl, hp⟩ := hq; exact kk x h' hp)
theorem ev_tl0 {post : Int64 → ev_H → Prop} (hd : fe M pc (.invokestatic ix) 3 pc') (hlk : ev_lk M.1.cls ix M') (hcb : ev_cb M' 0) (hiv : Cond.static M'.1 ∈ ev_WS) (hM : Rn G M' d' kc1 ks1 [] h (ev_ql post)) (hdd : d' + 1 ≤ d) (hwt : (st.map fun v => v.category).sum ≤ 8) (hk : kc = kc' + kc1) (hs : ks = ks' + ks1) (kk : ∀ (x : Int64) (h' : ev_H), post x h' → Ev G M d kc' ks' Q pc' ls (.long x :: st) h') : Ev G M d kc ks Q pc ls (st) h :=
  ev_scall hd hlk hcb hiv hM rfl rfl hdd hwt hk hs (fun r h' hq => by obtain ⟨x, rfl, hp⟩ := hq; exact kk x h' hp)
theorem ev_vv0 {b ci : Nat} {T : u_T} {N : Nat} {fs : List Value} {post : ev_H → Prop} (hd : fe M pc (.invokevirtual ix) 3 pc') (hlk : ev_lk M.1.cls ix M') (hcb : ev_cb M' 0) (hiv : ev_iv M') (hM : Rn G M' d' kc1 ks1 (.ref b :: []) h (ev_qv post)) (hb : h b = some (.inr (ci, fs))) (hcl : ev_CL[ci]? = some (M'.1.cls, T, N)) (hdd : d' + 1 ≤ d) (hwt : (st.map fun v => v.category).sum ≤ 8) (hk : kc = kc' + kc1) (hs : ks = ks' + ks1) (kk : ∀ (h' : ev_H), post h' → Ev G M d kc' ks' Q pc' ls (st) h') : Ev G M d kc ks Q pc ls (.ref b :: st) h :=
  ev_vcall hd hlk hcb hiv hM hb hcl rfl rfl hdd hwt hk hs (fun r h' hq => by obtain ⟨rfl, hp⟩ := hq; exact kk h' hp)
theorem ev_tv0 {post : ev_H → Prop} (hd : fe M pc (.invokestatic ix) 3 pc') (hlk : ev_lk M.1.cls ix M') (hcb : ev_cb M' 0) (hiv : Cond.static M'.1 ∈ ev_WS) (hM : Rn G M' d' kc1 ks1 [] h (ev_qv post)) (hdd : d' + 1 ≤ d) (hwt : (st.map fun v => v.category).sum ≤ 8) (hk : kc = kc' + kc1) (hs : ks = ks' + ks1) (kk : ∀ (h' : ev_H), post h' → Ev G M d kc' ks' Q pc' ls (st) h') : Ev G M d kc ks Q pc ls (st) h :=
  ev_scall hd hlk hcb hiv hM rfl rfl hdd hwt hk hs (fun r h' hq => by obtain ⟨rfl, hp⟩ := hq; exact kk h' hp)
theorem ev_sv0 {b : Nat} {post : ev_H → Prop} (hd : fe M pc (.invokespecial ix) 3 pc') (hlk : ev_lk M.1.cls ix M') (hcb : ev_cb M' 0) (hiv : Cond.instanceMethod M'.1 ∈ ev_WS ∧ M'.1.name = "<init>" ∧ M'.2.2.2.1 = none) (hM : Rn G M' d' kc1 ks1 (.ref b :: []) h (ev_qv post)) (hdd : d' + 1 ≤ d) (hwt : (st.map fun v => v.category).sum ≤ 8) (hk : kc = kc' + kc1) (hs : ks = ks' + ks1) (kk : ∀ (h' : ev_H), post h' → Ev G M d kc' ks' Q pc' ls (st) h') : Ev G M d kc ks Q pc ls (.ref b :: st) h :=
  ev_icall hd hlk hcb hiv hM rfl rfl hdd hwt hk hs (fun r h' hq => by obtain ⟨rfl, hp⟩ := hq; exact kk h' hp)
theorem ev_vq0 {b ci : Nat} {T : u_T} {N : Nat} {fs : List Value} {post : Option Nat → ev_H → Prop} (hd : fe M pc (.invokevirtual ix) 3 pc') (hlk : ev_lk M.1.cls ix M') (hcb : ev_cb M' 0) (hiv : ev_iv M') (hM : Rn G M' d' kc1 ks1 (.ref b :: []) h (ev_qq post)) (hb : h b = some (.inr (ci, fs))) (hcl : ev_CL[ci]? = some (M'.1.cls, T, N)) (hdd : d' + 1 ≤ d) (hwt : (st.map fun v => v.category).sum ≤ 8) (hk : kc = kc' + kc1) (hs : ks = ks' + ks1) (kk : ∀ (x : Option Nat) (h' : ev_H), post x h' → Ev G M d kc' ks' Q pc' ls (va_rf x :: st) h') : Ev G M d kc ks Q pc ls (.ref b :: st) h :=
  ev_vcall hd hlk hcb hiv hM hb hcl rfl rfl hdd hwt hk hs (fun r h' hq => by obtain ⟨x, rfl, hp⟩ := hq; exact kk x h' hp)
theorem ev_tq0 {post : Option Nat → ev_H → Prop} (hd : fe M pc (.invokestatic ix) 3 pc') (hlk : ev_lk M.1.cls ix M') (hcb : ev_cb M' 0) (hiv : Cond.static M'.1 ∈ ev_WS) (hM : Rn G M' d' kc1 ks1 [] h (ev_qq post)) (hdd : d' + 1 ≤ d) (hwt : (st.map fun v => v.category).sum ≤ 8) (hk : kc = kc' + kc1) (hs : ks = ks' + ks1) (kk : ∀ (x : Option Nat) (h' : ev_H), post x h' → Ev G M d kc' ks' Q pc' ls (va_rf x :: st) h') : Ev G M d kc ks Q pc ls (st) h :=
  ev_scall hd hlk hcb hiv hM rfl rfl hdd hwt hk hs (fun r h' hq => by obtain ⟨x, rfl, hp⟩ := hq; exact kk x h' hp)
theorem ev_vi1 {b ci : Nat} {T : u_T} {N : Nat} {fs : List Value} {v1 : Value} {post : Int32 → ev_H → Prop} (hd : fe M pc (.invokevirtual ix) 3 pc') (hlk : ev_lk M.1.cls ix M') (hcb : ev_cb M' 1) (hiv : ev_iv M') (hM : Rn G M' d' kc1 ks1 (.ref b :: [v1]) h (ev_qi post)) (hb : h b = some (.inr (ci, fs))) (hcl : ev_CL[ci]? = some (M'.1.cls, T, N)) (hdd : d' + 1 ≤ d) (hwt : (st.map fun v => v.category).sum ≤ 8) (hk : kc = kc' + kc1) (hs : ks = ks' + ks1) (kk : ∀ (x : Int32) (h' : ev_H), post x h' → Ev G M d kc' ks' Q pc' ls (.int x :: st) h') : Ev G M d kc ks Q pc ls (v1 :: .ref b :: st) h :=
  ev_vcall hd hlk hcb hiv hM hb hcl rfl rfl hdd hwt hk hs (fun r h' hq => by obtain ⟨x, rfl, hp⟩ := hq; exact kk x h' hp)
theorem ev_ti1 {v1 : Value} {post : Int32 → ev_H → Prop} (hd : fe M pc (.invokestatic ix) 3 pc') (hlk : ev_lk M.1.cls ix M') (hcb : ev_cb M' 1) (hiv : Cond.static M'.1 ∈ ev_WS) (hM : Rn G M' d' kc1 ks1 [v1] h (ev_qi post)) (hdd : d' + 1 ≤ d) (hwt : (st.map fun v => v.category).sum ≤ 8) (hk : kc = kc' + kc1) (hs : ks = ks' + ks1) (kk : ∀ (x : Int32) (h' : ev_H), post x h' → Ev G M d kc' ks' Q pc' ls (.int x :: st) h') : Ev G M d kc ks Q pc ls (v1 :: st) h :=
  ev_scall hd hlk hcb hiv hM rfl rfl hdd hwt hk hs (fun r h' hq => by obtain ⟨x, rfl, hp⟩ := hq; exact kk x h' hp)
theorem ev_vl1 {b ci : Nat} {T : u_T} {N : Nat} {fs : List Value} {v1 : Value} {post : Int64 → ev_H → Prop} (hd : fe M pc (.invokevirtual ix) 3 pc') (hlk : ev_lk M.1.cls ix M') (hcb : ev_cb M' 1) (hiv : ev_iv M') (hM : Rn G M' d' kc1 ks1 (.ref b :: [v1]) h (ev_ql post)) (hb : h b = some (.inr (ci, fs))) (hcl : ev_CL[ci]? = some (M'.1.cls, T, N)) (hdd : d' + 1 ≤ d) (hwt : (st.map fun v => v.category).sum ≤ 8) (hk : kc = kc' + kc1) (hs : ks = ks' + ks1) (kk : ∀ (x : Int64) (h' : ev_H), post x h' → Ev G M d kc' ks' Q pc' ls (.long x :: st) h') : Ev G M d kc ks Q pc ls (v1 :: .ref b :: st) h :=
  ev_vcall hd hlk hcb hiv hM hb hcl rfl rfl hdd hwt hk hs (fun r h' hq => by obtain ⟨x, rfl, hp⟩ := hq; exact kk x h' hp)
theorem ev_tl1 {v1 : Value} {post : Int64 → ev_H → Prop} (hd : fe M pc (.invokestatic ix) 3 pc') (hlk : ev_lk M.1.cls ix M') (hcb : ev_cb M' 1) (hiv : Cond.static M'.1 ∈ ev_WS) (hM : Rn G M' d' kc1 ks1 [v1] h (ev_ql post)) (hdd : d' + 1 ≤ d) (hwt : (st.map fun v => v.category).sum ≤ 8) (hk : kc = kc' + kc1) (hs : ks = ks' + ks1) (kk : ∀ (x : Int64) (h' : ev_H), post x h' → Ev G M d kc' ks' Q pc' ls (.long x :: st) h') : Ev G M d kc ks Q pc ls (v1 :: st) h :=
  ev_scall hd hlk hcb hiv hM rfl rfl hdd hwt hk hs (fun r h' hq => by obtain ⟨x, rfl, hp⟩ := hq; exact kk x h' hp)
theorem ev_vv1 {b ci : Nat} {T : u_T} {N : Nat} {fs : List Value} {v1 : Value} {post : ev_H → Prop} (hd : fe M pc (.invokevirtual ix) 3 pc') (hlk : ev_lk M.1.cls ix M') (hcb : ev_cb M' 1) (hiv : ev_iv M') (hM : Rn G M' d' kc1 ks1 (.ref b :: [v1]) h (ev_qv post)) (hb : h b = some (.inr (ci, fs))) (hcl : ev_CL[ci]? = some (M'.1.cls, T, N)) (hdd : d' + 1 ≤ d) (hwt : (st.map fun v => v.category).sum ≤ 8) (hk : kc = kc' + kc1) (hs : ks = ks' + ks1) (kk : ∀ (h' : ev_H), post h' → Ev G M d kc' ks' Q pc' ls (st) h') : Ev G M d kc ks Q pc ls (v1 :: .ref b :: st) h :=
  ev_vcall hd hlk hcb hiv hM hb hcl rfl rfl hdd hwt hk hs (fun r h' hq => by obtain ⟨rfl, hp⟩ := hq; exact kk h' hp)
theorem ev_tv1 {v1 : Value} {post : ev_H → Prop} (hd : fe M pc (.invokestatic ix) 3 pc') (hlk : ev_lk M.1.cls ix M') (hcb : ev_cb M' 1) (hiv : Cond.static M'.1 ∈ ev_WS) (hM : Rn G M' d' kc1 ks1 [v1] h (ev_qv post)) (hdd : d' + 1 ≤ d) (hwt : (st.map fun v => v.category).sum ≤ 8) (hk : kc = kc' + kc1) (hs : ks = ks' + ks1) (kk : ∀ (h' : ev_H), post h' → Ev G M d kc' ks' Q pc' ls (st) h') : Ev G M d kc ks Q pc ls (v1 :: st) h :=
  ev_scall hd hlk hcb hiv hM rfl rfl hdd hwt hk hs (fun r h' hq => by obtain ⟨rfl, hp⟩ := hq; exact kk h' hp)
theorem ev_sv1 {b : Nat} {v1 : Value} {post : ev_H → Prop} (hd : fe M pc (.invokespecial ix) 3 pc') (hlk : ev_lk M.1.cls ix M') (hcb : ev_cb M' 1) (hiv : Cond.instanceMethod M'.1 ∈ ev_WS ∧ M'.1.name = "<init>" ∧ M'.2.2.2.1 = none) (hM : Rn G M' d' kc1 ks1 (.ref b :: [v1]) h (ev_qv post)) (hdd : d' + 1 ≤ d) (hwt : (st.map fun v => v.category).sum ≤ 8) (hk : kc = kc' + kc1) (hs : ks = ks' + ks1) (kk : ∀ (h' : ev_H), post h' → Ev G M d kc' ks' Q pc' ls (st) h') : Ev G M d kc ks Q pc ls (v1 :: .ref b :: st) h :=
  ev_icall hd hlk hcb hiv hM rfl rfl hdd hwt hk hs (fun r h' hq => by obtain ⟨rfl, hp⟩ := hq; exact kk h' hp)
theorem ev_vq1 {b ci : Nat} {T : u_T} {N : Nat} {fs : List Value} {v1 : Value} {post : Option Nat → ev_H → Prop} (hd : fe M pc (.invokevirtual ix) 3 pc') (hlk : ev_lk M.1.cls ix M') (hcb : ev_cb M' 1) (hiv : ev_iv M') (hM : Rn G M' d' kc1 ks1 (.ref b :: [v1]) h (ev_qq post)) (hb : h b = some (.inr (ci, fs))) (hcl : ev_CL[ci]? = some (M'.1.cls, T, N)) (hdd : d' + 1 ≤ d) (hwt : (st.map fun v => v.category).sum ≤ 8) (hk : kc = kc' + kc1) (hs : ks = ks' + ks1) (kk : ∀ (x : Option Nat) (h' : ev_H), post x h' → Ev G M d kc' ks' Q pc' ls (va_rf x :: st) h') : Ev G M d kc ks Q pc ls (v1 :: .ref b :: st) h :=
  ev_vcall hd hlk hcb hiv hM hb hcl rfl rfl hdd hwt hk hs (fun r h' hq => by obtain ⟨x, rfl, hp⟩ := hq; exact kk x h' hp)
theorem ev_tq1 {v1 : Value} {post : Option Nat → ev_H → Prop} (hd : fe M pc (.invokestatic ix) 3 pc') (hlk : ev_lk M.1.cls ix M') (hcb : ev_cb M' 1) (hiv : Cond.static M'.1 ∈ ev_WS) (hM : Rn G M' d' kc1 ks1 [v1] h (ev_qq post)) (hdd : d' + 1 ≤ d) (hwt : (st.map fun v => v.category).sum ≤ 8) (hk : kc = kc' + kc1) (hs : ks = ks' + ks1) (kk : ∀ (x : Option Nat) (h' : ev_H), post x h' → Ev G M d kc' ks' Q pc' ls (va_rf x :: st) h') : Ev G M d kc ks Q pc ls (v1 :: st) h :=
  ev_scall hd hlk hcb hiv hM rfl rfl hdd hwt hk hs (fun r h' hq => by obtain ⟨x, rfl, hp⟩ := hq; exact kk x h' hp)
theorem ev_vi2 {b ci : Nat} {T : u_T} {N : Nat} {fs : List Value} {v1 v2 : Value} {post : Int32 → ev_H → Prop} (hd : fe M pc (.invokevirtual ix) 3 pc') (hlk : ev_lk M.1.cls ix M') (hcb : ev_cb M' 2) (hiv : ev_iv M') (hM : Rn G M' d' kc1 ks1 (.ref b :: [v1, v2]) h (ev_qi post)) (hb : h b = some (.inr (ci, fs))) (hcl : ev_CL[ci]? = some (M'.1.cls, T, N)) (hdd : d' + 1 ≤ d) (hwt : (st.map fun v => v.category).sum ≤ 8) (hk : kc = kc' + kc1) (hs : ks = ks' + ks1) (kk : ∀ (x : Int32) (h' : ev_H), post x h' → Ev G M d kc' ks' Q pc' ls (.int x :: st) h') : Ev G M d kc ks Q pc ls (v2 :: v1 :: .ref b :: st) h :=
  ev_vcall hd hlk hcb hiv hM hb hcl rfl rfl hdd hwt hk hs (fun r h' hq => by obtain ⟨x, rfl, hp⟩ := hq; exact kk x h' hp)
theorem ev_ti2 {v1 v2 : Value} {post : Int32 → ev_H → Prop} (hd : fe M pc (.invokestatic ix) 3 pc') (hlk : ev_lk M.1.cls ix M') (hcb : ev_cb M' 2) (hiv : Cond.static M'.1 ∈ ev_WS) (hM : Rn G M' d' kc1 ks1 [v1, v2] h (ev_qi post)) (hdd : d' + 1 ≤ d) (hwt : (st.map fun v => v.category).sum ≤ 8) (hk : kc = kc' + kc1) (hs : ks = ks' + ks1) (kk : ∀ (x : Int32) (h' : ev_H), post x h' → Ev G M d kc' ks' Q pc' ls (.int x :: st) h') : Ev G M d kc ks Q pc ls (v2 :: v1 :: st) h :=
  ev_scall hd hlk hcb hiv hM rfl rfl hdd hwt hk hs (fun r h' hq => by obtain ⟨x, rfl, hp⟩ := hq; exact kk x h' hp)
theorem ev_vl2 {b ci : Nat} {T : u_T} {N : Nat} {fs : List Value} {v1 v2 : Value} {post : Int64 → ev_H → Prop} (hd : fe M pc (.invokevirtual ix) 3 pc') (hlk : ev_lk M.1.cls ix M') (hcb : ev_cb M' 2) (hiv : ev_iv M') (hM : Rn G M' d' kc1 ks1 (.ref b :: [v1, v2]) h (ev_ql post)) (hb : h b = some (.inr (ci, fs))) (hcl : ev_CL[ci]? = some (M'.1.cls, T, N)) (hdd : d' + 1 ≤ d) (hwt : (st.map fun v => v.category).sum ≤ 8) (hk : kc = kc' + kc1) (hs : ks = ks' + ks1) (kk : ∀ (x : Int64) (h' : ev_H), post x h' → Ev G M d kc' ks' Q pc' ls (.long x :: st) h') : Ev G M d kc ks Q pc ls (v2 :: v1 :: .ref b :: st) h :=
  ev_vcall hd hlk hcb hiv hM hb hcl rfl rfl hdd hwt hk hs (fun r h' hq => by obtain ⟨x, rfl, hp⟩ := hq; exact kk x h' hp)
theorem ev_tl2 {v1 v2 : Value} {post : Int64 → ev_H → Prop} (hd : fe M pc (.invokestatic ix) 3 pc') (hlk : ev_lk M.1.cls ix M') (hcb : ev_cb M' 2) (hiv : Cond.static M'.1 ∈ ev_WS) (hM : Rn G M' d' kc1 ks1 [v1, v2] h (ev_ql post)) (hdd : d' + 1 ≤ d) (hwt : (st.map fun v => v.category).sum ≤ 8) (hk : kc = kc' + kc1) (hs : ks = ks' + ks1) (kk : ∀ (x : Int64) (h' : ev_H), post x h' → Ev G M d kc' ks' Q pc' ls (.long x :: st) h') : Ev G M d kc ks Q pc ls (v2 :: v1 :: st) h :=
  ev_scall hd hlk hcb hiv hM rfl rfl hdd hwt hk hs (fun r h' hq => by obtain ⟨x, rfl, hp⟩ := hq; exact kk x h' hp)
theorem ev_vv2 {b ci : Nat} {T : u_T} {N : Nat} {fs : List Value} {v1 v2 : Value} {post : ev_H → Prop} (hd : fe M pc (.invokevirtual ix) 3 pc') (hlk : ev_lk M.1.cls ix M') (hcb : ev_cb M' 2) (hiv : ev_iv M') (hM : Rn G M' d' kc1 ks1 (.ref b :: [v1, v2]) h (ev_qv post)) (hb : h b = some (.inr (ci, fs))) (hcl : ev_CL[ci]? = some (M'.1.cls, T, N)) (hdd : d' + 1 ≤ d) (hwt : (st.map fun v => v.category).sum ≤ 8) (hk : kc = kc' + kc1) (hs : ks = ks' + ks1) (kk : ∀ (h' : ev_H), post h' → Ev G M d kc' ks' Q pc' ls (st) h') : Ev G M d kc ks Q pc ls (v2 :: v1 :: .ref b :: st) h :=
  ev_vcall hd hlk hcb hiv hM hb hcl rfl rfl hdd hwt hk hs (fun r h' hq => by obtain ⟨rfl, hp⟩ := hq; exact kk h' hp)
theorem ev_tv2 {v1 v2 : Value} {post : ev_H → Prop} (hd : fe M pc (.invokestatic ix) 3 pc') (hlk : ev_lk M.1.cls ix M') (hcb : ev_cb M' 2) (hiv : Cond.static M'.1 ∈ ev_WS) (hM : Rn G M' d' kc1 ks1 [v1, v2] h (ev_qv post)) (hdd : d' + 1 ≤ d) (hwt : (st.map fun v => v.category).sum ≤ 8) (hk : kc = kc' + kc1) (hs : ks = ks' + ks1) (kk : ∀ (h' : ev_H), post h' → Ev G M d kc' ks' Q pc' ls (st) h') : Ev G M d kc ks Q pc ls (v2 :: v1 :: st) h :=
  ev_scall hd hlk hcb hiv hM rfl rfl hdd hwt hk hs (fun r h' hq => by obtain ⟨rfl, hp⟩ := hq; exact kk h' hp)
theorem ev_sv2 {b : Nat} {v1 v2 : Value} {post : ev_H → Prop} (hd : fe M pc (.invokespecial ix) 3 pc') (hlk : ev_lk M.1.cls ix M') (hcb : ev_cb M' 2) (hiv : Cond.instanceMethod M'.1 ∈ ev_WS ∧ M'.1.name = "<init>" ∧ M'.2.2.2.1 = none) (hM : Rn G M' d' kc1 ks1 (.ref b :: [v1, v2]) h (ev_qv post)) (hdd : d' + 1 ≤ d) (hwt : (st.map fun v => v.category).sum ≤ 8) (hk : kc = kc' + kc1) (hs : ks = ks' + ks1) (kk : ∀ (h' : ev_H), post h' → Ev G M d kc' ks' Q pc' ls (st) h') : Ev G M d kc ks Q pc ls (v2 :: v1 :: .ref b :: st) h :=
  ev_icall hd hlk hcb hiv hM rfl rfl hdd hwt hk hs (fun r h' hq => by obtain ⟨rfl, hp⟩ := hq; exact kk h' hp)
theorem ev_vq2 {b ci : Nat} {T : u_T} {N : Nat} {fs : List Value} {v1 v2 : Value} {post : Option Nat → ev_H → Prop} (hd : fe M pc (.invokevirtual ix) 3 pc') (hlk : ev_lk M.1.cls ix M') (hcb : ev_cb M' 2) (hiv : ev_iv M') (hM : Rn G M' d' kc1 ks1 (.ref b :: [v1, v2]) h (ev_qq post)) (hb : h b = some (.inr (ci, fs))) (hcl : ev_CL[ci]? = some (M'.1.cls, T, N)) (hdd : d' + 1 ≤ d) (hwt : (st.map fun v => v.category).sum ≤ 8) (hk : kc = kc' + kc1) (hs : ks = ks' + ks1) (kk : ∀ (x : Option Nat) (h' : ev_H), post x h' → Ev G M d kc' ks' Q pc' ls (va_rf x :: st) h') : Ev G M d kc ks Q pc ls (v2 :: v1 :: .ref b :: st) h :=
  ev_vcall hd hlk hcb hiv hM hb hcl rfl rfl hdd hwt hk hs (fun r h' hq => by obtain ⟨x, rfl, hp⟩ := hq; exact kk x h' hp)
theorem ev_tq2 {v1 v2 : Value} {post : Option Nat → ev_H → Prop} (hd : fe M pc (.invokestatic ix) 3 pc') (hlk : ev_lk M.1.cls ix M') (hcb : ev_cb M' 2) (hiv : Cond.static M'.1 ∈ ev_WS) (hM : Rn G M' d' kc1 ks1 [v1, v2] h (ev_qq post)) (hdd : d' + 1 ≤ d) (hwt : (st.map fun v => v.category).sum ≤ 8) (hk : kc = kc' + kc1) (hs : ks = ks' + ks1) (kk : ∀ (x : Option Nat) (h' : ev_H), post x h' → Ev G M d kc' ks' Q pc' ls (va_rf x :: st) h') : Ev G M d kc ks Q pc ls (v2 :: v1 :: st) h :=
  ev_scall hd hlk hcb hiv hM rfl rfl hdd hwt hk hs (fun r h' hq => by obtain ⟨x, rfl, hp⟩ := hq; exact kk x h' hp)
theorem ev_vi3 {b ci : Nat} {T : u_T} {N : Nat} {fs : List Value} {v1 v2 v3 : Value} {post : Int32 → ev_H → Prop} (hd : fe M pc (.invokevirtual ix) 3 pc') (hlk : ev_lk M.1.cls ix M') (hcb : ev_cb M' 3) (hiv : ev_iv M') (hM : Rn G M' d' kc1 ks1 (.ref b :: [v1, v2, v3]) h (ev_qi post)) (hb : h b = some (.inr (ci, fs))) (hcl : ev_CL[ci]? = some (M'.1.cls, T, N)) (hdd : d' + 1 ≤ d) (hwt : (st.map fun v => v.category).sum ≤ 8) (hk : kc = kc' + kc1) (hs : ks = ks' + ks1) (kk : ∀ (x : Int32) (h' : ev_H), post x h' → Ev G M d kc' ks' Q pc' ls (.int x :: st) h') : Ev G M d kc ks Q pc ls (v3 :: v2 :: v1 :: .ref b :: st) h :=
  ev_vcall hd hlk hcb hiv hM hb hcl rfl rfl hdd hwt hk hs (fun r h' hq => by obtain ⟨x, rfl, hp⟩ := hq; exact kk x h' hp)
theorem ev_ti3 {v1 v2 v3 : Value} {post : Int32 → ev_H → Prop} (hd : fe M pc (.invokestatic ix) 3 pc') (hlk : ev_lk M.1.cls ix M') (hcb : ev_cb M' 3) (hiv : Cond.static M'.1 ∈ ev_WS) (hM : Rn G M' d' kc1 ks1 [v1, v2, v3] h (ev_qi post)) (hdd : d' + 1 ≤ d) (hwt : (st.map fun v => v.category).sum ≤ 8) (hk : kc = kc' + kc1) (hs : ks = ks' + ks1) (kk : ∀ (x : Int32) (h' : ev_H), post x h' → Ev G M d kc' ks' Q pc' ls (.int x :: st) h') : Ev G M d kc ks Q pc ls (v3 :: v2 :: v1 :: st) h :=
  ev_scall hd hlk hcb hiv hM rfl rfl hdd hwt hk hs (fun r h' hq => by obtain ⟨x, rfl, hp⟩ := hq; exact kk x h' hp)
theorem ev_vl3 {b ci : Nat} {T : u_T} {N : Nat} {fs : List Value} {v1 v2 v3 : Value} {post : Int64 → ev_H → Prop} (hd : fe M pc (.invokevirtual ix) 3 pc') (hlk : ev_lk M.1.cls ix M') (hcb : ev_cb M' 3) (hiv : ev_iv M') (hM : Rn G M' d' kc1 ks1 (.ref b :: [v1, v2, v3]) h (ev_ql post)) (hb : h b = some (.inr (ci, fs))) (hcl : ev_CL[ci]? = some (M'.1.cls, T, N)) (hdd : d' + 1 ≤ d) (hwt : (st.map fun v => v.category).sum ≤ 8) (hk : kc = kc' + kc1) (hs : ks = ks' + ks1) (kk : ∀ (x : Int64) (h' : ev_H), post x h' → Ev G M d kc' ks' Q pc' ls (.long x :: st) h') : Ev G M d kc ks Q pc ls (v3 :: v2 :: v1 :: .ref b :: st) h :=
  ev_vcall hd hlk hcb hiv hM hb hcl rfl rfl hdd hwt hk hs (fun r h' hq => by obtain ⟨x, rfl, hp⟩ := hq; exact kk x h' hp)
theorem ev_tl3 {v1 v2 v3 : Value} {post : Int64 → ev_H → Prop} (hd : fe M pc (.invokestatic ix) 3 pc') (hlk : ev_lk M.1.cls ix M') (hcb : ev_cb M' 3) (hiv : Cond.static M'.1 ∈ ev_WS) (hM : Rn G M' d' kc1 ks1 [v1, v2, v3] h (ev_ql post)) (hdd : d' + 1 ≤ d) (hwt : (st.map fun v => v.category).sum ≤ 8) (hk : kc = kc' + kc1) (hs : ks = ks' + ks1) (kk : ∀ (x : Int64) (h' : ev_H), post x h' → Ev G M d kc' ks' Q pc' ls (.long x :: st) h') : Ev G M d kc ks Q pc ls (v3 :: v2 :: v1 :: st) h :=
  ev_scall hd hlk hcb hiv hM rfl rfl hdd hwt hk hs (fun r h' hq => by obtain ⟨x, rfl, hp⟩ := hq; exact kk x h' hp)
theorem ev_vv3 {b ci : Nat} {T : u_T} {N : Nat} {fs : List Value} {v1 v2 v3 : Value} {post : ev_H → Prop} (hd : fe M pc (.invokevirtual ix) 3 pc') (hlk : ev_lk M.1.cls ix M') (hcb : ev_cb M' 3) (hiv : ev_iv M') (hM : Rn G M' d' kc1 ks1 (.ref b :: [v1, v2, v3]) h (ev_qv post)) (hb : h b = some (.inr (ci, fs))) (hcl : ev_CL[ci]? = some (M'.1.cls, T, N)) (hdd : d' + 1 ≤ d) (hwt : (st.map fun v => v.category).sum ≤ 8) (hk : kc = kc' + kc1) (hs : ks = ks' + ks1) (kk : ∀ (h' : ev_H), post h' → Ev G M d kc' ks' Q pc' ls (st) h') : Ev G M d kc ks Q pc ls (v3 :: v2 :: v1 :: .ref b :: st) h :=
  ev_vcall hd hlk hcb hiv hM hb hcl rfl rfl hdd hwt hk hs (fun r h' hq => by obtain ⟨rfl, hp⟩ := hq; exact kk h' hp)
theorem ev_tv3 {v1 v2 v3 : Value} {post : ev_H → Prop} (hd : fe M pc (.invokestatic ix) 3 pc') (hlk : ev_lk M.1.cls ix M') (hcb : ev_cb M' 3) (hiv : Cond.static M'.1 ∈ ev_WS) (hM : Rn G M' d' kc1 ks1 [v1, v2, v3] h (ev_qv post)) (hdd : d' + 1 ≤ d) (hwt : (st.map fun v => v.category).sum ≤ 8) (hk : kc = kc' + kc1) (hs : ks = ks' + ks1) (kk : ∀ (h' : ev_H), post h' → Ev G M d kc' ks' Q pc' ls (st) h') : Ev G M d kc ks Q pc ls (v3 :: v2 :: v1 :: st) h :=
  ev_scall hd hlk hcb hiv hM rfl rfl hdd hwt hk hs (fun r h' hq => by obtain ⟨rfl, hp⟩ := hq; exact kk h' hp)
theorem ev_sv3 {b : Nat} {v1 v2 v3 : Value} {post : ev_H → Prop} (hd : fe M pc (.invokespecial ix) 3 pc') (hlk : ev_lk M.1.cls ix M') (hcb : ev_cb M' 3) (hiv : Cond.instanceMethod M'.1 ∈ ev_WS ∧ M'.1.name = "<init>" ∧ M'.2.2.2.1 = none) (hM : Rn G M' d' kc1 ks1 (.ref b :: [v1, v2, v3]) h (ev_qv post)) (hdd : d' + 1 ≤ d) (hwt : (st.map fun v => v.category).sum ≤ 8) (hk : kc = kc' + kc1) (hs : ks = ks' + ks1) (kk : ∀ (h' : ev_H), post h' → Ev G M d kc' ks' Q pc' ls (st) h') : Ev G M d kc ks Q pc ls (v3 :: v2 :: v1 :: .ref b :: st) h :=
  ev_icall hd hlk hcb hiv hM rfl rfl hdd hwt hk hs (fun r h' hq => by obtain ⟨rfl, hp⟩ := hq; exact kk h' hp)
theorem ev_vq3 {b ci : Nat} {T : u_T} {N : Nat} {fs : List Value} {v1 v2 v3 : Value} {post : Option Nat → ev_H → Prop} (hd : fe M pc (.invokevirtual ix) 3 pc') (hlk : ev_lk M.1.cls ix M') (hcb : ev_cb M' 3) (hiv : ev_iv M') (hM : Rn G M' d' kc1 ks1 (.ref b :: [v1, v2, v3]) h (ev_qq post)) (hb : h b = some (.inr (ci, fs))) (hcl : ev_CL[ci]? = some (M'.1.cls, T, N)) (hdd : d' + 1 ≤ d) (hwt : (st.map fun v => v.category).sum ≤ 8) (hk : kc = kc' + kc1) (hs : ks = ks' + ks1) (kk : ∀ (x : Option Nat) (h' : ev_H), post x h' → Ev G M d kc' ks' Q pc' ls (va_rf x :: st) h') : Ev G M d kc ks Q pc ls (v3 :: v2 :: v1 :: .ref b :: st) h :=
  ev_vcall hd hlk hcb hiv hM hb hcl rfl rfl hdd hwt hk hs (fun r h' hq => by obtain ⟨x, rfl, hp⟩ := hq; exact kk x h' hp)
theorem ev_tq3 {v1 v2 v3 : Value} {post : Option Nat → ev_H → Prop} (hd : fe M pc (.invokestatic ix) 3 pc') (hlk : ev_lk M.1.cls ix M') (hcb : ev_cb M' 3) (hiv : Cond.static M'.1 ∈ ev_WS) (hM : Rn G M' d' kc1 ks1 [v1, v2, v3] h (ev_qq post)) (hdd : d' + 1 ≤ d) (hwt : (st.map fun v => v.category).sum ≤ 8) (hk : kc = kc' + kc1) (hs : ks = ks' + ks1) (kk : ∀ (x : Option Nat) (h' : ev_H), post x h' → Ev G M d kc' ks' Q pc' ls (va_rf x :: st) h') : Ev G M d kc ks Q pc ls (v3 :: v2 :: v1 :: st) h :=
  ev_scall hd hlk hcb hiv hM rfl rfl hdd hwt hk hs (fun r h' hq => by obtain ⟨x, rfl, hp⟩ := hq; exact kk x h' hp)
theorem ev_vi4 {b ci : Nat} {T : u_T} {N : Nat} {fs : List Value} {v1 v2 v3 v4 : Value} {post : Int32 → ev_H → Prop} (hd : fe M pc (.invokevirtual ix) 3 pc') (hlk : ev_lk M.1.cls ix M') (hcb : ev_cb M' 4) (hiv : ev_iv M') (hM : Rn G M' d' kc1 ks1 (.ref b :: [v1, v2, v3, v4]) h (ev_qi post)) (hb : h b = some (.inr (ci, fs))) (hcl : ev_CL[ci]? = some (M'.1.cls, T, N)) (hdd : d' + 1 ≤ d) (hwt : (st.map fun v => v.category).sum ≤ 8) (hk : kc = kc' + kc1) (hs : ks = ks' + ks1) (kk : ∀ (x : Int32) (h' : ev_H), post x h' → Ev G M d kc' ks' Q pc' ls (.int x :: st) h') : Ev G M d kc ks Q pc ls (v4 :: v3 :: v2 :: v1 :: .ref b :: st) h :=
  ev_vcall hd hlk hcb hiv hM hb hcl rfl rfl hdd hwt hk hs (fun r h' hq => by obtain ⟨x, rfl, hp⟩ := hq; exact kk x h' hp)
theorem ev_ti4 {v1 v2 v3 v4 : Value} {post : Int32 → ev_H → Prop} (hd : fe M pc (.invokestatic ix) 3 pc') (hlk : ev_lk M.1.cls ix M') (hcb : ev_cb M' 4) (hiv : Cond.static M'.1 ∈ ev_WS) (hM : Rn G M' d' kc1 ks1 [v1, v2, v3, v4] h (ev_qi post)) (hdd : d' + 1 ≤ d) (hwt : (st.map fun v => v.category).sum ≤ 8) (hk : kc = kc' + kc1) (hs : ks = ks' + ks1) (kk : ∀ (x : Int32) (h' : ev_H), post x h' → Ev G M d kc' ks' Q pc' ls (.int x :: st) h') : Ev G M d kc ks Q pc ls (v4 :: v3 :: v2 :: v1 :: st) h :=
  ev_scall hd hlk hcb hiv hM rfl rfl hdd hwt hk hs (fun r h' hq => by obtain ⟨x, rfl, hp⟩ := hq; exact kk x h' hp)
theorem ev_vl4 {b ci : Nat} {T : u_T} {N : Nat} {fs : List Value} {v1 v2 v3 v4 : Value} {post : Int64 → ev_H → Prop} (hd : fe M pc (.invokevirtual ix) 3 pc') (hlk : ev_lk M.1.cls ix M') (hcb : ev_cb M' 4) (hiv : ev_iv M') (hM : Rn G M' d' kc1 ks1 (.ref b :: [v1, v2, v3, v4]) h (ev_ql post)) (hb : h b = some (.inr (ci, fs))) (hcl : ev_CL[ci]? = some (M'.1.cls, T, N)) (hdd : d' + 1 ≤ d) (hwt : (st.map fun v => v.category).sum ≤ 8) (hk : kc = kc' + kc1) (hs : ks = ks' + ks1) (kk : ∀ (x : Int64) (h' : ev_H), post x h' → Ev G M d kc' ks' Q pc' ls (.long x :: st) h') : Ev G M d kc ks Q pc ls (v4 :: v3 :: v2 :: v1 :: .ref b :: st) h :=
  ev_vcall hd hlk hcb hiv hM hb hcl rfl rfl hdd hwt hk hs (fun r h' hq => by obtain ⟨x, rfl, hp⟩ := hq; exact kk x h' hp)
theorem ev_tl4 {v1 v2 v3 v4 : Value} {post : Int64 → ev_H → Prop} (hd : fe M pc (.invokestatic ix) 3 pc') (hlk : ev_lk M.1.cls ix M') (hcb : ev_cb M' 4) (hiv : Cond.static M'.1 ∈ ev_WS) (hM : Rn G M' d' kc1 ks1 [v1, v2, v3, v4] h (ev_ql post)) (hdd : d' + 1 ≤ d) (hwt : (st.map fun v => v.category).sum ≤ 8) (hk : kc = kc' + kc1) (hs : ks = ks' + ks1) (kk : ∀ (x : Int64) (h' : ev_H), post x h' → Ev G M d kc' ks' Q pc' ls (.long x :: st) h') : Ev G M d kc ks Q pc ls (v4 :: v3 :: v2 :: v1 :: st) h :=
  ev_scall hd hlk hcb hiv hM rfl rfl hdd hwt hk hs (fun r h' hq => by obtain ⟨x, rfl, hp⟩ := hq; exact kk x h' hp)
theorem ev_vv4 {b ci : Nat} {T : u_T} {N : Nat} {fs : List Value} {v1 v2 v3 v4 : Value} {post : ev_H → Prop} (hd : fe M pc (.invokevirtual ix) 3 pc') (hlk : ev_lk M.1.cls ix M') (hcb : ev_cb M' 4) (hiv : ev_iv M') (hM : Rn G M' d' kc1 ks1 (.ref b :: [v1, v2, v3, v4]) h (ev_qv post)) (hb : h b = some (.inr (ci, fs))) (hcl : ev_CL[ci]? = some (M'.1.cls, T, N)) (hdd : d' + 1 ≤ d) (hwt : (st.map fun v => v.category).sum ≤ 8) (hk : kc = kc' + kc1) (hs : ks = ks' + ks1) (kk : ∀ (h' : ev_H), post h' → Ev G M d kc' ks' Q pc' ls (st) h') : Ev G M d kc ks Q pc ls (v4 :: v3 :: v2 :: v1 :: .ref b :: st) h :=
  ev_vcall hd hlk hcb hiv hM hb hcl rfl rfl hdd hwt hk hs (fun r h' hq => by obtain ⟨rfl, hp⟩ := hq; exact kk h' hp)
theorem ev_tv4 {v1 v2 v3 v4 : Value} {post : ev_H → Prop} (hd : fe M pc (.invokestatic ix) 3 pc') (hlk : ev_lk M.1.cls ix M') (hcb : ev_cb M' 4) (hiv : Cond.static M'.1 ∈ ev_WS) (hM : Rn G M' d' kc1 ks1 [v1, v2, v3, v4] h (ev_qv post)) (hdd : d' + 1 ≤ d) (hwt : (st.map fun v => v.category).sum ≤ 8) (hk : kc = kc' + kc1) (hs : ks = ks' + ks1) (kk : ∀ (h' : ev_H), post h' → Ev G M d kc' ks' Q pc' ls (st) h') : Ev G M d kc ks Q pc ls (v4 :: v3 :: v2 :: v1 :: st) h :=
  ev_scall hd hlk hcb hiv hM rfl rfl hdd hwt hk hs (fun r h' hq => by obtain ⟨rfl, hp⟩ := hq; exact kk h' hp)
theorem ev_sv4 {b : Nat} {v1 v2 v3 v4 : Value} {post : ev_H → Prop} (hd : fe M pc (.invokespecial ix) 3 pc') (hlk : ev_lk M.1.cls ix M') (hcb : ev_cb M' 4) (hiv : Cond.instanceMethod M'.1 ∈ ev_WS ∧ M'.1.name = "<init>" ∧ M'.2.2.2.1 = none) (hM : Rn G M' d' kc1 ks1 (.ref b :: [v1, v2, v3, v4]) h (ev_qv post)) (hdd : d' + 1 ≤ d) (hwt : (st.map fun v => v.category).sum ≤ 8) (hk : kc = kc' + kc1) (hs : ks = ks' + ks1) (kk : ∀ (h' : ev_H), post h' → Ev G M d kc' ks' Q pc' ls (st) h') : Ev G M d kc ks Q pc ls (v4 :: v3 :: v2 :: v1 :: .ref b :: st) h :=
  ev_icall hd hlk hcb hiv hM rfl rfl hdd hwt hk hs (fun r h' hq => by obtain ⟨rfl, hp⟩ := hq; exact kk h' hp)
theorem ev_vq4 {b ci : Nat} {T : u_T} {N : Nat} {fs : List Value} {v1 v2 v3 v4 : Value} {post : Option Nat → ev_H → Prop} (hd : fe M pc (.invokevirtual ix) 3 pc') (hlk : ev_lk M.1.cls ix M') (hcb : ev_cb M' 4) (hiv : ev_iv M') (hM : Rn G M' d' kc1 ks1 (.ref b :: [v1, v2, v3, v4]) h (ev_qq post)) (hb : h b = some (.inr (ci, fs))) (hcl : ev_CL[ci]? = some (M'.1.cls, T, N)) (hdd : d' + 1 ≤ d) (hwt : (st.map fun v => v.category).sum ≤ 8) (hk : kc = kc' + kc1) (hs : ks = ks' + ks1) (kk : ∀ (x : Option Nat) (h' : ev_H), post x h' → Ev G M d kc' ks' Q pc' ls (va_rf x :: st) h') : Ev G M d kc ks Q pc ls (v4 :: v3 :: v2 :: v1 :: .ref b :: st) h :=
  ev_vcall hd hlk hcb hiv hM hb hcl rfl rfl hdd hwt hk hs (fun r h' hq => by obtain ⟨x, rfl, hp⟩ := hq; exact kk x h' hp)
theorem ev_tq4 {v1 v2 v3 v4 : Value} {post : Option Nat → ev_H → Prop} (hd : fe M pc (.invokestatic ix) 3 pc') (hlk : ev_lk M.1.cls ix M') (hcb : ev_cb M' 4) (hiv : Cond.static M'.1 ∈ ev_WS) (hM : Rn G M' d' kc1 ks1 [v1, v2, v3, v4] h (ev_qq post)) (hdd : d' + 1 ≤ d) (hwt : (st.map fun v => v.category).sum ≤ 8) (hk : kc = kc' + kc1) (hs : ks = ks' + ks1) (kk : ∀ (x : Option Nat) (h' : ev_H), post x h' → Ev G M d kc' ks' Q pc' ls (va_rf x :: st) h') : Ev G M d kc ks Q pc ls (v4 :: v3 :: v2 :: v1 :: st) h :=
  ev_scall hd hlk hcb hiv hM rfl rfl hdd hwt hk hs (fun r h' hq => by obtain ⟨x, rfl, hp⟩ := hq; exact kk x h' hp)
theorem ev_vi5 {b ci : Nat} {T : u_T} {N : Nat} {fs : List Value} {v1 v2 v3 v4 v5 : Value} {post : Int32 → ev_H → Prop} (hd : fe M pc (.invokevirtual ix) 3 pc') (hlk : ev_lk M.1.cls ix M') (hcb : ev_cb M' 5) (hiv : ev_iv M') (hM : Rn G M' d' kc1 ks1 (.ref b :: [v1, v2, v3, v4, v5]) h (ev_qi post)) (hb : h b = some (.inr (ci, fs))) (hcl : ev_CL[ci]? = some (M'.1.cls, T, N)) (hdd : d' + 1 ≤ d) (hwt : (st.map fun v => v.category).sum ≤ 8) (hk : kc = kc' + kc1) (hs : ks = ks' + ks1) (kk : ∀ (x : Int32) (h' : ev_H), post x h' → Ev G M d kc' ks' Q pc' ls (.int x :: st) h') : Ev G M d kc ks Q pc ls (v5 :: v4 :: v3 :: v2 :: v1 :: .ref b :: st) h :=
  ev_vcall hd hlk hcb hiv hM hb hcl rfl rfl hdd hwt hk hs (fun r h' hq => by obtain ⟨x, rfl, hp⟩ := hq; exact kk x h' hp)
theorem ev_ti5 {v1 v2 v3 v4 v5 : Value} {post : Int32 → ev_H → Prop} (hd : fe M pc (.invokestatic ix) 3 pc') (hlk : ev_lk M.1.cls ix M') (hcb : ev_cb M' 5) (hiv : Cond.static M'.1 ∈ ev_WS) (hM : Rn G M' d' kc1 ks1 [v1, v2, v3, v4, v5] h (ev_qi post)) (hdd : d' + 1 ≤ d) (hwt : (st.map fun v => v.category).sum ≤ 8) (hk : kc = kc' + kc1) (hs : ks = ks' + ks1) (kk : ∀ (x : Int32) (h' : ev_H), post x h' → Ev G M d kc' ks' Q pc' ls (.int x :: st) h') : Ev G M d kc ks Q pc ls (v5 :: v4 :: v3 :: v2 :: v1 :: st) h :=
  ev_scall hd hlk hcb hiv hM rfl rfl hdd hwt hk hs (fun r h' hq => by obtain ⟨x, rfl, hp⟩ := hq; exact kk x h' hp)
theorem ev_vl5 {b ci : Nat} {T : u_T} {N : Nat} {fs : List Value} {v1 v2 v3 v4 v5 : Value} {post : Int64 → ev_H → Prop} (hd : fe M pc (.invokevirtual ix) 3 pc') (hlk : ev_lk M.1.cls ix M') (hcb : ev_cb M' 5) (hiv : ev_iv M') (hM : Rn G M' d' kc1 ks1 (.ref b :: [v1, v2, v3, v4, v5]) h (ev_ql post)) (hb : h b = some (.inr (ci, fs))) (hcl : ev_CL[ci]? = some (M'.1.cls, T, N)) (hdd : d' + 1 ≤ d) (hwt : (st.map fun v => v.category).sum ≤ 8) (hk : kc = kc' + kc1) (hs : ks = ks' + ks1) (kk : ∀ (x : Int64) (h' : ev_H), post x h' → Ev G M d kc' ks' Q pc' ls (.long x :: st) h') : Ev G M d kc ks Q pc ls (v5 :: v4 :: v3 :: v2 :: v1 :: .ref b :: st) h :=
  ev_vcall hd hlk hcb hiv hM hb hcl rfl rfl hdd hwt hk hs (fun r h' hq => by obtain ⟨x, rfl, hp⟩ := hq; exact kk x h' hp)
theorem ev_tl5 {v1 v2 v3 v4 v5 : Value} {post : Int64 → ev_H → Prop} (hd : fe M pc (.invokestatic ix) 3 pc') (hlk : ev_lk M.1.cls ix M') (hcb : ev_cb M' 5) (hiv : Cond.static M'.1 ∈ ev_WS) (hM : Rn G M' d' kc1 ks1 [v1, v2, v3, v4, v5] h (ev_ql post)) (hdd : d' + 1 ≤ d) (hwt : (st.map fun v => v.category).sum ≤ 8) (hk : kc = kc' + kc1) (hs : ks = ks' + ks1) (kk : ∀ (x : Int64) (h' : ev_H), post x h' → Ev G M d kc' ks' Q pc' ls (.long x :: st) h') : Ev G M d kc ks Q pc ls (v5 :: v4 :: v3 :: v2 :: v1 :: st) h :=
  ev_scall hd hlk hcb hiv hM rfl rfl hdd hwt hk hs (fun r h' hq => by obtain ⟨x, rfl, hp⟩ := hq; exact kk x h' hp)
theorem ev_vv5 {b ci : Nat} {T : u_T} {N : Nat} {fs : List Value} {v1 v2 v3 v4 v5 : Value} {post : ev_H → Prop} (hd : fe M pc (.invokevirtual ix) 3 pc') (hlk : ev_lk M.1.cls ix M') (hcb : ev_cb M' 5) (hiv : ev_iv M') (hM : Rn G M' d' kc1 ks1 (.ref b :: [v1, v2, v3, v4, v5]) h (ev_qv post)) (hb : h b = some (.inr (ci, fs))) (hcl : ev_CL[ci]? = some (M'.1.cls, T, N)) (hdd : d' + 1 ≤ d) (hwt : (st.map fun v => v.category).sum ≤ 8) (hk : kc = kc' + kc1) (hs : ks = ks' + ks1) (kk : ∀ (h' : ev_H), post h' → Ev G M d kc' ks' Q pc' ls (st) h') : Ev G M d kc ks Q pc ls (v5 :: v4 :: v3 :: v2 :: v1 :: .ref b :: st) h :=
  ev_vcall hd hlk hcb hiv hM hb hcl rfl rfl hdd hwt hk hs (fun r h' hq => by obtain ⟨rfl, hp⟩ := hq; exact kk h' hp)
theorem ev_tv5 {v1 v2 v3 v4 v5 : Value} {post : ev_H → Prop} (hd : fe M pc (.invokestatic ix) 3 pc') (hlk : ev_lk M.1.cls ix M') (hcb : ev_cb M' 5) (hiv : Cond.static M'.1 ∈ ev_WS) (hM : Rn G M' d' kc1 ks1 [v1, v2, v3, v4, v5] h (ev_qv post)) (hdd : d' + 1 ≤ d) (hwt : (st.map fun v => v.category).sum ≤ 8) (hk : kc = kc' + kc1) (hs : ks = ks' + ks1) (kk : ∀ (h' : ev_H), post h' → Ev G M d kc' ks' Q pc' ls (st) h') : Ev G M d kc ks Q pc ls (v5 :: v4 :: v3 :: v2 :: v1 :: st) h :=
  ev_scall hd hlk hcb hiv hM rfl rfl hdd hwt hk hs (fun r h' hq => by obtain ⟨rfl, hp⟩ := hq; exact kk h' hp)
theorem ev_sv5 {b : Nat} {v1 v2 v3 v4 v5 : Value} {post : ev_H → Prop} (hd : fe M pc (.invokespecial ix) 3 pc') (hlk : ev_lk M.1.cls ix M') (hcb : ev_cb M' 5) (hiv : Cond.instanceMethod M'.1 ∈ ev_WS ∧ M'.1.name = "<init>" ∧ M'.2.2.2.1 = none) (hM : Rn G M' d' kc1 ks1 (.ref b :: [v1, v2, v3, v4, v5]) h (ev_qv post)) (hdd : d' + 1 ≤ d) (hwt : (st.map fun v => v.category).sum ≤ 8) (hk : kc = kc' + kc1) (hs : ks = ks' + ks1) (kk : ∀ (h' : ev_H), post h' → Ev G M d kc' ks' Q pc' ls (st) h') : Ev G M d kc ks Q pc ls (v5 :: v4 :: v3 :: v2 :: v1 :: .ref b :: st) h :=
  ev_icall hd hlk hcb hiv hM rfl rfl hdd hwt hk hs (fun r h' hq => by obtain ⟨rfl, hp⟩ := hq; exact kk h' hp)
theorem ev_vq5 {b ci : Nat} {T : u_T} {N : Nat} {fs : List Value} {v1 v2 v3 v4 v5 : Value} {post : Option Nat → ev_H → Prop} (hd : fe M pc (.invokevirtual ix) 3 pc') (hlk : ev_lk M.1.cls ix M') (hcb : ev_cb M' 5) (hiv : ev_iv M') (hM : Rn G M' d' kc1 ks1 (.ref b :: [v1, v2, v3, v4, v5]) h (ev_qq post)) (hb : h b = some (.inr (ci, fs))) (hcl : ev_CL[ci]? = some (M'.1.cls, T, N)) (hdd : d' + 1 ≤ d) (hwt : (st.map fun v => v.category).sum ≤ 8) (hk : kc = kc' + kc1) (hs : ks = ks' + ks1) (kk : ∀ (x : Option Nat) (h' : ev_H), post x h' → Ev G M d kc' ks' Q pc' ls (va_rf x :: st) h') : Ev G M d kc ks Q pc ls (v5 :: v4 :: v3 :: v2 :: v1 :: .ref b :: st) h :=
  ev_vcall hd hlk hcb hiv hM hb hcl rfl rfl hdd hwt hk hs (fun r h' hq => by obtain ⟨x, rfl, hp⟩ := hq; exact kk x h' hp)
theorem ev_tq5 {v1 v2 v3 v4 v5 : Value} {post : Option Nat → ev_H → Prop} (hd : fe M pc (.invokestatic ix) 3 pc') (hlk : ev_lk M.1.cls ix M') (hcb : ev_cb M' 5) (hiv : Cond.static M'.1 ∈ ev_WS) (hM : Rn G M' d' kc1 ks1 [v1, v2, v3, v4, v5] h (ev_qq post)) (hdd : d' + 1 ≤ d) (hwt : (st.map fun v => v.category).sum ≤ 8) (hk : kc = kc' + kc1) (hs : ks = ks' + ks1) (kk : ∀ (x : Option Nat) (h' : ev_H), post x h' → Ev G M d kc' ks' Q pc' ls (va_rf x :: st) h') : Ev G M d kc ks Q pc ls (v5 :: v4 :: v3 :: v2 :: v1 :: st) h :=
  ev_scall hd hlk hcb hiv hM rfl rfl hdd hwt hk hs (fun r h' hq => by obtain ⟨x, rfl, hp⟩ := hq; exact kk x h' hp)
end EVF
