/-! the judgement: a heap is a function from addresses to cells; Ev: from this place the method comes to an end with Q; Rn: a method's contract -/
abbrev ev_H : Type := Nat → Option va_E
abbrev ev_G : Type := va_G × (Nat → ClassId)
abbrev ev_cc (M : ev_M) : ByteArray := M.2.1
abbrev ev_nL (M : ev_M) : Nat := M.2.2.1
abbrev ev_rt (M : ev_M) : Option FieldType := M.2.2.2.1
def ev_isN : Cond → Bool
  | .fieldLinkNest .. => true
  | .methodLinkNest .. => true
  | _ => false
def ev_WS : List Cond := lw_tbl.filter goodWord
def ev_NW : List Cond := lw_tbl.filter ev_isN
def ev_nw (U : State) : Prop := (∀ w ∈ ev_NW, va_Nw w U) ∧ ∀ C ∈ ev_AO, va_AO C U
theorem ev_nw_warm {s U : State} (hW : s.WarmedH U.vm) (h : ev_nw s) : ev_nw U := by
  refine ⟨fun w hw => ?_, fun C hC => va_AO.moved hW.alike (h.2 C hC)⟩
  have hm := (List.mem_filter.mp hw).2
  have hz := h.1 w hw
  cases w <;> first | exact va_Nw.warmF hW hz | exact va_Nw.warmM hW hz | (simp [ev_isN] at hm)
theorem ev_nw_same {s U : State} (hv : s.vm = U.vm) (h : ev_nw s) : ev_nw U := by
  refine ⟨fun w hw => ?_, fun C hC => ?_⟩
  · have hm := (List.mem_filter.mp hw).2
    have hz := h.1 w hw
    cases w <;> first | exact va_Nw.same rfl hv hz | (simp [ev_isN] at hm)
  · exact va_AO.moved (by rw [hv]; exact Vm.Alike.refl _) (h.2 C hC)
/-- the world -/
def xw (G : ev_G) (A : Nat → Prop) (h : ev_H) (H : Heap) : Prop :=
  ∃ (L : List Nat) (f : Nat → va_E), (∀ (a : Nat) (e : va_E), h a = some e ↔ (a ∈ L ∧ f a = e)) ∧ va_P G.1 ev_CL ([] ++ va_pl L f) H ∧ va_D A ([] ++ va_pl L f)
theorem xw_ws {G : ev_G} {A : Nat → Prop} {h : ev_H} {H : Heap} (hw : xw G A h H) : ∃ ws : va_W, va_P G.1 ev_CL ws H ∧ va_D A ws ∧ (∀ (a : Nat) (e : va_E), h a = some e → ∃ k : Nat, ws[k]? = some (a, e)) ∧
    (∀ (a : Nat) (e : va_E) (k : Nat) (e' : va_E) (H1 : Heap), ws[k]? = some (a, e) → va_P G.1 ev_CL (ws.set k (a, e')) H1 → va_D A (ws.set k (a, e')) → xw G A (va_up h a (some e')) H1) ∧
    (∀ (q : Nat) (e' : va_E) (H1 : Heap), va_P G.1 ev_CL (ws ++ [(q, e')]) H1 → va_D A (ws ++ [(q, e')]) → h q = none ∧ xw G A (va_up h q (some e')) H1) := by
  obtain ⟨L, f, hL, hP, hD⟩ := hw
  refine ⟨[] ++ va_pl L f, hP, hD, fun a e ha => ?_, fun a e k e' H1 hk hP1 hD1 => ?_, fun q e' H1 hP1 hD1 => ?_⟩
  · obtain ⟨h1, h2⟩ := (hL a e).1 ha
    subst h2
    exact va_pl_get (X := []) h1
  · have hm : (a, e) ∈ va_pl L f := List.mem_of_getElem? (by simpa using hk)
    obtain ⟨a', ha', hae⟩ := List.mem_map.mp hm
    have e1 : a' = a := congrArg Prod.fst hae
    have e2 : f a' = e := congrArg Prod.snd hae
    subst e1
    subst e2
    rw [va_pl_set hD ha' hk] at hP1 hD1
    refine ⟨L, va_up f a' e', fun b x => ?_, hP1, hD1⟩
    by_cases hb : b = a'
    · subst hb
      rw [va_up_self, va_up_self]
      constructor
      · intro q
        exact ⟨ha', Option.some.inj q⟩
      · intro q
        rw [q.2]
    · rw [va_up_ne _ _ hb, va_up_ne _ _ hb]
      exact hL b x
  · have hq : q ∉ L := va_pl_fresh2 hD1
    have hn : h q = none := by
      cases hh : h q with
      | none => rfl
      | some x => exact absurd ((hL q x).1 hh).1 hq
    refine ⟨hn, L ++ [q], va_up f q e', fun b x => ?_, ?_, ?_⟩
    · by_cases hb : b = q
      · subst hb
        rw [va_up_self, va_up_self]
        constructor
        · intro z
          exact ⟨by simp, Option.some.inj z⟩
        · intro z
          rw [z.2]
      · rw [va_up_ne _ _ hb, va_up_ne _ _ hb, hL b x]
        simp [hb]
    · rw [← va_pl_push hq]
      exact hP1
    · rw [← va_pl_push hq]
      exact hD1
theorem xw_in {G : ev_G} {A : Nat → Prop} {h : ev_H} {H : Heap} (hw : xw G A h H) {a : Nat} {e : va_E} (ha : h a = some e) : A a ∧ va_at G.1 ev_CL (a, e) H := by
  obtain ⟨ws, hP, hD, hg, -⟩ := xw_ws hw
  obtain ⟨k, hk⟩ := hg a e ha
  exact ⟨hD.2 k _ hk, hP k _ hk⟩
theorem xw_weak {G : ev_G} {A B : Nat → Prop} {h : ev_H} {H : Heap} (hw : xw G A h H) (hAB : ∀ (a : Nat) (e : va_E), h a = some e → A a → B a) : xw G B h H := by
  obtain ⟨L, f, hL, hP, hD⟩ := hw
  refine ⟨L, f, hL, hP, hD.weaken (fun k q hk hA => ?_)⟩
  have hm : q ∈ va_pl L f := List.mem_of_getElem? (by simpa using hk)
  obtain ⟨a', ha', hae⟩ := List.mem_map.mp hm
  subst hae
  exact hAB a' (f a') ((hL a' (f a')).2 ⟨ha', rfl⟩) hA
/-- what a method may change -/
def ev_fr (h : ev_H) (sz : Nat) : Nat → Prop := fun q => (∃ e, h q = some e) ∨ sz ≤ q
/-- the locals, by their places -/
def ev_ls (lsA : Array Slot) (nL : Nat) (ls : List (Option Value)) : Prop := lsA.size = nL ∧ lv_wf lsA ∧ ls.length ≤ nL ∧ ∀ (i : Nat) (v : Value), ls[i]? = some (some v) → lsA[i]? = some (.val v)
def ev_nl : Option Value → Bool
  | some (.long _) => false
  | some (.double _) => false
  | _ => true
def ev_pr (ls : List (Option Value)) : List (Nat × Value) := ls.zipIdx.filterMap (fun q => q.1.map (fun v => (q.2, v)))
theorem ev_pr_mem {ls : List (Option Value)} {i : Nat} {v : Value} : (i, v) ∈ ev_pr ls ↔ ls[i]? = some (some v) := by
  unfold ev_pr
  rw [List.mem_filterMap]
  constructor
  · rintro ⟨⟨o, j⟩, h1, h2⟩
    rw [List.mk_mem_zipIdx_iff_getElem?] at h1
    cases o with
    | none => simp at h2
    | some w =>
      simp at h2
      obtain ⟨rfl, rfl⟩ := h2
      exact h1
  · intro h
    exact ⟨(some v, i), by rw [List.mk_mem_zipIdx_iff_getElem?]; exact h, by simp⟩
theorem ev_ls_has {lsA : Array Slot} {nL : Nat} {ls : List (Option Value)} (h : ev_ls lsA nL ls) : lv_has lsA nL (ev_pr ls) :=
  ⟨h.1, h.2.1, fun q hq => h.2.2.2 q.1 q.2 (ev_pr_mem.mp (by obtain ⟨i, v⟩ := q; exact hq))⟩
theorem ev_nl_cat {v : Value} (h : ev_nl (some v) = true) : v.category = 1 := by
  cases v <;> simp [ev_nl, Value.category] at h ⊢
theorem ev_ls_st1 {lsA : Array Slot} {nL i : Nat} {v : Value} {ls : List (Option Value)} {L : Nat} (hL : ls.length ≤ nL) (hp : ∀ (j : Nat) (w : Value), j + 1 = i → ls[j]? = some (some w) → w.category = 1)
    (h : lv_has lsA nL ((i, v) :: (ev_pr ls).filter (fun q => !(q.1 == i) && !(q.1 + 1 == i && q.2.category == 2)))) : ev_ls lsA nL (ls.set i (some v)) := by
  refine ⟨h.1, h.2.1, by simpa using hL, fun j w hj => ?_⟩
  by_cases e : j = i
  · subst e
    have : w = v := by
      rw [List.getElem?_set] at hj
      simp at hj
      exact hj.2.symm
    subst this
    exact h.2.2 (j, w) List.mem_cons_self
  · rw [List.getElem?_set_ne (Ne.symm e)] at hj
    refine h.2.2 (j, w) (List.mem_cons_of_mem _ (List.mem_filter.mpr ⟨ev_pr_mem.mpr hj, ?_⟩))
    by_cases e2 : j + 1 = i
    · have := hp j w e2 hj
      simp [e, this]
    · simp [e, e2]
theorem ev_ls_st2 {lsA : Array Slot} {nL i : Nat} {v : Value} {ls : List (Option Value)} (hL : ls.length ≤ nL) (hp : ∀ (j : Nat) (w : Value), j + 1 = i → ls[j]? = some (some w) → w.category = 1)
    (h : lv_has lsA nL ((i, v) :: (ev_pr ls).filter (fun q => !(q.1 == i) && (!(q.1 == i + 1) && !(q.1 + 1 == i && q.2.category == 2))))) : ev_ls lsA nL ((ls.set i (some v)).set (i + 1) none) := by
  refine ⟨h.1, h.2.1, by simpa using hL, fun j w hj => ?_⟩
  by_cases e1 : j = i + 1
  · subst e1
    rw [List.getElem?_set] at hj
    simp at hj
  · rw [List.getElem?_set_ne (Ne.symm e1)] at hj
    by_cases e : j = i
    · subst e
      have : w = v := by
        rw [List.getElem?_set] at hj
        simp at hj
        exact hj.2.symm
      subst this
      exact h.2.2 (j, w) List.mem_cons_self
    · rw [List.getElem?_set_ne (Ne.symm e)] at hj
      refine h.2.2 (j, w) (List.mem_cons_of_mem _ (List.mem_filter.mpr ⟨ev_pr_mem.mpr hj, ?_⟩))
      by_cases e2 : j + 1 = i
      · have := hp j w e2 hj
        simp [e, e1, this]
      · simp [e, e1, e2]
theorem ev_hp {ls : List (Option Value)} {i : Nat} {a : Option Value} (hi : ls[i]? = some a) (hp : ev_nl a = true) : ∀ (j : Nat) (w : Value), j + 1 = i + 1 → ls[j]? = some (some w) → w.category = 1 := by
  intro j w hj hw
  obtain rfl : j = i := by omega
  rw [hi] at hw
  cases hw
  exact ev_nl_cat hp
/-- what is the same all through a method -/
def ev_cx (G : ev_G) (M : ev_M) (d : Nat) (p : Program) (R : Room) (s : State) (m : MethodId) (args : Array Value) (meth : Method) (c : Code) (A : Nat → Prop) : Prop :=
  p.tables.exec = Jvm.exec ∧ c.code = M.2.1 ∧ c.maxLocals = M.2.2.1 ∧ s.vm.findClass M.1.cls = some m.cls ∧ (∀ w ∈ ev_WS, w.before args s = true) ∧ va_K G.1 ev_CL (ev_TY G.2) s ∧ (∀ q : Nat, s.heap.size ≤ q → A q) ∧ meth.name = M.1.name ∧
  (d ≤ R.frames ∧ 44 * d ≤ R.locals) ∧ ev_nw s ∧ (∀ (b L : Nat) (xs : Nat → Int32), M.2.2.2.2 = some (b, L, xs) → va_X b L xs s s.heap ∧ b < s.heap.size ∧ ¬ A b)
/-- a place of return -/
def ev_ri (M : ev_M) (pc : Nat) (v : Option Value) : Prop :=
  (∃ (x : Int32) (ty : FieldType), v = some (.int x) ∧ M.2.2.2.1 = some ty ∧ narrow ty (.int x) = .int x ∧ decode M.2.1 pc = .ok (.ireturn, 1)) ∨
  (v = none ∧ M.2.2.2.1 = none ∧ decode M.2.1 pc = .ok (.return_, 1)) ∨
  (∃ (x : Int64), v = some (.long x) ∧ M.2.2.2.1 = some .long ∧ decode M.2.1 pc = .ok (.lreturn, 1)) ∨
  (∃ (w : Value) (C : String), v = some w ∧ (w = .null ∨ ∃ a, w = .ref a) ∧ M.2.2.2.1 = some (.object C) ∧ decode M.2.1 pc = .ok (.areturn, 1))
def ev_rk (G : ev_G) (M : ev_M) (Q : Option Value → ev_H → Prop) (p : Program) (l : Launch) (e : Env) (R : Room) (s : State) (m : MethodId) (args : Array Value) (below : List Frame) (meth : Method) (c : Code) (A : Nat → Prop) (Qf : State → Prop) : Prop :=
  ∀ (v : Option Value) (h : ev_H) (H : Heap) (locs : List Loc) (cells slots pc : Nat) (lsA : Array Slot), ev_ri M pc v → Q v h → xw G A h H → va_S A s.heap H locs → cells ≤ R.cells → slots ≤ R.slots →
    W p l e R s m args below meth c H locs cells slots Qf (F0 m pc lsA v.toList)
def Ev (G : ev_G) (M : ev_M) (d kc ks : Nat) (Q : Option Value → ev_H → Prop) (pc : Nat) (ls : List (Option Value)) (st : List Value) (h : ev_H) : Prop :=
  ∀ (p : Program) (l : Launch) (e : Env) (R : Room) (s : State) (m : MethodId) (args : Array Value) (below : List Frame) (meth : Method) (c : Code) (A : Nat → Prop) (H : Heap) (locs : List Loc) (cells slots : Nat) (lsA : Array Slot) (Qf : State → Prop),
    ev_cx G M d p R s m args meth c A → cells + kc ≤ R.cells → slots + ks ≤ R.slots → xw G A h H → va_S A s.heap H locs → ev_ls lsA M.2.2.1 ls → ev_rk G M Q p l e R s m args below meth c A Qf →
    W p l e R s m args below meth c H locs cells slots Qf (F0 m pc lsA st)
/-- an instruction stands at a place, the next one behind it -/
def fe (M : ev_M) (pc : Nat) (i : Instr) (n pc' : Nat) : Prop := decode M.2.1 pc = .ok (i, n) ∧ pc + n = pc'
section EVR
variable {G : ev_G} {M : ev_M} {d kc ks : Nat} {Q : Option Value → ev_H → Prop} {pc pc' : Nat} {ls : List (Option Value)} {st : List Value} {h : ev_H}
theorem ev_mono {Q' : Option Value → ev_H → Prop} (hQ : ∀ v h, Q v h → Q' v h) (k : Ev G M d kc ks Q pc ls st h) : Ev G M d kc ks Q' pc ls st h := by
  intro p l e R s m args below meth c A H locs cells slots lsA Qf hc h1 h2 hw hS hl hr
  exact k p l e R s m args below meth c A H locs cells slots lsA Qf hc h1 h2 hw hS hl (fun v h H locs cells slots pc lsA a b => hr v h H locs cells slots pc lsA a (hQ v h b))
/-- fewer locals are known -/
theorem ev_sub {ls' : List (Option Value)} (hL : ls'.length = ls.length) (hs : ∀ (i : Nat) (v : Value), ls'[i]? = some (some v) → ls[i]? = some (some v)) (k : Ev G M d kc ks Q pc ls' st h) : Ev G M d kc ks Q pc ls st h := by
  intro p l e R s m args below meth c A H locs cells slots lsA Qf hc h1 h2 hw hS hl hr
  exact k p l e R s m args below meth c A H locs cells slots lsA Qf hc h1 h2 hw hS ⟨hl.1, hl.2.1, by rw [hL]; exact hl.2.2.1, fun i v hi => hl.2.2.2 i v (hs i v hi)⟩ hr
/-- an int on the top gets another name -/
theorem ev_top {x y : Int32} (e : x = y) (k : Ev G M d kc ks Q pc ls (.int y :: st) h) : Ev G M d kc ks Q pc ls (.int x :: st) h := e ▸ k
theorem ev_topl {x y : Int64} (e : x = y) (k : Ev G M d kc ks Q pc ls (.long y :: st) h) : Ev G M d kc ks Q pc ls (.long x :: st) h := e ▸ k
theorem ev_iadd {x y : Int32} (hd : fe M pc .iadd 1 pc')  (k : Ev G M d kc ks Q pc' ls (.int (x + y) :: st) h) : Ev G M d kc ks Q pc ls (.int y :: .int x :: st) h := by
  obtain ⟨hd, rfl⟩ := hd
  intro p l e R s m args below meth c A H locs cells slots lsA Qf hc h1 h2 hw hS hl hr
  exact lv_iadd hc.1 hc.2.1 hd (k p l e R s m args below meth c A H locs cells slots lsA Qf hc h1 h2 hw hS hl hr)
theorem ev_isub {x y : Int32} (hd : fe M pc .isub 1 pc')  (k : Ev G M d kc ks Q pc' ls (.int (x - y) :: st) h) : Ev G M d kc ks Q pc ls (.int y :: .int x :: st) h := by
  obtain ⟨hd, rfl⟩ := hd
  intro p l e R s m args below meth c A H locs cells slots lsA Qf hc h1 h2 hw hS hl hr
  exact lv_isub hc.1 hc.2.1 hd (k p l e R s m args below meth c A H locs cells slots lsA Qf hc h1 h2 hw hS hl hr)
theorem ev_imul {x y : Int32} (hd : fe M pc .imul 1 pc')  (k : Ev G M d kc ks Q pc' ls (.int (x * y) :: st) h) : Ev G M d kc ks Q pc ls (.int y :: .int x :: st) h := by
  obtain ⟨hd, rfl⟩ := hd
  intro p l e R s m args below meth c A H locs cells slots lsA Qf hc h1 h2 hw hS hl hr
  exact lv_imul hc.1 hc.2.1 hd (k p l e R s m args below meth c A H locs cells slots lsA Qf hc h1 h2 hw hS hl hr)
theorem ev_iand {x y : Int32} (hd : fe M pc .iand 1 pc')  (k : Ev G M d kc ks Q pc' ls (.int (x &&& y) :: st) h) : Ev G M d kc ks Q pc ls (.int y :: .int x :: st) h := by
  obtain ⟨hd, rfl⟩ := hd
  intro p l e R s m args below meth c A H locs cells slots lsA Qf hc h1 h2 hw hS hl hr
  exact lv_iand hc.1 hc.2.1 hd (k p l e R s m args below meth c A H locs cells slots lsA Qf hc h1 h2 hw hS hl hr)
theorem ev_ior {x y : Int32} (hd : fe M pc .ior 1 pc')  (k : Ev G M d kc ks Q pc' ls (.int (x ||| y) :: st) h) : Ev G M d kc ks Q pc ls (.int y :: .int x :: st) h := by
  obtain ⟨hd, rfl⟩ := hd
  intro p l e R s m args below meth c A H locs cells slots lsA Qf hc h1 h2 hw hS hl hr
  exact lv_ior hc.1 hc.2.1 hd (k p l e R s m args below meth c A H locs cells slots lsA Qf hc h1 h2 hw hS hl hr)
theorem ev_ixor {x y : Int32} (hd : fe M pc .ixor 1 pc')  (k : Ev G M d kc ks Q pc' ls (.int (x ^^^ y) :: st) h) : Ev G M d kc ks Q pc ls (.int y :: .int x :: st) h := by
  obtain ⟨hd, rfl⟩ := hd
  intro p l e R s m args below meth c A H locs cells slots lsA Qf hc h1 h2 hw hS hl hr
  exact lv_ixor hc.1 hc.2.1 hd (k p l e R s m args below meth c A H locs cells slots lsA Qf hc h1 h2 hw hS hl hr)
theorem ev_ishl {x y : Int32} (hd : fe M pc .ishl 1 pc')  (k : Ev G M d kc ks Q pc' ls (.int (x <<< (y &&& 31)) :: st) h) : Ev G M d kc ks Q pc ls (.int y :: .int x :: st) h := by
  obtain ⟨hd, rfl⟩ := hd
  intro p l e R s m args below meth c A H locs cells slots lsA Qf hc h1 h2 hw hS hl hr
  exact lv_ishl hc.1 hc.2.1 hd (k p l e R s m args below meth c A H locs cells slots lsA Qf hc h1 h2 hw hS hl hr)
theorem ev_ishr {x y : Int32} (hd : fe M pc .ishr 1 pc')  (k : Ev G M d kc ks Q pc' ls (.int (x >>> (y &&& 31)) :: st) h) : Ev G M d kc ks Q pc ls (.int y :: .int x :: st) h := by
  obtain ⟨hd, rfl⟩ := hd
  intro p l e R s m args below meth c A H locs cells slots lsA Qf hc h1 h2 hw hS hl hr
  exact lv_ishr hc.1 hc.2.1 hd (k p l e R s m args below meth c A H locs cells slots lsA Qf hc h1 h2 hw hS hl hr)
theorem ev_idiv {x y : Int32} (hd : fe M pc .idiv 1 pc') (hne : ¬ y = 0) (k : Ev G M d kc ks Q pc' ls (.int (x / y) :: st) h) : Ev G M d kc ks Q pc ls (.int y :: .int x :: st) h := by
  obtain ⟨hd, rfl⟩ := hd
  intro p l e R s m args below meth c A H locs cells slots lsA Qf hc h1 h2 hw hS hl hr
  exact lv_idiv hc.1 hc.2.1 hd hne (k p l e R s m args below meth c A H locs cells slots lsA Qf hc h1 h2 hw hS hl hr)
theorem ev_irem {x y : Int32} (hd : fe M pc .irem 1 pc') (hne : ¬ y = 0) (k : Ev G M d kc ks Q pc' ls (.int (x - x / y * y) :: st) h) : Ev G M d kc ks Q pc ls (.int y :: .int x :: st) h := by
  obtain ⟨hd, rfl⟩ := hd
  intro p l e R s m args below meth c A H locs cells slots lsA Qf hc h1 h2 hw hS hl hr
  exact lv_irem hc.1 hc.2.1 hd hne (k p l e R s m args below meth c A H locs cells slots lsA Qf hc h1 h2 hw hS hl hr)
theorem ev_ladd {x y : Int64} (hd : fe M pc .ladd 1 pc')  (k : Ev G M d kc ks Q pc' ls (.long (x + y) :: st) h) : Ev G M d kc ks Q pc ls (.long y :: .long x :: st) h := by
  obtain ⟨hd, rfl⟩ := hd
  intro p l e R s m args below meth c A H locs cells slots lsA Qf hc h1 h2 hw hS hl hr
  exact lv_ladd hc.1 hc.2.1 hd (k p l e R s m args below meth c A H locs cells slots lsA Qf hc h1 h2 hw hS hl hr)
theorem ev_lsub {x y : Int64} (hd : fe M pc .lsub 1 pc')  (k : Ev G M d kc ks Q pc' ls (.long (x - y) :: st) h) : Ev G M d kc ks Q pc ls (.long y :: .long x :: st) h := by
  obtain ⟨hd, rfl⟩ := hd
  intro p l e R s m args below meth c A H locs cells slots lsA Qf hc h1 h2 hw hS hl hr
  exact lv_lsub hc.1 hc.2.1 hd (k p l e R s m args below meth c A H locs cells slots lsA Qf hc h1 h2 hw hS hl hr)
theorem ev_lmul {x y : Int64} (hd : fe M pc .lmul 1 pc')  (k : Ev G M d kc ks Q pc' ls (.long (x * y) :: st) h) : Ev G M d kc ks Q pc ls (.long y :: .long x :: st) h := by
  obtain ⟨hd, rfl⟩ := hd
  intro p l e R s m args below meth c A H locs cells slots lsA Qf hc h1 h2 hw hS hl hr
  exact lv_lmul hc.1 hc.2.1 hd (k p l e R s m args below meth c A H locs cells slots lsA Qf hc h1 h2 hw hS hl hr)
theorem ev_land {x y : Int64} (hd : fe M pc .land 1 pc')  (k : Ev G M d kc ks Q pc' ls (.long (x &&& y) :: st) h) : Ev G M d kc ks Q pc ls (.long y :: .long x :: st) h := by
  obtain ⟨hd, rfl⟩ := hd
  intro p l e R s m args below meth c A H locs cells slots lsA Qf hc h1 h2 hw hS hl hr
  exact lv_land hc.1 hc.2.1 hd (k p l e R s m args below meth c A H locs cells slots lsA Qf hc h1 h2 hw hS hl hr)
theorem ev_lor {x y : Int64} (hd : fe M pc .lor 1 pc')  (k : Ev G M d kc ks Q pc' ls (.long (x ||| y) :: st) h) : Ev G M d kc ks Q pc ls (.long y :: .long x :: st) h := by
  obtain ⟨hd, rfl⟩ := hd
  intro p l e R s m args below meth c A H locs cells slots lsA Qf hc h1 h2 hw hS hl hr
  exact lv_lor hc.1 hc.2.1 hd (k p l e R s m args below meth c A H locs cells slots lsA Qf hc h1 h2 hw hS hl hr)
theorem ev_lxor {x y : Int64} (hd : fe M pc .lxor 1 pc')  (k : Ev G M d kc ks Q pc' ls (.long (x ^^^ y) :: st) h) : Ev G M d kc ks Q pc ls (.long y :: .long x :: st) h := by
  obtain ⟨hd, rfl⟩ := hd
  intro p l e R s m args below meth c A H locs cells slots lsA Qf hc h1 h2 hw hS hl hr
  exact lv_lxor hc.1 hc.2.1 hd (k p l e R s m args below meth c A H locs cells slots lsA Qf hc h1 h2 hw hS hl hr)
theorem ev_ineg {x : Int32} (hd : fe M pc .ineg 1 pc')  (k : Ev G M d kc ks Q pc' ls (.int (-x) :: st) h) : Ev G M d kc ks Q pc ls (.int x :: st) h := by
  obtain ⟨hd, rfl⟩ := hd
  intro p l e R s m args below meth c A H locs cells slots lsA Qf hc h1 h2 hw hS hl hr
  exact lv_ineg hc.1 hc.2.1 hd (k p l e R s m args below meth c A H locs cells slots lsA Qf hc h1 h2 hw hS hl hr)
theorem ev_iushr {x y : Int32} (hd : fe M pc .iushr 1 pc')  (k : Ev G M d kc ks Q pc' ls (.int ((x.toUInt32 >>> (y.toUInt32 &&& Int32.toUInt32 31)).toInt32) :: st) h) : Ev G M d kc ks Q pc ls (.int y :: .int x :: st) h := by
  obtain ⟨hd, rfl⟩ := hd
  intro p l e R s m args below meth c A H locs cells slots lsA Qf hc h1 h2 hw hS hl hr
  exact lv_iushr hc.1 hc.2.1 hd rfl (k p l e R s m args below meth c A H locs cells slots lsA Qf hc h1 h2 hw hS hl hr)
theorem ev_lushr {x : Int64} {y : Int32} (hd : fe M pc .lushr 1 pc')  (k : Ev G M d kc ks Q pc' ls (.long ((x.toUInt64 >>> (y.toInt64.toUInt64 &&& Int64.toUInt64 63)).toInt64) :: st) h) : Ev G M d kc ks Q pc ls (.int y :: .long x :: st) h := by
  obtain ⟨hd, rfl⟩ := hd
  intro p l e R s m args below meth c A H locs cells slots lsA Qf hc h1 h2 hw hS hl hr
  exact lv_lushr hc.1 hc.2.1 hd rfl (k p l e R s m args below meth c A H locs cells slots lsA Qf hc h1 h2 hw hS hl hr)
theorem ev_lshl {x : Int64} {y : Int32} (hd : fe M pc .lshl 1 pc')  (k : Ev G M d kc ks Q pc' ls (.long (x <<< (y.toInt64 &&& 63)) :: st) h) : Ev G M d kc ks Q pc ls (.int y :: .long x :: st) h := by
  obtain ⟨hd, rfl⟩ := hd
  intro p l e R s m args below meth c A H locs cells slots lsA Qf hc h1 h2 hw hS hl hr
  exact lv_lshl hc.1 hc.2.1 hd rfl (k p l e R s m args below meth c A H locs cells slots lsA Qf hc h1 h2 hw hS hl hr)
theorem ev_lshr {x : Int64} {y : Int32} (hd : fe M pc .lshr 1 pc')  (k : Ev G M d kc ks Q pc' ls (.long (x >>> (y.toInt64 &&& 63)) :: st) h) : Ev G M d kc ks Q pc ls (.int y :: .long x :: st) h := by
  obtain ⟨hd, rfl⟩ := hd
  intro p l e R s m args below meth c A H locs cells slots lsA Qf hc h1 h2 hw hS hl hr
  exact lv_lshr hc.1 hc.2.1 hd rfl (k p l e R s m args below meth c A H locs cells slots lsA Qf hc h1 h2 hw hS hl hr)
theorem ev_i2l {x : Int32} (hd : fe M pc .i2l 1 pc')  (k : Ev G M d kc ks Q pc' ls (.long x.toInt64 :: st) h) : Ev G M d kc ks Q pc ls (.int x :: st) h := by
  obtain ⟨hd, rfl⟩ := hd
  intro p l e R s m args below meth c A H locs cells slots lsA Qf hc h1 h2 hw hS hl hr
  exact lv_i2l hc.1 hc.2.1 hd rfl (k p l e R s m args below meth c A H locs cells slots lsA Qf hc h1 h2 hw hS hl hr)
theorem ev_l2i {x : Int64} (hd : fe M pc .l2i 1 pc')  (k : Ev G M d kc ks Q pc' ls (.int x.toInt32 :: st) h) : Ev G M d kc ks Q pc ls (.long x :: st) h := by
  obtain ⟨hd, rfl⟩ := hd
  intro p l e R s m args below meth c A H locs cells slots lsA Qf hc h1 h2 hw hS hl hr
  exact lv_l2i hc.1 hc.2.1 hd rfl (k p l e R s m args below meth c A H locs cells slots lsA Qf hc h1 h2 hw hS hl hr)
theorem ev_i2c {x : Int32} (hd : fe M pc .i2c 1 pc')  (k : Ev G M d kc ks Q pc' ls (.int ((x.toUInt32 % 65536).toInt32) :: st) h) : Ev G M d kc ks Q pc ls (.int x :: st) h := by
  obtain ⟨hd, rfl⟩ := hd
  intro p l e R s m args below meth c A H locs cells slots lsA Qf hc h1 h2 hw hS hl hr
  exact lv_i2c hc.1 hc.2.1 hd rfl (k p l e R s m args below meth c A H locs cells slots lsA Qf hc h1 h2 hw hS hl hr)
theorem ev_i2b {x : Int32} (hd : fe M pc .i2b 1 pc')  (k : Ev G M d kc ks Q pc' ls (.int (x.toInt8.toInt32) :: st) h) : Ev G M d kc ks Q pc ls (.int x :: st) h := by
  obtain ⟨hd, rfl⟩ := hd
  intro p l e R s m args below meth c A H locs cells slots lsA Qf hc h1 h2 hw hS hl hr
  exact lv_i2b hc.1 hc.2.1 hd rfl (k p l e R s m args below meth c A H locs cells slots lsA Qf hc h1 h2 hw hS hl hr)
theorem ev_lcmp {x y : Int64} (hd : fe M pc .lcmp 1 pc')  (k : Ev G M d kc ks Q pc' ls (.int (lg_cmp x y) :: st) h) : Ev G M d kc ks Q pc ls (.long y :: .long x :: st) h := by
  obtain ⟨hd, rfl⟩ := hd
  intro p l e R s m args below meth c A H locs cells slots lsA Qf hc h1 h2 hw hS hl hr
  exact W.lcmp hc.1 hc.2.1 hd (k p l e R s m args below meth c A H locs cells slots lsA Qf hc h1 h2 hw hS hl hr)
theorem ev_dup {va : Value} (hd : fe M pc .dup 1 pc') (hva : va.category = 1) (k : Ev G M d kc ks Q pc' ls (va :: va :: st) h) : Ev G M d kc ks Q pc ls (va :: st) h := by
  obtain ⟨hd, rfl⟩ := hd
  intro p l e R s m args below meth c A H locs cells slots lsA Qf hc h1 h2 hw hS hl hr
  exact lv_dup hc.1 hc.2.1 hd hva (k p l e R s m args below meth c A H locs cells slots lsA Qf hc h1 h2 hw hS hl hr)
theorem ev_pop {va : Value} (hd : fe M pc .pop 1 pc') (hva : va.category = 1) (k : Ev G M d kc ks Q pc' ls (st) h) : Ev G M d kc ks Q pc ls (va :: st) h := by
  obtain ⟨hd, rfl⟩ := hd
  intro p l e R s m args below meth c A H locs cells slots lsA Qf hc h1 h2 hw hS hl hr
  exact lv_pop hc.1 hc.2.1 hd hva (k p l e R s m args below meth c A H locs cells slots lsA Qf hc h1 h2 hw hS hl hr)
theorem ev_dup_x1 {va vb : Value} (hd : fe M pc .dup_x1 1 pc') (hva : va.category = 1) (hvb : vb.category = 1) (k : Ev G M d kc ks Q pc' ls (va :: vb :: va :: st) h) : Ev G M d kc ks Q pc ls (va :: vb :: st) h := by
  obtain ⟨hd, rfl⟩ := hd
  intro p l e R s m args below meth c A H locs cells slots lsA Qf hc h1 h2 hw hS hl hr
  exact lv_dup_x1 hc.1 hc.2.1 hd hva hvb (k p l e R s m args below meth c A H locs cells slots lsA Qf hc h1 h2 hw hS hl hr)
theorem ev_dup_x2 {va vb vd : Value} (hd : fe M pc .dup_x2 1 pc') (hva : va.category = 1) (hvb : vb.category = 1) (hvd : vd.category = 1) (k : Ev G M d kc ks Q pc' ls (va :: vb :: vd :: va :: st) h) : Ev G M d kc ks Q pc ls (va :: vb :: vd :: st) h := by
  obtain ⟨hd, rfl⟩ := hd
  intro p l e R s m args below meth c A H locs cells slots lsA Qf hc h1 h2 hw hS hl hr
  exact lv_dup_x2 hc.1 hc.2.1 hd hva hvb hvd (k p l e R s m args below meth c A H locs cells slots lsA Qf hc h1 h2 hw hS hl hr)
theorem ev_dup2 {va vb : Value} (hd : fe M pc .dup2 1 pc') (hva : va.category = 1) (hvb : vb.category = 1) (k : Ev G M d kc ks Q pc' ls (va :: vb :: va :: vb :: st) h) : Ev G M d kc ks Q pc ls (va :: vb :: st) h := by
  obtain ⟨hd, rfl⟩ := hd
  intro p l e R s m args below meth c A H locs cells slots lsA Qf hc h1 h2 hw hS hl hr
  exact lv_dup2_11 hc.1 hc.2.1 hd hva hvb (k p l e R s m args below meth c A H locs cells slots lsA Qf hc h1 h2 hw hS hl hr)
theorem ev_dup2l {va : Value} (hd : fe M pc .dup2 1 pc') (hva : va.category = 2) (k : Ev G M d kc ks Q pc' ls (va :: va :: st) h) : Ev G M d kc ks Q pc ls (va :: st) h := by
  obtain ⟨hd, rfl⟩ := hd
  intro p l e R s m args below meth c A H locs cells slots lsA Qf hc h1 h2 hw hS hl hr
  exact lv_dup2_2 hc.1 hc.2.1 hd hva (k p l e R s m args below meth c A H locs cells slots lsA Qf hc h1 h2 hw hS hl hr)
theorem ev_null  (hd : fe M pc .aconst_null 1 pc')  (k : Ev G M d kc ks Q pc' ls (.null :: st) h) : Ev G M d kc ks Q pc ls (st) h := by
  obtain ⟨hd, rfl⟩ := hd
  intro p l e R s m args below meth c A H locs cells slots lsA Qf hc h1 h2 hw hS hl hr
  exact lv_null hc.1 hc.2.1 hd (k p l e R s m args below meth c A H locs cells slots lsA Qf hc h1 h2 hw hS hl hr)
theorem ev_iconst {n : Int} {v : Int32} (hd : fe M pc (.iconst n) 1 pc') (hv : Int32.ofInt n = v) (k : Ev G M d kc ks Q pc' ls (.int v :: st) h) : Ev G M d kc ks Q pc ls (st) h := by
  obtain ⟨hd, rfl⟩ := hd
  intro p l e R s m args below meth c A H locs cells slots lsA Qf hc h1 h2 hw hS hl hr
  exact lv_iconst hc.1 hc.2.1 hd hv (k p l e R s m args below meth c A H locs cells slots lsA Qf hc h1 h2 hw hS hl hr)
theorem ev_bipush {n : Int} {v : Int32} (hd : fe M pc (.bipush n) 2 pc') (hv : (Int8.ofInt n).toInt32 = v) (k : Ev G M d kc ks Q pc' ls (.int v :: st) h) : Ev G M d kc ks Q pc ls (st) h := by
  obtain ⟨hd, rfl⟩ := hd
  intro p l e R s m args below meth c A H locs cells slots lsA Qf hc h1 h2 hw hS hl hr
  exact lv_bipush hc.1 hc.2.1 hd hv (k p l e R s m args below meth c A H locs cells slots lsA Qf hc h1 h2 hw hS hl hr)
theorem ev_sipush {n : Int} {v : Int32} (hd : fe M pc (.sipush n) 3 pc') (hv : (Int16.ofInt n).toInt32 = v) (k : Ev G M d kc ks Q pc' ls (.int v :: st) h) : Ev G M d kc ks Q pc ls (st) h := by
  obtain ⟨hd, rfl⟩ := hd
  intro p l e R s m args below meth c A H locs cells slots lsA Qf hc h1 h2 hw hS hl hr
  exact lv_sipush hc.1 hc.2.1 hd hv (k p l e R s m args below meth c A H locs cells slots lsA Qf hc h1 h2 hw hS hl hr)
theorem ev_lconst {n : Fin 2} {v : Int64} (hd : fe M pc (.lconst n) 1 pc') (hv : Int64.ofNat (n : Nat) = v) (k : Ev G M d kc ks Q pc' ls (.long v :: st) h) : Ev G M d kc ks Q pc ls (st) h := by
  obtain ⟨hd, rfl⟩ := hd
  intro p l e R s m args below meth c A H locs cells slots lsA Qf hc h1 h2 hw hS hl hr
  exact lv_lconst hc.1 hc.2.1 hd hv (k p l e R s m args below meth c A H locs cells slots lsA Qf hc h1 h2 hw hS hl hr)
theorem ev_ldc {ix : Nat} {v : Int32} (hd : fe M pc (.ldc ix) 2 pc') (hk : Cond.constant M.1.cls ix v ∈ ev_WS) (k : Ev G M d kc ks Q pc' ls (.int v :: st) h) : Ev G M d kc ks Q pc ls (st) h := by
  obtain ⟨hd, rfl⟩ := hd
  intro p l e R s m args below meth c A H locs cells slots lsA Qf hc h1 h2 hw hS hl hr
  exact lv_ldc hc.1 hc.2.1 hc.2.2.2.1 (hc.2.2.2.2.1 _ hk) hd (k p l e R s m args below meth c A H locs cells slots lsA Qf hc h1 h2 hw hS hl hr)
theorem ev_ldcw {ix : Nat} {v : Int32} (hd : fe M pc (.ldc_w ix) 3 pc') (hk : Cond.constant M.1.cls ix v ∈ ev_WS) (k : Ev G M d kc ks Q pc' ls (.int v :: st) h) : Ev G M d kc ks Q pc ls (st) h := by
  obtain ⟨hd, rfl⟩ := hd
  intro p l e R s m args below meth c A H locs cells slots lsA Qf hc h1 h2 hw hS hl hr
  exact lv_ldcw hc.1 hc.2.1 hc.2.2.2.1 (hc.2.2.2.2.1 _ hk) hd (k p l e R s m args below meth c A H locs cells slots lsA Qf hc h1 h2 hw hS hl hr)
theorem ev_ldc2 {ix : Nat} {v : Int64} (hd : fe M pc (.ldc2_w ix) 3 pc') (hk : Cond.constantLong M.1.cls ix v ∈ ev_WS) (k : Ev G M d kc ks Q pc' ls (.long v :: st) h) : Ev G M d kc ks Q pc ls (st) h := by
  obtain ⟨hd, rfl⟩ := hd
  intro p l e R s m args below meth c A H locs cells slots lsA Qf hc h1 h2 hw hS hl hr
  exact lv_ldc2 hc.1 hc.2.1 hc.2.2.2.1 (hc.2.2.2.2.1 _ hk) hd (k p l e R s m args below meth c A H locs cells slots lsA Qf hc h1 h2 hw hS hl hr)
theorem ev_iload_0 {t : List (Option Value)} {x : Int32} (hd : fe M pc (.iload_n 0) 1 pc') (k : Ev G M d kc ks Q pc' (some (.int x) :: t) (.int x :: st) h) : Ev G M d kc ks Q pc (some (.int x) :: t) st h := by
  obtain ⟨hd, rfl⟩ := hd
  intro p l e R s m args below meth c A H locs cells slots lsA Qf hc h1 h2 hw hS hl hr
  exact lv_iload_n hc.1 hc.2.1 hd rfl (hl.2.2.2 0 _ rfl) (k p l e R s m args below meth c A H locs cells slots lsA Qf hc h1 h2 hw hS hl hr)
theorem ev_lload_0 {t : List (Option Value)} {x : Int64} (hd : fe M pc (.lload_n 0) 1 pc') (k : Ev G M d kc ks Q pc' (some (.long x) :: t) (.long x :: st) h) : Ev G M d kc ks Q pc (some (.long x) :: t) st h := by
  obtain ⟨hd, rfl⟩ := hd
  intro p l e R s m args below meth c A H locs cells slots lsA Qf hc h1 h2 hw hS hl hr
  exact lv_lload_n hc.1 hc.2.1 hd rfl (hl.2.2.2 0 _ rfl) (k p l e R s m args below meth c A H locs cells slots lsA Qf hc h1 h2 hw hS hl hr)
theorem ev_aload_0 {t : List (Option Value)} {x : Nat} (hd : fe M pc (.aload_n 0) 1 pc') (k : Ev G M d kc ks Q pc' (some (.ref x) :: t) (.ref x :: st) h) : Ev G M d kc ks Q pc (some (.ref x) :: t) st h := by
  obtain ⟨hd, rfl⟩ := hd
  intro p l e R s m args below meth c A H locs cells slots lsA Qf hc h1 h2 hw hS hl hr
  exact lv_aload_n hc.1 hc.2.1 hd rfl (hl.2.2.2 0 _ rfl) (k p l e R s m args below meth c A H locs cells slots lsA Qf hc h1 h2 hw hS hl hr)
theorem ev_aloadN_0 {t : List (Option Value)} (hd : fe M pc (.aload_n 0) 1 pc') (k : Ev G M d kc ks Q pc' (some .null :: t) (.null :: st) h) : Ev G M d kc ks Q pc (some .null :: t) st h := by
  obtain ⟨hd, rfl⟩ := hd
  intro p l e R s m args below meth c A H locs cells slots lsA Qf hc h1 h2 hw hS hl hr
  exact lv_aload_nN hc.1 hc.2.1 hd rfl (hl.2.2.2 0 _ rfl) (k p l e R s m args below meth c A H locs cells slots lsA Qf hc h1 h2 hw hS hl hr)
theorem ev_istore_0 {a0 : Option Value} {t : List (Option Value)} {x : Int32} (hd : fe M pc (.istore_n 0) 1 pc') (k : Ev G M d kc ks Q pc' (some (.int x) :: t) st h) : Ev G M d kc ks Q pc (a0 :: t) (.int x :: st) h := by
  obtain ⟨hd, rfl⟩ := hd
  intro p l e R s m args below meth c A H locs cells slots lsA Qf hc h1 h2 hw hS hl hr
  refine lv_istore_n hc.1 hc.2.1 hd rfl (ev_ls_has hl) (Nat.lt_of_lt_of_le (by simp only [List.length_cons]; omega) hl.2.2.1) rfl (fun lsB hB => ?_)
  exact k p l e R s m args below meth c A H locs cells slots lsB Qf hc h1 h2 hw hS (ev_ls_st1 (L := 0) hl.2.2.1 (fun j w hj _ => absurd hj (Nat.succ_ne_zero j)) hB) hr
theorem ev_astore_0 {a0 : Option Value} {t : List (Option Value)} {x : Nat} (hd : fe M pc (.astore_n 0) 1 pc') (k : Ev G M d kc ks Q pc' (some (.ref x) :: t) st h) : Ev G M d kc ks Q pc (a0 :: t) (.ref x :: st) h := by
  obtain ⟨hd, rfl⟩ := hd
  intro p l e R s m args below meth c A H locs cells slots lsA Qf hc h1 h2 hw hS hl hr
  refine lv_astore_n hc.1 hc.2.1 hd rfl (ev_ls_has hl) (Nat.lt_of_lt_of_le (by simp only [List.length_cons]; omega) hl.2.2.1) rfl (fun lsB hB => ?_)
  exact k p l e R s m args below meth c A H locs cells slots lsB Qf hc h1 h2 hw hS (ev_ls_st1 (L := 0) hl.2.2.1 (fun j w hj _ => absurd hj (Nat.succ_ne_zero j)) hB) hr
theorem ev_astoreN_0 {a0 : Option Value} {t : List (Option Value)}  (hd : fe M pc (.astore_n 0) 1 pc') (k : Ev G M d kc ks Q pc' (some (.null) :: t) st h) : Ev G M d kc ks Q pc (a0 :: t) (.null :: st) h := by
  obtain ⟨hd, rfl⟩ := hd
  intro p l e R s m args below meth c A H locs cells slots lsA Qf hc h1 h2 hw hS hl hr
  refine lv_astore_nN hc.1 hc.2.1 hd rfl (ev_ls_has hl) (Nat.lt_of_lt_of_le (by simp only [List.length_cons]; omega) hl.2.2.1) rfl (fun lsB hB => ?_)
  exact k p l e R s m args below meth c A H locs cells slots lsB Qf hc h1 h2 hw hS (ev_ls_st1 (L := 0) hl.2.2.1 (fun j w hj _ => absurd hj (Nat.succ_ne_zero j)) hB) hr
theorem ev_lstore_0 {a0 a1 : Option Value} {t : List (Option Value)} {x : Int64} (hd : fe M pc (.lstore_n 0) 1 pc') (k : Ev G M d kc ks Q pc' (some (.long x) :: none :: t) st h) : Ev G M d kc ks Q pc (a0 :: a1 :: t) (.long x :: st) h := by
  obtain ⟨hd, rfl⟩ := hd
  intro p l e R s m args below meth c A H locs cells slots lsA Qf hc h1 h2 hw hS hl hr
  refine lv_lstore_n hc.1 hc.2.1 hd rfl (ev_ls_has hl) (Nat.lt_of_lt_of_le (by simp only [List.length_cons]; omega) hl.2.2.1) rfl (fun lsB hB => ?_)
  exact k p l e R s m args below meth c A H locs cells slots lsB Qf hc h1 h2 hw hS (ev_ls_st2 hl.2.2.1 (fun j w hj _ => absurd hj (Nat.succ_ne_zero j)) hB) hr
theorem ev_iinc_0 {t : List (Option Value)} {x v : Int32} {n : Int} (hd : fe M pc (.iinc 0 n) 3 pc') (hv : x + Int32.ofInt n = v) (k : Ev G M d kc ks Q pc' (some (.int v) :: t) st h) : Ev G M d kc ks Q pc (some (.int x) :: t) st h := by
  obtain ⟨hd, rfl⟩ := hd
  intro p l e R s m args below meth c A H locs cells slots lsA Qf hc h1 h2 hw hS hl hr
  obtain ⟨kk, hkk⟩ := List.getElem?_of_mem (ev_pr_mem.mpr (show (some (.int x) :: t)[0]? = some (some (.int x)) from rfl))
  refine lv_iinc hc.1 hc.2.1 hd (ev_ls_has hl) hkk hv (Nat.lt_of_lt_of_le (by simp only [List.length_cons]; omega) hl.2.2.1) rfl (fun lsB hB => ?_)
  exact k p l e R s m args below meth c A H locs cells slots lsB Qf hc h1 h2 hw hS (ev_ls_st1 (L := 0) hl.2.2.1 (fun j w hj _ => absurd hj (Nat.succ_ne_zero j)) hB) hr
theorem ev_iload_1 {a0 : Option Value} {t : List (Option Value)} {x : Int32} (hd : fe M pc (.iload_n 1) 1 pc') (k : Ev G M d kc ks Q pc' (a0 :: some (.int x) :: t) (.int x :: st) h) : Ev G M d kc ks Q pc (a0 :: some (.int x) :: t) st h := by
  obtain ⟨hd, rfl⟩ := hd
  intro p l e R s m args below meth c A H locs cells slots lsA Qf hc h1 h2 hw hS hl hr
  exact lv_iload_n hc.1 hc.2.1 hd rfl (hl.2.2.2 1 _ rfl) (k p l e R s m args below meth c A H locs cells slots lsA Qf hc h1 h2 hw hS hl hr)
theorem ev_lload_1 {a0 : Option Value} {t : List (Option Value)} {x : Int64} (hd : fe M pc (.lload_n 1) 1 pc') (k : Ev G M d kc ks Q pc' (a0 :: some (.long x) :: t) (.long x :: st) h) : Ev G M d kc ks Q pc (a0 :: some (.long x) :: t) st h := by
  obtain ⟨hd, rfl⟩ := hd
  intro p l e R s m args below meth c A H locs cells slots lsA Qf hc h1 h2 hw hS hl hr
  exact lv_lload_n hc.1 hc.2.1 hd rfl (hl.2.2.2 1 _ rfl) (k p l e R s m args below meth c A H locs cells slots lsA Qf hc h1 h2 hw hS hl hr)
theorem ev_aload_1 {a0 : Option Value} {t : List (Option Value)} {x : Nat} (hd : fe M pc (.aload_n 1) 1 pc') (k : Ev G M d kc ks Q pc' (a0 :: some (.ref x) :: t) (.ref x :: st) h) : Ev G M d kc ks Q pc (a0 :: some (.ref x) :: t) st h := by
  obtain ⟨hd, rfl⟩ := hd
  intro p l e R s m args below meth c A H locs cells slots lsA Qf hc h1 h2 hw hS hl hr
  exact lv_aload_n hc.1 hc.2.1 hd rfl (hl.2.2.2 1 _ rfl) (k p l e R s m args below meth c A H locs cells slots lsA Qf hc h1 h2 hw hS hl hr)
theorem ev_aloadN_1 {a0 : Option Value} {t : List (Option Value)} (hd : fe M pc (.aload_n 1) 1 pc') (k : Ev G M d kc ks Q pc' (a0 :: some .null :: t) (.null :: st) h) : Ev G M d kc ks Q pc (a0 :: some .null :: t) st h := by
  obtain ⟨hd, rfl⟩ := hd
  intro p l e R s m args below meth c A H locs cells slots lsA Qf hc h1 h2 hw hS hl hr
  exact lv_aload_nN hc.1 hc.2.1 hd rfl (hl.2.2.2 1 _ rfl) (k p l e R s m args below meth c A H locs cells slots lsA Qf hc h1 h2 hw hS hl hr)
theorem ev_istore_1 {a0 a1 : Option Value} {t : List (Option Value)} {x : Int32} (hd : fe M pc (.istore_n 1) 1 pc') (hp : ev_nl a0 = true) (k : Ev G M d kc ks Q pc' (a0 :: some (.int x) :: t) st h) : Ev G M d kc ks Q pc (a0 :: a1 :: t) (.int x :: st) h := by
  obtain ⟨hd, rfl⟩ := hd
  intro p l e R s m args below meth c A H locs cells slots lsA Qf hc h1 h2 hw hS hl hr
  refine lv_istore_n hc.1 hc.2.1 hd rfl (ev_ls_has hl) (Nat.lt_of_lt_of_le (by simp only [List.length_cons]; omega) hl.2.2.1) rfl (fun lsB hB => ?_)
  exact k p l e R s m args below meth c A H locs cells slots lsB Qf hc h1 h2 hw hS (ev_ls_st1 (L := 0) hl.2.2.1 (ev_hp (i := 0) (a := a0) rfl hp) hB) hr
theorem ev_astore_1 {a0 a1 : Option Value} {t : List (Option Value)} {x : Nat} (hd : fe M pc (.astore_n 1) 1 pc') (hp : ev_nl a0 = true) (k : Ev G M d kc ks Q pc' (a0 :: some (.ref x) :: t) st h) : Ev G M d kc ks Q pc (a0 :: a1 :: t) (.ref x :: st) h := by
  obtain ⟨hd, rfl⟩ := hd
  intro p l e R s m args below meth c A H locs cells slots lsA Qf hc h1 h2 hw hS hl hr
  refine lv_astore_n hc.1 hc.2.1 hd rfl (ev_ls_has hl) (Nat.lt_of_lt_of_le (by simp only [List.length_cons]; omega) hl.2.2.1) rfl (fun lsB hB => ?_)
  exact k p l e R s m args below meth c A H locs cells slots lsB Qf hc h1 h2 hw hS (ev_ls_st1 (L := 0) hl.2.2.1 (ev_hp (i := 0) (a := a0) rfl hp) hB) hr
theorem ev_astoreN_1 {a0 a1 : Option Value} {t : List (Option Value)}  (hd : fe M pc (.astore_n 1) 1 pc') (hp : ev_nl a0 = true) (k : Ev G M d kc ks Q pc' (a0 :: some (.null) :: t) st h) : Ev G M d kc ks Q pc (a0 :: a1 :: t) (.null :: st) h := by
  obtain ⟨hd, rfl⟩ := hd
  intro p l e R s m args below meth c A H locs cells slots lsA Qf hc h1 h2 hw hS hl hr
  refine lv_astore_nN hc.1 hc.2.1 hd rfl (ev_ls_has hl) (Nat.lt_of_lt_of_le (by simp only [List.length_cons]; omega) hl.2.2.1) rfl (fun lsB hB => ?_)
  exact k p l e R s m args below meth c A H locs cells slots lsB Qf hc h1 h2 hw hS (ev_ls_st1 (L := 0) hl.2.2.1 (ev_hp (i := 0) (a := a0) rfl hp) hB) hr
theorem ev_lstore_1 {a0 a1 a2 : Option Value} {t : List (Option Value)} {x : Int64} (hd : fe M pc (.lstore_n 1) 1 pc') (hp : ev_nl a0 = true) (k : Ev G M d kc ks Q pc' (a0 :: some (.long x) :: none :: t) st h) : Ev G M d kc ks Q pc (a0 :: a1 :: a2 :: t) (.long x :: st) h := by
  obtain ⟨hd, rfl⟩ := hd
  intro p l e R s m args below meth c A H locs cells slots lsA Qf hc h1 h2 hw hS hl hr
  refine lv_lstore_n hc.1 hc.2.1 hd rfl (ev_ls_has hl) (Nat.lt_of_lt_of_le (by simp only [List.length_cons]; omega) hl.2.2.1) rfl (fun lsB hB => ?_)
  exact k p l e R s m args below meth c A H locs cells slots lsB Qf hc h1 h2 hw hS (ev_ls_st2 hl.2.2.1 (ev_hp (i := 0) (a := a0) rfl hp) hB) hr
theorem ev_iinc_1 {a0 : Option Value} {t : List (Option Value)} {x v : Int32} {n : Int} (hd : fe M pc (.iinc 1 n) 3 pc') (hv : x + Int32.ofInt n = v) (hp : ev_nl a0 = true) (k : Ev G M d kc ks Q pc' (a0 :: some (.int v) :: t) st h) : Ev G M d kc ks Q pc (a0 :: some (.int x) :: t) st h := by
  obtain ⟨hd, rfl⟩ := hd
  intro p l e R s m args below meth c A H locs cells slots lsA Qf hc h1 h2 hw hS hl hr
  obtain ⟨kk, hkk⟩ := List.getElem?_of_mem (ev_pr_mem.mpr (show (a0 :: some (.int x) :: t)[1]? = some (some (.int x)) from rfl))
  refine lv_iinc hc.1 hc.2.1 hd (ev_ls_has hl) hkk hv (Nat.lt_of_lt_of_le (by simp only [List.length_cons]; omega) hl.2.2.1) rfl (fun lsB hB => ?_)
  exact k p l e R s m args below meth c A H locs cells slots lsB Qf hc h1 h2 hw hS (ev_ls_st1 (L := 0) hl.2.2.1 (ev_hp (i := 0) (a := a0) rfl hp) hB) hr
theorem ev_iload_2 {a0 a1 : Option Value} {t : List (Option Value)} {x : Int32} (hd : fe M pc (.iload_n 2) 1 pc') (k : Ev G M d kc ks Q pc' (a0 :: a1 :: some (.int x) :: t) (.int x :: st) h) : Ev G M d kc ks Q pc (a0 :: a1 :: some (.int x) :: t) st h := by
  obtain ⟨hd, rfl⟩ := hd
  intro p l e R s m args below meth c A H locs cells slots lsA Qf hc h1 h2 hw hS hl hr
  exact lv_iload_n hc.1 hc.2.1 hd rfl (hl.2.2.2 2 _ rfl) (k p l e R s m args below meth c A H locs cells slots lsA Qf hc h1 h2 hw hS hl hr)
theorem ev_lload_2 {a0 a1 : Option Value} {t : List (Option Value)} {x : Int64} (hd : fe M pc (.lload_n 2) 1 pc') (k : Ev G M d kc ks Q pc' (a0 :: a1 :: some (.long x) :: t) (.long x :: st) h) : Ev G M d kc ks Q pc (a0 :: a1 :: some (.long x) :: t) st h := by
  obtain ⟨hd, rfl⟩ := hd
  intro p l e R s m args below meth c A H locs cells slots lsA Qf hc h1 h2 hw hS hl hr
  exact lv_lload_n hc.1 hc.2.1 hd rfl (hl.2.2.2 2 _ rfl) (k p l e R s m args below meth c A H locs cells slots lsA Qf hc h1 h2 hw hS hl hr)
theorem ev_aload_2 {a0 a1 : Option Value} {t : List (Option Value)} {x : Nat} (hd : fe M pc (.aload_n 2) 1 pc') (k : Ev G M d kc ks Q pc' (a0 :: a1 :: some (.ref x) :: t) (.ref x :: st) h) : Ev G M d kc ks Q pc (a0 :: a1 :: some (.ref x) :: t) st h := by
  obtain ⟨hd, rfl⟩ := hd
  intro p l e R s m args below meth c A H locs cells slots lsA Qf hc h1 h2 hw hS hl hr
  exact lv_aload_n hc.1 hc.2.1 hd rfl (hl.2.2.2 2 _ rfl) (k p l e R s m args below meth c A H locs cells slots lsA Qf hc h1 h2 hw hS hl hr)
theorem ev_aloadN_2 {a0 a1 : Option Value} {t : List (Option Value)} (hd : fe M pc (.aload_n 2) 1 pc') (k : Ev G M d kc ks Q pc' (a0 :: a1 :: some .null :: t) (.null :: st) h) : Ev G M d kc ks Q pc (a0 :: a1 :: some .null :: t) st h := by
  obtain ⟨hd, rfl⟩ := hd
  intro p l e R s m args below meth c A H locs cells slots lsA Qf hc h1 h2 hw hS hl hr
  exact lv_aload_nN hc.1 hc.2.1 hd rfl (hl.2.2.2 2 _ rfl) (k p l e R s m args below meth c A H locs cells slots lsA Qf hc h1 h2 hw hS hl hr)
theorem ev_istore_2 {a0 a1 a2 : Option Value} {t : List (Option Value)} {x : Int32} (hd : fe M pc (.istore_n 2) 1 pc') (hp : ev_nl a1 = true) (k : Ev G M d kc ks Q pc' (a0 :: a1 :: some (.int x) :: t) st h) : Ev G M d kc ks Q pc (a0 :: a1 :: a2 :: t) (.int x :: st) h := by
  obtain ⟨hd, rfl⟩ := hd
  intro p l e R s m args below meth c A H locs cells slots lsA Qf hc h1 h2 hw hS hl hr
  refine lv_istore_n hc.1 hc.2.1 hd rfl (ev_ls_has hl) (Nat.lt_of_lt_of_le (by simp only [List.length_cons]; omega) hl.2.2.1) rfl (fun lsB hB => ?_)
  exact k p l e R s m args below meth c A H locs cells slots lsB Qf hc h1 h2 hw hS (ev_ls_st1 (L := 0) hl.2.2.1 (ev_hp (i := 1) (a := a1) rfl hp) hB) hr
theorem ev_astore_2 {a0 a1 a2 : Option Value} {t : List (Option Value)} {x : Nat} (hd : fe M pc (.astore_n 2) 1 pc') (hp : ev_nl a1 = true) (k : Ev G M d kc ks Q pc' (a0 :: a1 :: some (.ref x) :: t) st h) : Ev G M d kc ks Q pc (a0 :: a1 :: a2 :: t) (.ref x :: st) h := by
  obtain ⟨hd, rfl⟩ := hd
  intro p l e R s m args below meth c A H locs cells slots lsA Qf hc h1 h2 hw hS hl hr
  refine lv_astore_n hc.1 hc.2.1 hd rfl (ev_ls_has hl) (Nat.lt_of_lt_of_le (by simp only [List.length_cons]; omega) hl.2.2.1) rfl (fun lsB hB => ?_)
  exact k p l e R s m args below meth c A H locs cells slots lsB Qf hc h1 h2 hw hS (ev_ls_st1 (L := 0) hl.2.2.1 (ev_hp (i := 1) (a := a1) rfl hp) hB) hr
theorem ev_astoreN_2 {a0 a1 a2 : Option Value} {t : List (Option Value)}  (hd : fe M pc (.astore_n 2) 1 pc') (hp : ev_nl a1 = true) (k : Ev G M d kc ks Q pc' (a0 :: a1 :: some (.null) :: t) st h) : Ev G M d kc ks Q pc (a0 :: a1 :: a2 :: t) (.null :: st) h := by
  obtain ⟨hd, rfl⟩ := hd
  intro p l e R s m args below meth c A H locs cells slots lsA Qf hc h1 h2 hw hS hl hr
  refine lv_astore_nN hc.1 hc.2.1 hd rfl (ev_ls_has hl) (Nat.lt_of_lt_of_le (by simp only [List.length_cons]; omega) hl.2.2.1) rfl (fun lsB hB => ?_)
  exact k p l e R s m args below meth c A H locs cells slots lsB Qf hc h1 h2 hw hS (ev_ls_st1 (L := 0) hl.2.2.1 (ev_hp (i := 1) (a := a1) rfl hp) hB) hr
theorem ev_lstore_2 {a0 a1 a2 a3 : Option Value} {t : List (Option Value)} {x : Int64} (hd : fe M pc (.lstore_n 2) 1 pc') (hp : ev_nl a1 = true) (k : Ev G M d kc ks Q pc' (a0 :: a1 :: some (.long x) :: none :: t) st h) : Ev G M d kc ks Q pc (a0 :: a1 :: a2 :: a3 :: t) (.long x :: st) h := by
  obtain ⟨hd, rfl⟩ := hd
  intro p l e R s m args below meth c A H locs cells slots lsA Qf hc h1 h2 hw hS hl hr
  refine lv_lstore_n hc.1 hc.2.1 hd rfl (ev_ls_has hl) (Nat.lt_of_lt_of_le (by simp only [List.length_cons]; omega) hl.2.2.1) rfl (fun lsB hB => ?_)
  exact k p l e R s m args below meth c A H locs cells slots lsB Qf hc h1 h2 hw hS (ev_ls_st2 hl.2.2.1 (ev_hp (i := 1) (a := a1) rfl hp) hB) hr
theorem ev_iinc_2 {a0 a1 : Option Value} {t : List (Option Value)} {x v : Int32} {n : Int} (hd : fe M pc (.iinc 2 n) 3 pc') (hv : x + Int32.ofInt n = v) (hp : ev_nl a1 = true) (k : Ev G M d kc ks Q pc' (a0 :: a1 :: some (.int v) :: t) st h) : Ev G M d kc ks Q pc (a0 :: a1 :: some (.int x) :: t) st h := by
  obtain ⟨hd, rfl⟩ := hd
  intro p l e R s m args below meth c A H locs cells slots lsA Qf hc h1 h2 hw hS hl hr
  obtain ⟨kk, hkk⟩ := List.getElem?_of_mem (ev_pr_mem.mpr (show (a0 :: a1 :: some (.int x) :: t)[2]? = some (some (.int x)) from rfl))
  refine lv_iinc hc.1 hc.2.1 hd (ev_ls_has hl) hkk hv (Nat.lt_of_lt_of_le (by simp only [List.length_cons]; omega) hl.2.2.1) rfl (fun lsB hB => ?_)
  exact k p l e R s m args below meth c A H locs cells slots lsB Qf hc h1 h2 hw hS (ev_ls_st1 (L := 0) hl.2.2.1 (ev_hp (i := 1) (a := a1) rfl hp) hB) hr
theorem ev_iload_3 {a0 a1 a2 : Option Value} {t : List (Option Value)} {x : Int32} (hd : fe M pc (.iload_n 3) 1 pc') (k : Ev G M d kc ks Q pc' (a0 :: a1 :: a2 :: some (.int x) :: t) (.int x :: st) h) : Ev G M d kc ks Q pc (a0 :: a1 :: a2 :: some (.int x) :: t) st h := by
  obtain ⟨hd, rfl⟩ := hd
  intro p l e R s m args below meth c A H locs cells slots lsA Qf hc h1 h2 hw hS hl hr
  exact lv_iload_n hc.1 hc.2.1 hd rfl (hl.2.2.2 3 _ rfl) (k p l e R s m args below meth c A H locs cells slots lsA Qf hc h1 h2 hw hS hl hr)
theorem ev_lload_3 {a0 a1 a2 : Option Value} {t : List (Option Value)} {x : Int64} (hd : fe M pc (.lload_n 3) 1 pc') (k : Ev G M d kc ks Q pc' (a0 :: a1 :: a2 :: some (.long x) :: t) (.long x :: st) h) : Ev G M d kc ks Q pc (a0 :: a1 :: a2 :: some (.long x) :: t) st h := by
  obtain ⟨hd, rfl⟩ := hd
  intro p l e R s m args below meth c A H locs cells slots lsA Qf hc h1 h2 hw hS hl hr
  exact lv_lload_n hc.1 hc.2.1 hd rfl (hl.2.2.2 3 _ rfl) (k p l e R s m args below meth c A H locs cells slots lsA Qf hc h1 h2 hw hS hl hr)
theorem ev_aload_3 {a0 a1 a2 : Option Value} {t : List (Option Value)} {x : Nat} (hd : fe M pc (.aload_n 3) 1 pc') (k : Ev G M d kc ks Q pc' (a0 :: a1 :: a2 :: some (.ref x) :: t) (.ref x :: st) h) : Ev G M d kc ks Q pc (a0 :: a1 :: a2 :: some (.ref x) :: t) st h := by
  obtain ⟨hd, rfl⟩ := hd
  intro p l e R s m args below meth c A H locs cells slots lsA Qf hc h1 h2 hw hS hl hr
  exact lv_aload_n hc.1 hc.2.1 hd rfl (hl.2.2.2 3 _ rfl) (k p l e R s m args below meth c A H locs cells slots lsA Qf hc h1 h2 hw hS hl hr)
theorem ev_aloadN_3 {a0 a1 a2 : Option Value} {t : List (Option Value)} (hd : fe M pc (.aload_n 3) 1 pc') (k : Ev G M d kc ks Q pc' (a0 :: a1 :: a2 :: some .null :: t) (.null :: st) h) : Ev G M d kc ks Q pc (a0 :: a1 :: a2 :: some .null :: t) st h := by
  obtain ⟨hd, rfl⟩ := hd
  intro p l e R s m args below meth c A H locs cells slots lsA Qf hc h1 h2 hw hS hl hr
  exact lv_aload_nN hc.1 hc.2.1 hd rfl (hl.2.2.2 3 _ rfl) (k p l e R s m args below meth c A H locs cells slots lsA Qf hc h1 h2 hw hS hl hr)
theorem ev_istore_3 {a0 a1 a2 a3 : Option Value} {t : List (Option Value)} {x : Int32} (hd : fe M pc (.istore_n 3) 1 pc') (hp : ev_nl a2 = true) (k : Ev G M d kc ks Q pc' (a0 :: a1 :: a2 :: some (.int x) :: t) st h) : Ev G M d kc ks Q pc (a0 :: a1 :: a2 :: a3 :: t) (.int x :: st) h := by
  obtain ⟨hd, rfl⟩ := hd
  intro p l e R s m args below meth c A H locs cells slots lsA Qf hc h1 h2 hw hS hl hr
  refine lv_istore_n hc.1 hc.2.1 hd rfl (ev_ls_has hl) (Nat.lt_of_lt_of_le (by simp only [List.length_cons]; omega) hl.2.2.1) rfl (fun lsB hB => ?_)
  exact k p l e R s m args below meth c A H locs cells slots lsB Qf hc h1 h2 hw hS (ev_ls_st1 (L := 0) hl.2.2.1 (ev_hp (i := 2) (a := a2) rfl hp) hB) hr
theorem ev_astore_3 {a0 a1 a2 a3 : Option Value} {t : List (Option Value)} {x : Nat} (hd : fe M pc (.astore_n 3) 1 pc') (hp : ev_nl a2 = true) (k : Ev G M d kc ks Q pc' (a0 :: a1 :: a2 :: some (.ref x) :: t) st h) : Ev G M d kc ks Q pc (a0 :: a1 :: a2 :: a3 :: t) (.ref x :: st) h := by
  obtain ⟨hd, rfl⟩ := hd
  intro p l e R s m args below meth c A H locs cells slots lsA Qf hc h1 h2 hw hS hl hr
  refine lv_astore_n hc.1 hc.2.1 hd rfl (ev_ls_has hl) (Nat.lt_of_lt_of_le (by simp only [List.length_cons]; omega) hl.2.2.1) rfl (fun lsB hB => ?_)
  exact k p l e R s m args below meth c A H locs cells slots lsB Qf hc h1 h2 hw hS (ev_ls_st1 (L := 0) hl.2.2.1 (ev_hp (i := 2) (a := a2) rfl hp) hB) hr
theorem ev_astoreN_3 {a0 a1 a2 a3 : Option Value} {t : List (Option Value)}  (hd : fe M pc (.astore_n 3) 1 pc') (hp : ev_nl a2 = true) (k : Ev G M d kc ks Q pc' (a0 :: a1 :: a2 :: some (.null) :: t) st h) : Ev G M d kc ks Q pc (a0 :: a1 :: a2 :: a3 :: t) (.null :: st) h := by
  obtain ⟨hd, rfl⟩ := hd
  intro p l e R s m args below meth c A H locs cells slots lsA Qf hc h1 h2 hw hS hl hr
  refine lv_astore_nN hc.1 hc.2.1 hd rfl (ev_ls_has hl) (Nat.lt_of_lt_of_le (by simp only [List.length_cons]; omega) hl.2.2.1) rfl (fun lsB hB => ?_)
  exact k p l e R s m args below meth c A H locs cells slots lsB Qf hc h1 h2 hw hS (ev_ls_st1 (L := 0) hl.2.2.1 (ev_hp (i := 2) (a := a2) rfl hp) hB) hr
theorem ev_lstore_3 {a0 a1 a2 a3 a4 : Option Value} {t : List (Option Value)} {x : Int64} (hd : fe M pc (.lstore_n 3) 1 pc') (hp : ev_nl a2 = true) (k : Ev G M d kc ks Q pc' (a0 :: a1 :: a2 :: some (.long x) :: none :: t) st h) : Ev G M d kc ks Q pc (a0 :: a1 :: a2 :: a3 :: a4 :: t) (.long x :: st) h := by
  obtain ⟨hd, rfl⟩ := hd
  intro p l e R s m args below meth c A H locs cells slots lsA Qf hc h1 h2 hw hS hl hr
  refine lv_lstore_n hc.1 hc.2.1 hd rfl (ev_ls_has hl) (Nat.lt_of_lt_of_le (by simp only [List.length_cons]; omega) hl.2.2.1) rfl (fun lsB hB => ?_)
  exact k p l e R s m args below meth c A H locs cells slots lsB Qf hc h1 h2 hw hS (ev_ls_st2 hl.2.2.1 (ev_hp (i := 2) (a := a2) rfl hp) hB) hr
theorem ev_iinc_3 {a0 a1 a2 : Option Value} {t : List (Option Value)} {x v : Int32} {n : Int} (hd : fe M pc (.iinc 3 n) 3 pc') (hv : x + Int32.ofInt n = v) (hp : ev_nl a2 = true) (k : Ev G M d kc ks Q pc' (a0 :: a1 :: a2 :: some (.int v) :: t) st h) : Ev G M d kc ks Q pc (a0 :: a1 :: a2 :: some (.int x) :: t) st h := by
  obtain ⟨hd, rfl⟩ := hd
  intro p l e R s m args below meth c A H locs cells slots lsA Qf hc h1 h2 hw hS hl hr
  obtain ⟨kk, hkk⟩ := List.getElem?_of_mem (ev_pr_mem.mpr (show (a0 :: a1 :: a2 :: some (.int x) :: t)[3]? = some (some (.int x)) from rfl))
  refine lv_iinc hc.1 hc.2.1 hd (ev_ls_has hl) hkk hv (Nat.lt_of_lt_of_le (by simp only [List.length_cons]; omega) hl.2.2.1) rfl (fun lsB hB => ?_)
  exact k p l e R s m args below meth c A H locs cells slots lsB Qf hc h1 h2 hw hS (ev_ls_st1 (L := 0) hl.2.2.1 (ev_hp (i := 2) (a := a2) rfl hp) hB) hr
theorem ev_iload_4 {a0 a1 a2 a3 : Option Value} {t : List (Option Value)} {x : Int32} (hd : fe M pc (.iload 4) 2 pc') (k : Ev G M d kc ks Q pc' (a0 :: a1 :: a2 :: a3 :: some (.int x) :: t) (.int x :: st) h) : Ev G M d kc ks Q pc (a0 :: a1 :: a2 :: a3 :: some (.int x) :: t) st h := by
  obtain ⟨hd, rfl⟩ := hd
  intro p l e R s m args below meth c A H locs cells slots lsA Qf hc h1 h2 hw hS hl hr
  exact lv_iload hc.1 hc.2.1 hd (hl.2.2.2 4 _ rfl) (k p l e R s m args below meth c A H locs cells slots lsA Qf hc h1 h2 hw hS hl hr)
theorem ev_lload_4 {a0 a1 a2 a3 : Option Value} {t : List (Option Value)} {x : Int64} (hd : fe M pc (.lload 4) 2 pc') (k : Ev G M d kc ks Q pc' (a0 :: a1 :: a2 :: a3 :: some (.long x) :: t) (.long x :: st) h) : Ev G M d kc ks Q pc (a0 :: a1 :: a2 :: a3 :: some (.long x) :: t) st h := by
  obtain ⟨hd, rfl⟩ := hd
  intro p l e R s m args below meth c A H locs cells slots lsA Qf hc h1 h2 hw hS hl hr
  exact lv_lload hc.1 hc.2.1 hd (hl.2.2.2 4 _ rfl) (k p l e R s m args below meth c A H locs cells slots lsA Qf hc h1 h2 hw hS hl hr)
theorem ev_aload_4 {a0 a1 a2 a3 : Option Value} {t : List (Option Value)} {x : Nat} (hd : fe M pc (.aload 4) 2 pc') (k : Ev G M d kc ks Q pc' (a0 :: a1 :: a2 :: a3 :: some (.ref x) :: t) (.ref x :: st) h) : Ev G M d kc ks Q pc (a0 :: a1 :: a2 :: a3 :: some (.ref x) :: t) st h := by
  obtain ⟨hd, rfl⟩ := hd
  intro p l e R s m args below meth c A H locs cells slots lsA Qf hc h1 h2 hw hS hl hr
  exact lv_aload hc.1 hc.2.1 hd (hl.2.2.2 4 _ rfl) (k p l e R s m args below meth c A H locs cells slots lsA Qf hc h1 h2 hw hS hl hr)
theorem ev_aloadN_4 {a0 a1 a2 a3 : Option Value} {t : List (Option Value)} (hd : fe M pc (.aload 4) 2 pc') (k : Ev G M d kc ks Q pc' (a0 :: a1 :: a2 :: a3 :: some .null :: t) (.null :: st) h) : Ev G M d kc ks Q pc (a0 :: a1 :: a2 :: a3 :: some .null :: t) st h := by
  obtain ⟨hd, rfl⟩ := hd
  intro p l e R s m args below meth c A H locs cells slots lsA Qf hc h1 h2 hw hS hl hr
  exact lv_aloadN hc.1 hc.2.1 hd (hl.2.2.2 4 _ rfl) (k p l e R s m args below meth c A H locs cells slots lsA Qf hc h1 h2 hw hS hl hr)
theorem ev_istore_4 {a0 a1 a2 a3 a4 : Option Value} {t : List (Option Value)} {x : Int32} (hd : fe M pc (.istore 4) 2 pc') (hp : ev_nl a3 = true) (k : Ev G M d kc ks Q pc' (a0 :: a1 :: a2 :: a3 :: some (.int x) :: t) st h) : Ev G M d kc ks Q pc (a0 :: a1 :: a2 :: a3 :: a4 :: t) (.int x :: st) h := by
  obtain ⟨hd, rfl⟩ := hd
  intro p l e R s m args below meth c A H locs cells slots lsA Qf hc h1 h2 hw hS hl hr
  refine lv_istore hc.1 hc.2.1 hd (ev_ls_has hl) (Nat.lt_of_lt_of_le (by simp only [List.length_cons]; omega) hl.2.2.1) rfl (fun lsB hB => ?_)
  exact k p l e R s m args below meth c A H locs cells slots lsB Qf hc h1 h2 hw hS (ev_ls_st1 (L := 0) hl.2.2.1 (ev_hp (i := 3) (a := a3) rfl hp) hB) hr
theorem ev_astore_4 {a0 a1 a2 a3 a4 : Option Value} {t : List (Option Value)} {x : Nat} (hd : fe M pc (.astore 4) 2 pc') (hp : ev_nl a3 = true) (k : Ev G M d kc ks Q pc' (a0 :: a1 :: a2 :: a3 :: some (.ref x) :: t) st h) : Ev G M d kc ks Q pc (a0 :: a1 :: a2 :: a3 :: a4 :: t) (.ref x :: st) h := by
  obtain ⟨hd, rfl⟩ := hd
  intro p l e R s m args below meth c A H locs cells slots lsA Qf hc h1 h2 hw hS hl hr
  refine lv_astore hc.1 hc.2.1 hd (ev_ls_has hl) (Nat.lt_of_lt_of_le (by simp only [List.length_cons]; omega) hl.2.2.1) rfl (fun lsB hB => ?_)
  exact k p l e R s m args below meth c A H locs cells slots lsB Qf hc h1 h2 hw hS (ev_ls_st1 (L := 0) hl.2.2.1 (ev_hp (i := 3) (a := a3) rfl hp) hB) hr
theorem ev_astoreN_4 {a0 a1 a2 a3 a4 : Option Value} {t : List (Option Value)}  (hd : fe M pc (.astore 4) 2 pc') (hp : ev_nl a3 = true) (k : Ev G M d kc ks Q pc' (a0 :: a1 :: a2 :: a3 :: some (.null) :: t) st h) : Ev G M d kc ks Q pc (a0 :: a1 :: a2 :: a3 :: a4 :: t) (.null :: st) h := by
  obtain ⟨hd, rfl⟩ := hd
  intro p l e R s m args below meth c A H locs cells slots lsA Qf hc h1 h2 hw hS hl hr
  refine lv_astoreN hc.1 hc.2.1 hd (ev_ls_has hl) (Nat.lt_of_lt_of_le (by simp only [List.length_cons]; omega) hl.2.2.1) rfl (fun lsB hB => ?_)
  exact k p l e R s m args below meth c A H locs cells slots lsB Qf hc h1 h2 hw hS (ev_ls_st1 (L := 0) hl.2.2.1 (ev_hp (i := 3) (a := a3) rfl hp) hB) hr
theorem ev_lstore_4 {a0 a1 a2 a3 a4 a5 : Option Value} {t : List (Option Value)} {x : Int64} (hd : fe M pc (.lstore 4) 2 pc') (hp : ev_nl a3 = true) (k : Ev G M d kc ks Q pc' (a0 :: a1 :: a2 :: a3 :: some (.long x) :: none :: t) st h) : Ev G M d kc ks Q pc (a0 :: a1 :: a2 :: a3 :: a4 :: a5 :: t) (.long x :: st) h := by
  obtain ⟨hd, rfl⟩ := hd
  intro p l e R s m args below meth c A H locs cells slots lsA Qf hc h1 h2 hw hS hl hr
  refine lv_lstore hc.1 hc.2.1 hd (ev_ls_has hl) (Nat.lt_of_lt_of_le (by simp only [List.length_cons]; omega) hl.2.2.1) rfl (fun lsB hB => ?_)
  exact k p l e R s m args below meth c A H locs cells slots lsB Qf hc h1 h2 hw hS (ev_ls_st2 hl.2.2.1 (ev_hp (i := 3) (a := a3) rfl hp) hB) hr
theorem ev_iinc_4 {a0 a1 a2 a3 : Option Value} {t : List (Option Value)} {x v : Int32} {n : Int} (hd : fe M pc (.iinc 4 n) 3 pc') (hv : x + Int32.ofInt n = v) (hp : ev_nl a3 = true) (k : Ev G M d kc ks Q pc' (a0 :: a1 :: a2 :: a3 :: some (.int v) :: t) st h) : Ev G M d kc ks Q pc (a0 :: a1 :: a2 :: a3 :: some (.int x) :: t) st h := by
  obtain ⟨hd, rfl⟩ := hd
  intro p l e R s m args below meth c A H locs cells slots lsA Qf hc h1 h2 hw hS hl hr
  obtain ⟨kk, hkk⟩ := List.getElem?_of_mem (ev_pr_mem.mpr (show (a0 :: a1 :: a2 :: a3 :: some (.int x) :: t)[4]? = some (some (.int x)) from rfl))
  refine lv_iinc hc.1 hc.2.1 hd (ev_ls_has hl) hkk hv (Nat.lt_of_lt_of_le (by simp only [List.length_cons]; omega) hl.2.2.1) rfl (fun lsB hB => ?_)
  exact k p l e R s m args below meth c A H locs cells slots lsB Qf hc h1 h2 hw hS (ev_ls_st1 (L := 0) hl.2.2.1 (ev_hp (i := 3) (a := a3) rfl hp) hB) hr
theorem ev_iload_5 {a0 a1 a2 a3 a4 : Option Value} {t : List (Option Value)} {x : Int32} (hd : fe M pc (.iload 5) 2 pc') (k : Ev G M d kc ks Q pc' (a0 :: a1 :: a2 :: a3 :: a4 :: some (.int x) :: t) (.int x :: st) h) : Ev G M d kc ks Q pc (a0 :: a1 :: a2 :: a3 :: a4 :: some (.int x) :: t) st h := by
  obtain ⟨hd, rfl⟩ := hd
  intro p l e R s m args below meth c A H locs cells slots lsA Qf hc h1 h2 hw hS hl hr
  exact lv_iload hc.1 hc.2.1 hd (hl.2.2.2 5 _ rfl) (k p l e R s m args below meth c A H locs cells slots lsA Qf hc h1 h2 hw hS hl hr)
theorem ev_lload_5 {a0 a1 a2 a3 a4 : Option Value} {t : List (Option Value)} {x : Int64} (hd : fe M pc (.lload 5) 2 pc') (k : Ev G M d kc ks Q pc' (a0 :: a1 :: a2 :: a3 :: a4 :: some (.long x) :: t) (.long x :: st) h) : Ev G M d kc ks Q pc (a0 :: a1 :: a2 :: a3 :: a4 :: some (.long x) :: t) st h := by
  obtain ⟨hd, rfl⟩ := hd
  intro p l e R s m args below meth c A H locs cells slots lsA Qf hc h1 h2 hw hS hl hr
  exact lv_lload hc.1 hc.2.1 hd (hl.2.2.2 5 _ rfl) (k p l e R s m args below meth c A H locs cells slots lsA Qf hc h1 h2 hw hS hl hr)
theorem ev_aload_5 {a0 a1 a2 a3 a4 : Option Value} {t : List (Option Value)} {x : Nat} (hd : fe M pc (.aload 5) 2 pc') (k : Ev G M d kc ks Q pc' (a0 :: a1 :: a2 :: a3 :: a4 :: some (.ref x) :: t) (.ref x :: st) h) : Ev G M d kc ks Q pc (a0 :: a1 :: a2 :: a3 :: a4 :: some (.ref x) :: t) st h := by
  obtain ⟨hd, rfl⟩ := hd
  intro p l e R s m args below meth c A H locs cells slots lsA Qf hc h1 h2 hw hS hl hr
  exact lv_aload hc.1 hc.2.1 hd (hl.2.2.2 5 _ rfl) (k p l e R s m args below meth c A H locs cells slots lsA Qf hc h1 h2 hw hS hl hr)
theorem ev_aloadN_5 {a0 a1 a2 a3 a4 : Option Value} {t : List (Option Value)} (hd : fe M pc (.aload 5) 2 pc') (k : Ev G M d kc ks Q pc' (a0 :: a1 :: a2 :: a3 :: a4 :: some .null :: t) (.null :: st) h) : Ev G M d kc ks Q pc (a0 :: a1 :: a2 :: a3 :: a4 :: some .null :: t) st h := by
  obtain ⟨hd, rfl⟩ := hd
  intro p l e R s m args below meth c A H locs cells slots lsA Qf hc h1 h2 hw hS hl hr
  exact lv_aloadN hc.1 hc.2.1 hd (hl.2.2.2 5 _ rfl) (k p l e R s m args below meth c A H locs cells slots lsA Qf hc h1 h2 hw hS hl hr)
theorem ev_istore_5 {a0 a1 a2 a3 a4 a5 : Option Value} {t : List (Option Value)} {x : Int32} (hd : fe M pc (.istore 5) 2 pc') (hp : ev_nl a4 = true) (k : Ev G M d kc ks Q pc' (a0 :: a1 :: a2 :: a3 :: a4 :: some (.int x) :: t) st h) : Ev G M d kc ks Q pc (a0 :: a1 :: a2 :: a3 :: a4 :: a5 :: t) (.int x :: st) h := by
  obtain ⟨hd, rfl⟩ := hd
  intro p l e R s m args below meth c A H locs cells slots lsA Qf hc h1 h2 hw hS hl hr
  refine lv_istore hc.1 hc.2.1 hd (ev_ls_has hl) (Nat.lt_of_lt_of_le (by simp only [List.length_cons]; omega) hl.2.2.1) rfl (fun lsB hB => ?_)
  exact k p l e R s m args below meth c A H locs cells slots lsB Qf hc h1 h2 hw hS (ev_ls_st1 (L := 0) hl.2.2.1 (ev_hp (i := 4) (a := a4) rfl hp) hB) hr
theorem ev_astore_5 {a0 a1 a2 a3 a4 a5 : Option Value} {t : List (Option Value)} {x : Nat} (hd : fe M pc (.astore 5) 2 pc') (hp : ev_nl a4 = true) (k : Ev G M d kc ks Q pc' (a0 :: a1 :: a2 :: a3 :: a4 :: some (.ref x) :: t) st h) : Ev G M d kc ks Q pc (a0 :: a1 :: a2 :: a3 :: a4 :: a5 :: t) (.ref x :: st) h := by
  obtain ⟨hd, rfl⟩ := hd
  intro p l e R s m args below meth c A H locs cells slots lsA Qf hc h1 h2 hw hS hl hr
  refine lv_astore hc.1 hc.2.1 hd (ev_ls_has hl) (Nat.lt_of_lt_of_le (by simp only [List.length_cons]; omega) hl.2.2.1) rfl (fun lsB hB => ?_)
  exact k p l e R s m args below meth c A H locs cells slots lsB Qf hc h1 h2 hw hS (ev_ls_st1 (L := 0) hl.2.2.1 (ev_hp (i := 4) (a := a4) rfl hp) hB) hr
theorem ev_astoreN_5 {a0 a1 a2 a3 a4 a5 : Option Value} {t : List (Option Value)}  (hd : fe M pc (.astore 5) 2 pc') (hp : ev_nl a4 = true) (k : Ev G M d kc ks Q pc' (a0 :: a1 :: a2 :: a3 :: a4 :: some (.null) :: t) st h) : Ev G M d kc ks Q pc (a0 :: a1 :: a2 :: a3 :: a4 :: a5 :: t) (.null :: st) h := by
  obtain ⟨hd, rfl⟩ := hd
  intro p l e R s m args below meth c A H locs cells slots lsA Qf hc h1 h2 hw hS hl hr
  refine lv_astoreN hc.1 hc.2.1 hd (ev_ls_has hl) (Nat.lt_of_lt_of_le (by simp only [List.length_cons]; omega) hl.2.2.1) rfl (fun lsB hB => ?_)
  exact k p l e R s m args below meth c A H locs cells slots lsB Qf hc h1 h2 hw hS (ev_ls_st1 (L := 0) hl.2.2.1 (ev_hp (i := 4) (a := a4) rfl hp) hB) hr
theorem ev_lstore_5 {a0 a1 a2 a3 a4 a5 a6 : Option Value} {t : List (Option Value)} {x : Int64} (hd : fe M pc (.lstore 5) 2 pc') (hp : ev_nl a4 = true) (k : Ev G M d kc ks Q pc' (a0 :: a1 :: a2 :: a3 :: a4 :: some (.long x) :: none :: t) st h) : Ev G M d kc ks Q pc (a0 :: a1 :: a2 :: a3 :: a4 :: a5 :: a6 :: t) (.long x :: st) h := by
  obtain ⟨hd, rfl⟩ := hd
  intro p l e R s m args below meth c A H locs cells slots lsA Qf hc h1 h2 hw hS hl hr
  refine lv_lstore hc.1 hc.2.1 hd (ev_ls_has hl) (Nat.lt_of_lt_of_le (by simp only [List.length_cons]; omega) hl.2.2.1) rfl (fun lsB hB => ?_)
  exact k p l e R s m args below meth c A H locs cells slots lsB Qf hc h1 h2 hw hS (ev_ls_st2 hl.2.2.1 (ev_hp (i := 4) (a := a4) rfl hp) hB) hr
theorem ev_iinc_5 {a0 a1 a2 a3 a4 : Option Value} {t : List (Option Value)} {x v : Int32} {n : Int} (hd : fe M pc (.iinc 5 n) 3 pc') (hv : x + Int32.ofInt n = v) (hp : ev_nl a4 = true) (k : Ev G M d kc ks Q pc' (a0 :: a1 :: a2 :: a3 :: a4 :: some (.int v) :: t) st h) : Ev G M d kc ks Q pc (a0 :: a1 :: a2 :: a3 :: a4 :: some (.int x) :: t) st h := by
  obtain ⟨hd, rfl⟩ := hd
  intro p l e R s m args below meth c A H locs cells slots lsA Qf hc h1 h2 hw hS hl hr
  obtain ⟨kk, hkk⟩ := List.getElem?_of_mem (ev_pr_mem.mpr (show (a0 :: a1 :: a2 :: a3 :: a4 :: some (.int x) :: t)[5]? = some (some (.int x)) from rfl))
  refine lv_iinc hc.1 hc.2.1 hd (ev_ls_has hl) hkk hv (Nat.lt_of_lt_of_le (by simp only [List.length_cons]; omega) hl.2.2.1) rfl (fun lsB hB => ?_)
  exact k p l e R s m args below meth c A H locs cells slots lsB Qf hc h1 h2 hw hS (ev_ls_st1 (L := 0) hl.2.2.1 (ev_hp (i := 4) (a := a4) rfl hp) hB) hr
theorem ev_iload_6 {a0 a1 a2 a3 a4 a5 : Option Value} {t : List (Option Value)} {x : Int32} (hd : fe M pc (.iload 6) 2 pc') (k : Ev G M d kc ks Q pc' (a0 :: a1 :: a2 :: a3 :: a4 :: a5 :: some (.int x) :: t) (.int x :: st) h) : Ev G M d kc ks Q pc (a0 :: a1 :: a2 :: a3 :: a4 :: a5 :: some (.int x) :: t) st h := by
  obtain ⟨hd, rfl⟩ := hd
  intro p l e R s m args below meth c A H locs cells slots lsA Qf hc h1 h2 hw hS hl hr
  exact lv_iload hc.1 hc.2.1 hd (hl.2.2.2 6 _ rfl) (k p l e R s m args below meth c A H locs cells slots lsA Qf hc h1 h2 hw hS hl hr)
theorem ev_lload_6 {a0 a1 a2 a3 a4 a5 : Option Value} {t : List (Option Value)} {x : Int64} (hd : fe M pc (.lload 6) 2 pc') (k : Ev G M d kc ks Q pc' (a0 :: a1 :: a2 :: a3 :: a4 :: a5 :: some (.long x) :: t) (.long x :: st) h) : Ev G M d kc ks Q pc (a0 :: a1 :: a2 :: a3 :: a4 :: a5 :: some (.long x) :: t) st h := by
  obtain ⟨hd, rfl⟩ := hd
  intro p l e R s m args below meth c A H locs cells slots lsA Qf hc h1 h2 hw hS hl hr
  exact lv_lload hc.1 hc.2.1 hd (hl.2.2.2 6 _ rfl) (k p l e R s m args below meth c A H locs cells slots lsA Qf hc h1 h2 hw hS hl hr)
theorem ev_aload_6 {a0 a1 a2 a3 a4 a5 : Option Value} {t : List (Option Value)} {x : Nat} (hd : fe M pc (.aload 6) 2 pc') (k : Ev G M d kc ks Q pc' (a0 :: a1 :: a2 :: a3 :: a4 :: a5 :: some (.ref x) :: t) (.ref x :: st) h) : Ev G M d kc ks Q pc (a0 :: a1 :: a2 :: a3 :: a4 :: a5 :: some (.ref x) :: t) st h := by
  obtain ⟨hd, rfl⟩ := hd
  intro p l e R s m args below meth c A H locs cells slots lsA Qf hc h1 h2 hw hS hl hr
  exact lv_aload hc.1 hc.2.1 hd (hl.2.2.2 6 _ rfl) (k p l e R s m args below meth c A H locs cells slots lsA Qf hc h1 h2 hw hS hl hr)
theorem ev_aloadN_6 {a0 a1 a2 a3 a4 a5 : Option Value} {t : List (Option Value)} (hd : fe M pc (.aload 6) 2 pc') (k : Ev G M d kc ks Q pc' (a0 :: a1 :: a2 :: a3 :: a4 :: a5 :: some .null :: t) (.null :: st) h) : Ev G M d kc ks Q pc (a0 :: a1 :: a2 :: a3 :: a4 :: a5 :: some .null :: t) st h := by
  obtain ⟨hd, rfl⟩ := hd
  intro p l e R s m args below meth c A H locs cells slots lsA Qf hc h1 h2 hw hS hl hr
  exact lv_aloadN hc.1 hc.2.1 hd (hl.2.2.2 6 _ rfl) (k p l e R s m args below meth c A H locs cells slots lsA Qf hc h1 h2 hw hS hl hr)
theorem ev_istore_6 {a0 a1 a2 a3 a4 a5 a6 : Option Value} {t : List (Option Value)} {x : Int32} (hd : fe M pc (.istore 6) 2 pc') (hp : ev_nl a5 = true) (k : Ev G M d kc ks Q pc' (a0 :: a1 :: a2 :: a3 :: a4 :: a5 :: some (.int x) :: t) st h) : Ev G M d kc ks Q pc (a0 :: a1 :: a2 :: a3 :: a4 :: a5 :: a6 :: t) (.int x :: st) h := by
  obtain ⟨hd, rfl⟩ := hd
  intro p l e R s m args below meth c A H locs cells slots lsA Qf hc h1 h2 hw hS hl hr
  refine lv_istore hc.1 hc.2.1 hd (ev_ls_has hl) (Nat.lt_of_lt_of_le (by simp only [List.length_cons]; omega) hl.2.2.1) rfl (fun lsB hB => ?_)
  exact k p l e R s m args below meth c A H locs cells slots lsB Qf hc h1 h2 hw hS (ev_ls_st1 (L := 0) hl.2.2.1 (ev_hp (i := 5) (a := a5) rfl hp) hB) hr
theorem ev_astore_6 {a0 a1 a2 a3 a4 a5 a6 : Option Value} {t : List (Option Value)} {x : Nat} (hd : fe M pc (.astore 6) 2 pc') (hp : ev_nl a5 = true) (k : Ev G M d kc ks Q pc' (a0 :: a1 :: a2 :: a3 :: a4 :: a5 :: some (.ref x) :: t) st h) : Ev G M d kc ks Q pc (a0 :: a1 :: a2 :: a3 :: a4 :: a5 :: a6 :: t) (.ref x :: st) h := by
  obtain ⟨hd, rfl⟩ := hd
  intro p l e R s m args below meth c A H locs cells slots lsA Qf hc h1 h2 hw hS hl hr
  refine lv_astore hc.1 hc.2.1 hd (ev_ls_has hl) (Nat.lt_of_lt_of_le (by simp only [List.length_cons]; omega) hl.2.2.1) rfl (fun lsB hB => ?_)
  exact k p l e R s m args below meth c A H locs cells slots lsB Qf hc h1 h2 hw hS (ev_ls_st1 (L := 0) hl.2.2.1 (ev_hp (i := 5) (a := a5) rfl hp) hB) hr
theorem ev_astoreN_6 {a0 a1 a2 a3 a4 a5 a6 : Option Value} {t : List (Option Value)}  (hd : fe M pc (.astore 6) 2 pc') (hp : ev_nl a5 = true) (k : Ev G M d kc ks Q pc' (a0 :: a1 :: a2 :: a3 :: a4 :: a5 :: some (.null) :: t) st h) : Ev G M d kc ks Q pc (a0 :: a1 :: a2 :: a3 :: a4 :: a5 :: a6 :: t) (.null :: st) h := by
  obtain ⟨hd, rfl⟩ := hd
  intro p l e R s m args below meth c A H locs cells slots lsA Qf hc h1 h2 hw hS hl hr
  refine lv_astoreN hc.1 hc.2.1 hd (ev_ls_has hl) (Nat.lt_of_lt_of_le (by simp only [List.length_cons]; omega) hl.2.2.1) rfl (fun lsB hB => ?_)
  exact k p l e R s m args below meth c A H locs cells slots lsB Qf hc h1 h2 hw hS (ev_ls_st1 (L := 0) hl.2.2.1 (ev_hp (i := 5) (a := a5) rfl hp) hB) hr
theorem ev_lstore_6 {a0 a1 a2 a3 a4 a5 a6 a7 : Option Value} {t : List (Option Value)} {x : Int64} (hd : fe M pc (.lstore 6) 2 pc') (hp : ev_nl a5 = true) (k : Ev G M d kc ks Q pc' (a0 :: a1 :: a2 :: a3 :: a4 :: a5 :: some (.long x) :: none :: t) st h) : Ev G M d kc ks Q pc (a0 :: a1 :: a2 :: a3 :: a4 :: a5 :: a6 :: a7 :: t) (.long x :: st) h := by
  obtain ⟨hd, rfl⟩ := hd
  intro p l e R s m args below meth c A H locs cells slots lsA Qf hc h1 h2 hw hS hl hr
  refine lv_lstore hc.1 hc.2.1 hd (ev_ls_has hl) (Nat.lt_of_lt_of_le (by simp only [List.length_cons]; omega) hl.2.2.1) rfl (fun lsB hB => ?_)
  exact k p l e R s m args below meth c A H locs cells slots lsB Qf hc h1 h2 hw hS (ev_ls_st2 hl.2.2.1 (ev_hp (i := 5) (a := a5) rfl hp) hB) hr
theorem ev_iinc_6 {a0 a1 a2 a3 a4 a5 : Option Value} {t : List (Option Value)} {x v : Int32} {n : Int} (hd : fe M pc (.iinc 6 n) 3 pc') (hv : x + Int32.ofInt n = v) (hp : ev_nl a5 = true) (k : Ev G M d kc ks Q pc' (a0 :: a1 :: a2 :: a3 :: a4 :: a5 :: some (.int v) :: t) st h) : Ev G M d kc ks Q pc (a0 :: a1 :: a2 :: a3 :: a4 :: a5 :: some (.int x) :: t) st h := by
  obtain ⟨hd, rfl⟩ := hd
  intro p l e R s m args below meth c A H locs cells slots lsA Qf hc h1 h2 hw hS hl hr
  obtain ⟨kk, hkk⟩ := List.getElem?_of_mem (ev_pr_mem.mpr (show (a0 :: a1 :: a2 :: a3 :: a4 :: a5 :: some (.int x) :: t)[6]? = some (some (.int x)) from rfl))
  refine lv_iinc hc.1 hc.2.1 hd (ev_ls_has hl) hkk hv (Nat.lt_of_lt_of_le (by simp only [List.length_cons]; omega) hl.2.2.1) rfl (fun lsB hB => ?_)
  exact k p l e R s m args below meth c A H locs cells slots lsB Qf hc h1 h2 hw hS (ev_ls_st1 (L := 0) hl.2.2.1 (ev_hp (i := 5) (a := a5) rfl hp) hB) hr
theorem ev_iload_7 {a0 a1 a2 a3 a4 a5 a6 : Option Value} {t : List (Option Value)} {x : Int32} (hd : fe M pc (.iload 7) 2 pc') (k : Ev G M d kc ks Q pc' (a0 :: a1 :: a2 :: a3 :: a4 :: a5 :: a6 :: some (.int x) :: t) (.int x :: st) h) : Ev G M d kc ks Q pc (a0 :: a1 :: a2 :: a3 :: a4 :: a5 :: a6 :: some (.int x) :: t) st h := by
  obtain ⟨hd, rfl⟩ := hd
  intro p l e R s m args below meth c A H locs cells slots lsA Qf hc h1 h2 hw hS hl hr
  exact lv_iload hc.1 hc.2.1 hd (hl.2.2.2 7 _ rfl) (k p l e R s m args below meth c A H locs cells slots lsA Qf hc h1 h2 hw hS hl hr)
theorem ev_lload_7 {a0 a1 a2 a3 a4 a5 a6 : Option Value} {t : List (Option Value)} {x : Int64} (hd : fe M pc (.lload 7) 2 pc') (k : Ev G M d kc ks Q pc' (a0 :: a1 :: a2 :: a3 :: a4 :: a5 :: a6 :: some (.long x) :: t) (.long x :: st) h) : Ev G M d kc ks Q pc (a0 :: a1 :: a2 :: a3 :: a4 :: a5 :: a6 :: some (.long x) :: t) st h := by
  obtain ⟨hd, rfl⟩ := hd
  intro p l e R s m args below meth c A H locs cells slots lsA Qf hc h1 h2 hw hS hl hr
  exact lv_lload hc.1 hc.2.1 hd (hl.2.2.2 7 _ rfl) (k p l e R s m args below meth c A H locs cells slots lsA Qf hc h1 h2 hw hS hl hr)
theorem ev_aload_7 {a0 a1 a2 a3 a4 a5 a6 : Option Value} {t : List (Option Value)} {x : Nat} (hd : fe M pc (.aload 7) 2 pc') (k : Ev G M d kc ks Q pc' (a0 :: a1 :: a2 :: a3 :: a4 :: a5 :: a6 :: some (.ref x) :: t) (.ref x :: st) h) : Ev G M d kc ks Q pc (a0 :: a1 :: a2 :: a3 :: a4 :: a5 :: a6 :: some (.ref x) :: t) st h := by
  obtain ⟨hd, rfl⟩ := hd
  intro p l e R s m args below meth c A H locs cells slots lsA Qf hc h1 h2 hw hS hl hr
  exact lv_aload hc.1 hc.2.1 hd (hl.2.2.2 7 _ rfl) (k p l e R s m args below meth c A H locs cells slots lsA Qf hc h1 h2 hw hS hl hr)
theorem ev_aloadN_7 {a0 a1 a2 a3 a4 a5 a6 : Option Value} {t : List (Option Value)} (hd : fe M pc (.aload 7) 2 pc') (k : Ev G M d kc ks Q pc' (a0 :: a1 :: a2 :: a3 :: a4 :: a5 :: a6 :: some .null :: t) (.null :: st) h) : Ev G M d kc ks Q pc (a0 :: a1 :: a2 :: a3 :: a4 :: a5 :: a6 :: some .null :: t) st h := by
  obtain ⟨hd, rfl⟩ := hd
  intro p l e R s m args below meth c A H locs cells slots lsA Qf hc h1 h2 hw hS hl hr
  exact lv_aloadN hc.1 hc.2.1 hd (hl.2.2.2 7 _ rfl) (k p l e R s m args below meth c A H locs cells slots lsA Qf hc h1 h2 hw hS hl hr)
theorem ev_istore_7 {a0 a1 a2 a3 a4 a5 a6 a7 : Option Value} {t : List (Option Value)} {x : Int32} (hd : fe M pc (.istore 7) 2 pc') (hp : ev_nl a6 = true) (k : Ev G M d kc ks Q pc' (a0 :: a1 :: a2 :: a3 :: a4 :: a5 :: a6 :: some (.int x) :: t) st h) : Ev G M d kc ks Q pc (a0 :: a1 :: a2 :: a3 :: a4 :: a5 :: a6 :: a7 :: t) (.int x :: st) h := by
  obtain ⟨hd, rfl⟩ := hd
  intro p l e R s m args below meth c A H locs cells slots lsA Qf hc h1 h2 hw hS hl hr
  refine lv_istore hc.1 hc.2.1 hd (ev_ls_has hl) (Nat.lt_of_lt_of_le (by simp only [List.length_cons]; omega) hl.2.2.1) rfl (fun lsB hB => ?_)
  exact k p l e R s m args below meth c A H locs cells slots lsB Qf hc h1 h2 hw hS (ev_ls_st1 (L := 0) hl.2.2.1 (ev_hp (i := 6) (a := a6) rfl hp) hB) hr
theorem ev_astore_7 {a0 a1 a2 a3 a4 a5 a6 a7 : Option Value} {t : List (Option Value)} {x : Nat} (hd : fe M pc (.astore 7) 2 pc') (hp : ev_nl a6 = true) (k : Ev G M d kc ks Q pc' (a0 :: a1 :: a2 :: a3 :: a4 :: a5 :: a6 :: some (.ref x) :: t) st h) : Ev G M d kc ks Q pc (a0 :: a1 :: a2 :: a3 :: a4 :: a5 :: a6 :: a7 :: t) (.ref x :: st) h := by
  obtain ⟨hd, rfl⟩ := hd
  intro p l e R s m args below meth c A H locs cells slots lsA Qf hc h1 h2 hw hS hl hr
  refine lv_astore hc.1 hc.2.1 hd (ev_ls_has hl) (Nat.lt_of_lt_of_le (by simp only [List.length_cons]; omega) hl.2.2.1) rfl (fun lsB hB => ?_)
  exact k p l e R s m args below meth c A H locs cells slots lsB Qf hc h1 h2 hw hS (ev_ls_st1 (L := 0) hl.2.2.1 (ev_hp (i := 6) (a := a6) rfl hp) hB) hr
theorem ev_astoreN_7 {a0 a1 a2 a3 a4 a5 a6 a7 : Option Value} {t : List (Option Value)}  (hd : fe M pc (.astore 7) 2 pc') (hp : ev_nl a6 = true) (k : Ev G M d kc ks Q pc' (a0 :: a1 :: a2 :: a3 :: a4 :: a5 :: a6 :: some (.null) :: t) st h) : Ev G M d kc ks Q pc (a0 :: a1 :: a2 :: a3 :: a4 :: a5 :: a6 :: a7 :: t) (.null :: st) h := by
  obtain ⟨hd, rfl⟩ := hd
  intro p l e R s m args below meth c A H locs cells slots lsA Qf hc h1 h2 hw hS hl hr
  refine lv_astoreN hc.1 hc.2.1 hd (ev_ls_has hl) (Nat.lt_of_lt_of_le (by simp only [List.length_cons]; omega) hl.2.2.1) rfl (fun lsB hB => ?_)
  exact k p l e R s m args below meth c A H locs cells slots lsB Qf hc h1 h2 hw hS (ev_ls_st1 (L := 0) hl.2.2.1 (ev_hp (i := 6) (a := a6) rfl hp) hB) hr
theorem ev_lstore_7 {a0 a1 a2 a3 a4 a5 a6 a7 a8 : Option Value} {t : List (Option Value)} {x : Int64} (hd : fe M pc (.lstore 7) 2 pc') (hp : ev_nl a6 = true) (k : Ev G M d kc ks Q pc' (a0 :: a1 :: a2 :: a3 :: a4 :: a5 :: a6 :: some (.long x) :: none :: t) st h) : Ev G M d kc ks Q pc (a0 :: a1 :: a2 :: a3 :: a4 :: a5 :: a6 :: a7 :: a8 :: t) (.long x :: st) h := by
  obtain ⟨hd, rfl⟩ := hd
  intro p l e R s m args below meth c A H locs cells slots lsA Qf hc h1 h2 hw hS hl hr
  refine lv_lstore hc.1 hc.2.1 hd (ev_ls_has hl) (Nat.lt_of_lt_of_le (by simp only [List.length_cons]; omega) hl.2.2.1) rfl (fun lsB hB => ?_)
  exact k p l e R s m args below meth c A H locs cells slots lsB Qf hc h1 h2 hw hS (ev_ls_st2 hl.2.2.1 (ev_hp (i := 6) (a := a6) rfl hp) hB) hr
theorem ev_iinc_7 {a0 a1 a2 a3 a4 a5 a6 : Option Value} {t : List (Option Value)} {x v : Int32} {n : Int} (hd : fe M pc (.iinc 7 n) 3 pc') (hv : x + Int32.ofInt n = v) (hp : ev_nl a6 = true) (k : Ev G M d kc ks Q pc' (a0 :: a1 :: a2 :: a3 :: a4 :: a5 :: a6 :: some (.int v) :: t) st h) : Ev G M d kc ks Q pc (a0 :: a1 :: a2 :: a3 :: a4 :: a5 :: a6 :: some (.int x) :: t) st h := by
  obtain ⟨hd, rfl⟩ := hd
  intro p l e R s m args below meth c A H locs cells slots lsA Qf hc h1 h2 hw hS hl hr
  obtain ⟨kk, hkk⟩ := List.getElem?_of_mem (ev_pr_mem.mpr (show (a0 :: a1 :: a2 :: a3 :: a4 :: a5 :: a6 :: some (.int x) :: t)[7]? = some (some (.int x)) from rfl))
  refine lv_iinc hc.1 hc.2.1 hd (ev_ls_has hl) hkk hv (Nat.lt_of_lt_of_le (by simp only [List.length_cons]; omega) hl.2.2.1) rfl (fun lsB hB => ?_)
  exact k p l e R s m args below meth c A H locs cells slots lsB Qf hc h1 h2 hw hS (ev_ls_st1 (L := 0) hl.2.2.1 (ev_hp (i := 6) (a := a6) rfl hp) hB) hr
theorem ev_iload_8 {a0 a1 a2 a3 a4 a5 a6 a7 : Option Value} {t : List (Option Value)} {x : Int32} (hd : fe M pc (.iload 8) 2 pc') (k : Ev G M d kc ks Q pc' (a0 :: a1 :: a2 :: a3 :: a4 :: a5 :: a6 :: a7 :: some (.int x) :: t) (.int x :: st) h) : Ev G M d kc ks Q pc (a0 :: a1 :: a2 :: a3 :: a4 :: a5 :: a6 :: a7 :: some (.int x) :: t) st h := by
  obtain ⟨hd, rfl⟩ := hd
  intro p l e R s m args below meth c A H locs cells slots lsA Qf hc h1 h2 hw hS hl hr
  exact lv_iload hc.1 hc.2.1 hd (hl.2.2.2 8 _ rfl) (k p l e R s m args below meth c A H locs cells slots lsA Qf hc h1 h2 hw hS hl hr)
theorem ev_lload_8 {a0 a1 a2 a3 a4 a5 a6 a7 : Option Value} {t : List (Option Value)} {x : Int64} (hd : fe M pc (.lload 8) 2 pc') (k : Ev G M d kc ks Q pc' (a0 :: a1 :: a2 :: a3 :: a4 :: a5 :: a6 :: a7 :: some (.long x) :: t) (.long x :: st) h) : Ev G M d kc ks Q pc (a0 :: a1 :: a2 :: a3 :: a4 :: a5 :: a6 :: a7 :: some (.long x) :: t) st h := by
  obtain ⟨hd, rfl⟩ := hd
  intro p l e R s m args below meth c A H locs cells slots lsA Qf hc h1 h2 hw hS hl hr
  exact lv_lload hc.1 hc.2.1 hd (hl.2.2.2 8 _ rfl) (k p l e R s m args below meth c A H locs cells slots lsA Qf hc h1 h2 hw hS hl hr)
theorem ev_aload_8 {a0 a1 a2 a3 a4 a5 a6 a7 : Option Value} {t : List (Option Value)} {x : Nat} (hd : fe M pc (.aload 8) 2 pc') (k : Ev G M d kc ks Q pc' (a0 :: a1 :: a2 :: a3 :: a4 :: a5 :: a6 :: a7 :: some (.ref x) :: t) (.ref x :: st) h) : Ev G M d kc ks Q pc (a0 :: a1 :: a2 :: a3 :: a4 :: a5 :: a6 :: a7 :: some (.ref x) :: t) st h := by
  obtain ⟨hd, rfl⟩ := hd
  intro p l e R s m args below meth c A H locs cells slots lsA Qf hc h1 h2 hw hS hl hr
  exact lv_aload hc.1 hc.2.1 hd (hl.2.2.2 8 _ rfl) (k p l e R s m args below meth c A H locs cells slots lsA Qf hc h1 h2 hw hS hl hr)
theorem ev_aloadN_8 {a0 a1 a2 a3 a4 a5 a6 a7 : Option Value} {t : List (Option Value)} (hd : fe M pc (.aload 8) 2 pc') (k : Ev G M d kc ks Q pc' (a0 :: a1 :: a2 :: a3 :: a4 :: a5 :: a6 :: a7 :: some .null :: t) (.null :: st) h) : Ev G M d kc ks Q pc (a0 :: a1 :: a2 :: a3 :: a4 :: a5 :: a6 :: a7 :: some .null :: t) st h := by
  obtain ⟨hd, rfl⟩ := hd
  intro p l e R s m args below meth c A H locs cells slots lsA Qf hc h1 h2 hw hS hl hr
  exact lv_aloadN hc.1 hc.2.1 hd (hl.2.2.2 8 _ rfl) (k p l e R s m args below meth c A H locs cells slots lsA Qf hc h1 h2 hw hS hl hr)
theorem ev_istore_8 {a0 a1 a2 a3 a4 a5 a6 a7 a8 : Option Value} {t : List (Option Value)} {x : Int32} (hd : fe M pc (.istore 8) 2 pc') (hp : ev_nl a7 = true) (k : Ev G M d kc ks Q pc' (a0 :: a1 :: a2 :: a3 :: a4 :: a5 :: a6 :: a7 :: some (.int x) :: t) st h) : Ev G M d kc ks Q pc (a0 :: a1 :: a2 :: a3 :: a4 :: a5 :: a6 :: a7 :: a8 :: t) (.int x :: st) h := by
  obtain ⟨hd, rfl⟩ := hd
  intro p l e R s m args below meth c A H locs cells slots lsA Qf hc h1 h2 hw hS hl hr
  refine lv_istore hc.1 hc.2.1 hd (ev_ls_has hl) (Nat.lt_of_lt_of_le (by simp only [List.length_cons]; omega) hl.2.2.1) rfl (fun lsB hB => ?_)
  exact k p l e R s m args below meth c A H locs cells slots lsB Qf hc h1 h2 hw hS (ev_ls_st1 (L := 0) hl.2.2.1 (ev_hp (i := 7) (a := a7) rfl hp) hB) hr
theorem ev_astore_8 {a0 a1 a2 a3 a4 a5 a6 a7 a8 : Option Value} {t : List (Option Value)} {x : Nat} (hd : fe M pc (.astore 8) 2 pc') (hp : ev_nl a7 = true) (k : Ev G M d kc ks Q pc' (a0 :: a1 :: a2 :: a3 :: a4 :: a5 :: a6 :: a7 :: some (.ref x) :: t) st h) : Ev G M d kc ks Q pc (a0 :: a1 :: a2 :: a3 :: a4 :: a5 :: a6 :: a7 :: a8 :: t) (.ref x :: st) h := by
  obtain ⟨hd, rfl⟩ := hd
  intro p l e R s m args below meth c A H locs cells slots lsA Qf hc h1 h2 hw hS hl hr
  refine lv_astore hc.1 hc.2.1 hd (ev_ls_has hl) (Nat.lt_of_lt_of_le (by simp only [List.length_cons]; omega) hl.2.2.1) rfl (fun lsB hB => ?_)
  exact k p l e R s m args below meth c A H locs cells slots lsB Qf hc h1 h2 hw hS (ev_ls_st1 (L := 0) hl.2.2.1 (ev_hp (i := 7) (a := a7) rfl hp) hB) hr
theorem ev_astoreN_8 {a0 a1 a2 a3 a4 a5 a6 a7 a8 : Option Value} {t : List (Option Value)}  (hd : fe M pc (.astore 8) 2 pc') (hp : ev_nl a7 = true) (k : Ev G M d kc ks Q pc' (a0 :: a1 :: a2 :: a3 :: a4 :: a5 :: a6 :: a7 :: some (.null) :: t) st h) : Ev G M d kc ks Q pc (a0 :: a1 :: a2 :: a3 :: a4 :: a5 :: a6 :: a7 :: a8 :: t) (.null :: st) h := by
  obtain ⟨hd, rfl⟩ := hd
  intro p l e R s m args below meth c A H locs cells slots lsA Qf hc h1 h2 hw hS hl hr
  refine lv_astoreN hc.1 hc.2.1 hd (ev_ls_has hl) (Nat.lt_of_lt_of_le (by simp only [List.length_cons]; omega) hl.2.2.1) rfl (fun lsB hB => ?_)
  exact k p l e R s m args below meth c A H locs cells slots lsB Qf hc h1 h2 hw hS (ev_ls_st1 (L := 0) hl.2.2.1 (ev_hp (i := 7) (a := a7) rfl hp) hB) hr
theorem ev_lstore_8 {a0 a1 a2 a3 a4 a5 a6 a7 a8 a9 : Option Value} {t : List (Option Value)} {x : Int64} (hd : fe M pc (.lstore 8) 2 pc') (hp : ev_nl a7 = true) (k : Ev G M d kc ks Q pc' (a0 :: a1 :: a2 :: a3 :: a4 :: a5 :: a6 :: a7 :: some (.long x) :: none :: t) st h) : Ev G M d kc ks Q pc (a0 :: a1 :: a2 :: a3 :: a4 :: a5 :: a6 :: a7 :: a8 :: a9 :: t) (.long x :: st) h := by
  obtain ⟨hd, rfl⟩ := hd
  intro p l e R s m args below meth c A H locs cells slots lsA Qf hc h1 h2 hw hS hl hr
  refine lv_lstore hc.1 hc.2.1 hd (ev_ls_has hl) (Nat.lt_of_lt_of_le (by simp only [List.length_cons]; omega) hl.2.2.1) rfl (fun lsB hB => ?_)
  exact k p l e R s m args below meth c A H locs cells slots lsB Qf hc h1 h2 hw hS (ev_ls_st2 hl.2.2.1 (ev_hp (i := 7) (a := a7) rfl hp) hB) hr
theorem ev_iinc_8 {a0 a1 a2 a3 a4 a5 a6 a7 : Option Value} {t : List (Option Value)} {x v : Int32} {n : Int} (hd : fe M pc (.iinc 8 n) 3 pc') (hv : x + Int32.ofInt n = v) (hp : ev_nl a7 = true) (k : Ev G M d kc ks Q pc' (a0 :: a1 :: a2 :: a3 :: a4 :: a5 :: a6 :: a7 :: some (.int v) :: t) st h) : Ev G M d kc ks Q pc (a0 :: a1 :: a2 :: a3 :: a4 :: a5 :: a6 :: a7 :: some (.int x) :: t) st h := by
  obtain ⟨hd, rfl⟩ := hd
  intro p l e R s m args below meth c A H locs cells slots lsA Qf hc h1 h2 hw hS hl hr
  obtain ⟨kk, hkk⟩ := List.getElem?_of_mem (ev_pr_mem.mpr (show (a0 :: a1 :: a2 :: a3 :: a4 :: a5 :: a6 :: a7 :: some (.int x) :: t)[8]? = some (some (.int x)) from rfl))
  refine lv_iinc hc.1 hc.2.1 hd (ev_ls_has hl) hkk hv (Nat.lt_of_lt_of_le (by simp only [List.length_cons]; omega) hl.2.2.1) rfl (fun lsB hB => ?_)
  exact k p l e R s m args below meth c A H locs cells slots lsB Qf hc h1 h2 hw hS (ev_ls_st1 (L := 0) hl.2.2.1 (ev_hp (i := 7) (a := a7) rfl hp) hB) hr
theorem ev_iload_9 {a0 a1 a2 a3 a4 a5 a6 a7 a8 : Option Value} {t : List (Option Value)} {x : Int32} (hd : fe M pc (.iload 9) 2 pc') (k : Ev G M d kc ks Q pc' (a0 :: a1 :: a2 :: a3 :: a4 :: a5 :: a6 :: a7 :: a8 :: some (.int x) :: t) (.int x :: st) h) : Ev G M d kc ks Q pc (a0 :: a1 :: a2 :: a3 :: a4 :: a5 :: a6 :: a7 :: a8 :: some (.int x) :: t) st h := by
  obtain ⟨hd, rfl⟩ := hd
  intro p l e R s m args below meth c A H locs cells slots lsA Qf hc h1 h2 hw hS hl hr
  exact lv_iload hc.1 hc.2.1 hd (hl.2.2.2 9 _ rfl) (k p l e R s m args below meth c A H locs cells slots lsA Qf hc h1 h2 hw hS hl hr)
theorem ev_lload_9 {a0 a1 a2 a3 a4 a5 a6 a7 a8 : Option Value} {t : List (Option Value)} {x : Int64} (hd : fe M pc (.lload 9) 2 pc') (k : Ev G M d kc ks Q pc' (a0 :: a1 :: a2 :: a3 :: a4 :: a5 :: a6 :: a7 :: a8 :: some (.long x) :: t) (.long x :: st) h) : Ev G M d kc ks Q pc (a0 :: a1 :: a2 :: a3 :: a4 :: a5 :: a6 :: a7 :: a8 :: some (.long x) :: t) st h := by
  obtain ⟨hd, rfl⟩ := hd
  intro p l e R s m args below meth c A H locs cells slots lsA Qf hc h1 h2 hw hS hl hr
  exact lv_lload hc.1 hc.2.1 hd (hl.2.2.2 9 _ rfl) (k p l e R s m args below meth c A H locs cells slots lsA Qf hc h1 h2 hw hS hl hr)
theorem ev_aload_9 {a0 a1 a2 a3 a4 a5 a6 a7 a8 : Option Value} {t : List (Option Value)} {x : Nat} (hd : fe M pc (.aload 9) 2 pc') (k : Ev G M d kc ks Q pc' (a0 :: a1 :: a2 :: a3 :: a4 :: a5 :: a6 :: a7 :: a8 :: some (.ref x) :: t) (.ref x :: st) h) : Ev G M d kc ks Q pc (a0 :: a1 :: a2 :: a3 :: a4 :: a5 :: a6 :: a7 :: a8 :: some (.ref x) :: t) st h := by
  obtain ⟨hd, rfl⟩ := hd
  intro p l e R s m args below meth c A H locs cells slots lsA Qf hc h1 h2 hw hS hl hr
  exact lv_aload hc.1 hc.2.1 hd (hl.2.2.2 9 _ rfl) (k p l e R s m args below meth c A H locs cells slots lsA Qf hc h1 h2 hw hS hl hr)
theorem ev_aloadN_9 {a0 a1 a2 a3 a4 a5 a6 a7 a8 : Option Value} {t : List (Option Value)} (hd : fe M pc (.aload 9) 2 pc') (k : Ev G M d kc ks Q pc' (a0 :: a1 :: a2 :: a3 :: a4 :: a5 :: a6 :: a7 :: a8 :: some .null :: t) (.null :: st) h) : Ev G M d kc ks Q pc (a0 :: a1 :: a2 :: a3 :: a4 :: a5 :: a6 :: a7 :: a8 :: some .null :: t) st h := by
  obtain ⟨hd, rfl⟩ := hd
  intro p l e R s m args below meth c A H locs cells slots lsA Qf hc h1 h2 hw hS hl hr
  exact lv_aloadN hc.1 hc.2.1 hd (hl.2.2.2 9 _ rfl) (k p l e R s m args below meth c A H locs cells slots lsA Qf hc h1 h2 hw hS hl hr)
theorem ev_istore_9 {a0 a1 a2 a3 a4 a5 a6 a7 a8 a9 : Option Value} {t : List (Option Value)} {x : Int32} (hd : fe M pc (.istore 9) 2 pc') (hp : ev_nl a8 = true) (k : Ev G M d kc ks Q pc' (a0 :: a1 :: a2 :: a3 :: a4 :: a5 :: a6 :: a7 :: a8 :: some (.int x) :: t) st h) : Ev G M d kc ks Q pc (a0 :: a1 :: a2 :: a3 :: a4 :: a5 :: a6 :: a7 :: a8 :: a9 :: t) (.int x :: st) h := by
  obtain ⟨hd, rfl⟩ := hd
  intro p l e R s m args below meth c A H locs cells slots lsA Qf hc h1 h2 hw hS hl hr
  refine lv_istore hc.1 hc.2.1 hd (ev_ls_has hl) (Nat.lt_of_lt_of_le (by simp only [List.length_cons]; omega) hl.2.2.1) rfl (fun lsB hB => ?_)
  exact k p l e R s m args below meth c A H locs cells slots lsB Qf hc h1 h2 hw hS (ev_ls_st1 (L := 0) hl.2.2.1 (ev_hp (i := 8) (a := a8) rfl hp) hB) hr
theorem ev_astore_9 {a0 a1 a2 a3 a4 a5 a6 a7 a8 a9 : Option Value} {t : List (Option Value)} {x : Nat} (hd : fe M pc (.astore 9) 2 pc') (hp : ev_nl a8 = true) (k : Ev G M d kc ks Q pc' (a0 :: a1 :: a2 :: a3 :: a4 :: a5 :: a6 :: a7 :: a8 :: some (.ref x) :: t) st h) : Ev G M d kc ks Q pc (a0 :: a1 :: a2 :: a3 :: a4 :: a5 :: a6 :: a7 :: a8 :: a9 :: t) (.ref x :: st) h := by
  obtain ⟨hd, rfl⟩ := hd
  intro p l e R s m args below meth c A H locs cells slots lsA Qf hc h1 h2 hw hS hl hr
  refine lv_astore hc.1 hc.2.1 hd (ev_ls_has hl) (Nat.lt_of_lt_of_le (by simp only [List.length_cons]; omega) hl.2.2.1) rfl (fun lsB hB => ?_)
  exact k p l e R s m args below meth c A H locs cells slots lsB Qf hc h1 h2 hw hS (ev_ls_st1 (L := 0) hl.2.2.1 (ev_hp (i := 8) (a := a8) rfl hp) hB) hr
theorem ev_astoreN_9 {a0 a1 a2 a3 a4 a5 a6 a7 a8 a9 : Option Value} {t : List (Option Value)}  (hd : fe M pc (.astore 9) 2 pc') (hp : ev_nl a8 = true) (k : Ev G M d kc ks Q pc' (a0 :: a1 :: a2 :: a3 :: a4 :: a5 :: a6 :: a7 :: a8 :: some (.null) :: t) st h) : Ev G M d kc ks Q pc (a0 :: a1 :: a2 :: a3 :: a4 :: a5 :: a6 :: a7 :: a8 :: a9 :: t) (.null :: st) h := by
  obtain ⟨hd, rfl⟩ := hd
  intro p l e R s m args below meth c A H locs cells slots lsA Qf hc h1 h2 hw hS hl hr
  refine lv_astoreN hc.1 hc.2.1 hd (ev_ls_has hl) (Nat.lt_of_lt_of_le (by simp only [List.length_cons]; omega) hl.2.2.1) rfl (fun lsB hB => ?_)
  exact k p l e R s m args below meth c A H locs cells slots lsB Qf hc h1 h2 hw hS (ev_ls_st1 (L := 0) hl.2.2.1 (ev_hp (i := 8) (a := a8) rfl hp) hB) hr
theorem ev_lstore_9 {a0 a1 a2 a3 a4 a5 a6 a7 a8 a9 a10 : Option Value} {t : List (Option Value)} {x : Int64} (hd : fe M pc (.lstore 9) 2 pc') (hp : ev_nl a8 = true) (k : Ev G M d kc ks Q pc' (a0 :: a1 :: a2 :: a3 :: a4 :: a5 :: a6 :: a7 :: a8 :: some (.long x) :: none :: t) st h) : Ev G M d kc ks Q pc (a0 :: a1 :: a2 :: a3 :: a4 :: a5 :: a6 :: a7 :: a8 :: a9 :: a10 :: t) (.long x :: st) h := by
  obtain ⟨hd, rfl⟩ := hd
  intro p l e R s m args below meth c A H locs cells slots lsA Qf hc h1 h2 hw hS hl hr
  refine lv_lstore hc.1 hc.2.1 hd (ev_ls_has hl) (Nat.lt_of_lt_of_le (by simp only [List.length_cons]; omega) hl.2.2.1) rfl (fun lsB hB => ?_)
  exact k p l e R s m args below meth c A H locs cells slots lsB Qf hc h1 h2 hw hS (ev_ls_st2 hl.2.2.1 (ev_hp (i := 8) (a := a8) rfl hp) hB) hr
theorem ev_iinc_9 {a0 a1 a2 a3 a4 a5 a6 a7 a8 : Option Value} {t : List (Option Value)} {x v : Int32} {n : Int} (hd : fe M pc (.iinc 9 n) 3 pc') (hv : x + Int32.ofInt n = v) (hp : ev_nl a8 = true) (k : Ev G M d kc ks Q pc' (a0 :: a1 :: a2 :: a3 :: a4 :: a5 :: a6 :: a7 :: a8 :: some (.int v) :: t) st h) : Ev G M d kc ks Q pc (a0 :: a1 :: a2 :: a3 :: a4 :: a5 :: a6 :: a7 :: a8 :: some (.int x) :: t) st h := by
  obtain ⟨hd, rfl⟩ := hd
  intro p l e R s m args below meth c A H locs cells slots lsA Qf hc h1 h2 hw hS hl hr
  obtain ⟨kk, hkk⟩ := List.getElem?_of_mem (ev_pr_mem.mpr (show (a0 :: a1 :: a2 :: a3 :: a4 :: a5 :: a6 :: a7 :: a8 :: some (.int x) :: t)[9]? = some (some (.int x)) from rfl))
  refine lv_iinc hc.1 hc.2.1 hd (ev_ls_has hl) hkk hv (Nat.lt_of_lt_of_le (by simp only [List.length_cons]; omega) hl.2.2.1) rfl (fun lsB hB => ?_)
  exact k p l e R s m args below meth c A H locs cells slots lsB Qf hc h1 h2 hw hS (ev_ls_st1 (L := 0) hl.2.2.1 (ev_hp (i := 8) (a := a8) rfl hp) hB) hr
theorem ev_iload_10 {a0 a1 a2 a3 a4 a5 a6 a7 a8 a9 : Option Value} {t : List (Option Value)} {x : Int32} (hd : fe M pc (.iload 10) 2 pc') (k : Ev G M d kc ks Q pc' (a0 :: a1 :: a2 :: a3 :: a4 :: a5 :: a6 :: a7 :: a8 :: a9 :: some (.int x) :: t) (.int x :: st) h) : Ev G M d kc ks Q pc (a0 :: a1 :: a2 :: a3 :: a4 :: a5 :: a6 :: a7 :: a8 :: a9 :: some (.int x) :: t) st h := by
  obtain ⟨hd, rfl⟩ := hd
  intro p l e R s m args below meth c A H locs cells slots lsA Qf hc h1 h2 hw hS hl hr
  exact lv_iload hc.1 hc.2.1 hd (hl.2.2.2 10 _ rfl) (k p l e R s m args below meth c A H locs cells slots lsA Qf hc h1 h2 hw hS hl hr)
theorem ev_lload_10 {a0 a1 a2 a3 a4 a5 a6 a7 a8 a9 : Option Value} {t : List (Option Value)} {x : Int64} (hd : fe M pc (.lload 10) 2 pc') (k : Ev G M d kc ks Q pc' (a0 :: a1 :: a2 :: a3 :: a4 :: a5 :: a6 :: a7 :: a8 :: a9 :: some (.long x) :: t) (.long x :: st) h) : Ev G M d kc ks Q pc (a0 :: a1 :: a2 :: a3 :: a4 :: a5 :: a6 :: a7 :: a8 :: a9 :: some (.long x) :: t) st h := by
  obtain ⟨hd, rfl⟩ := hd
  intro p l e R s m args below meth c A H locs cells slots lsA Qf hc h1 h2 hw hS hl hr
  exact lv_lload hc.1 hc.2.1 hd (hl.2.2.2 10 _ rfl) (k p l e R s m args below meth c A H locs cells slots lsA Qf hc h1 h2 hw hS hl hr)
theorem ev_aload_10 {a0 a1 a2 a3 a4 a5 a6 a7 a8 a9 : Option Value} {t : List (Option Value)} {x : Nat} (hd : fe M pc (.aload 10) 2 pc') (k : Ev G M d kc ks Q pc' (a0 :: a1 :: a2 :: a3 :: a4 :: a5 :: a6 :: a7 :: a8 :: a9 :: some (.ref x) :: t) (.ref x :: st) h) : Ev G M d kc ks Q pc (a0 :: a1 :: a2 :: a3 :: a4 :: a5 :: a6 :: a7 :: a8 :: a9 :: some (.ref x) :: t) st h := by
  obtain ⟨hd, rfl⟩ := hd
  intro p l e R s m args below meth c A H locs cells slots lsA Qf hc h1 h2 hw hS hl hr
  exact lv_aload hc.1 hc.2.1 hd (hl.2.2.2 10 _ rfl) (k p l e R s m args below meth c A H locs cells slots lsA Qf hc h1 h2 hw hS hl hr)
theorem ev_aloadN_10 {a0 a1 a2 a3 a4 a5 a6 a7 a8 a9 : Option Value} {t : List (Option Value)} (hd : fe M pc (.aload 10) 2 pc') (k : Ev G M d kc ks Q pc' (a0 :: a1 :: a2 :: a3 :: a4 :: a5 :: a6 :: a7 :: a8 :: a9 :: some .null :: t) (.null :: st) h) : Ev G M d kc ks Q pc (a0 :: a1 :: a2 :: a3 :: a4 :: a5 :: a6 :: a7 :: a8 :: a9 :: some .null :: t) st h := by
  obtain ⟨hd, rfl⟩ := hd
  intro p l e R s m args below meth c A H locs cells slots lsA Qf hc h1 h2 hw hS hl hr
  exact lv_aloadN hc.1 hc.2.1 hd (hl.2.2.2 10 _ rfl) (k p l e R s m args below meth c A H locs cells slots lsA Qf hc h1 h2 hw hS hl hr)
theorem ev_istore_10 {a0 a1 a2 a3 a4 a5 a6 a7 a8 a9 a10 : Option Value} {t : List (Option Value)} {x : Int32} (hd : fe M pc (.istore 10) 2 pc') (hp : ev_nl a9 = true) (k : Ev G M d kc ks Q pc' (a0 :: a1 :: a2 :: a3 :: a4 :: a5 :: a6 :: a7 :: a8 :: a9 :: some (.int x) :: t) st h) : Ev G M d kc ks Q pc (a0 :: a1 :: a2 :: a3 :: a4 :: a5 :: a6 :: a7 :: a8 :: a9 :: a10 :: t) (.int x :: st) h := by
  obtain ⟨hd, rfl⟩ := hd
  intro p l e R s m args below meth c A H locs cells slots lsA Qf hc h1 h2 hw hS hl hr
  refine lv_istore hc.1 hc.2.1 hd (ev_ls_has hl) (Nat.lt_of_lt_of_le (by simp only [List.length_cons]; omega) hl.2.2.1) rfl (fun lsB hB => ?_)
  exact k p l e R s m args below meth c A H locs cells slots lsB Qf hc h1 h2 hw hS (ev_ls_st1 (L := 0) hl.2.2.1 (ev_hp (i := 9) (a := a9) rfl hp) hB) hr
theorem ev_astore_10 {a0 a1 a2 a3 a4 a5 a6 a7 a8 a9 a10 : Option Value} {t : List (Option Value)} {x : Nat} (hd : fe M pc (.astore 10) 2 pc') (hp : ev_nl a9 = true) (k : Ev G M d kc ks Q pc' (a0 :: a1 :: a2 :: a3 :: a4 :: a5 :: a6 :: a7 :: a8 :: a9 :: some (.ref x) :: t) st h) : Ev G M d kc ks Q pc (a0 :: a1 :: a2 :: a3 :: a4 :: a5 :: a6 :: a7 :: a8 :: a9 :: a10 :: t) (.ref x :: st) h := by
  obtain ⟨hd, rfl⟩ := hd
  intro p l e R s m args below meth c A H locs cells slots lsA Qf hc h1 h2 hw hS hl hr
  refine lv_astore hc.1 hc.2.1 hd (ev_ls_has hl) (Nat.lt_of_lt_of_le (by simp only [List.length_cons]; omega) hl.2.2.1) rfl (fun lsB hB => ?_)
  exact k p l e R s m args below meth c A H locs cells slots lsB Qf hc h1 h2 hw hS (ev_ls_st1 (L := 0) hl.2.2.1 (ev_hp (i := 9) (a := a9) rfl hp) hB) hr
theorem ev_astoreN_10 {a0 a1 a2 a3 a4 a5 a6 a7 a8 a9 a10 : Option Value} {t : List (Option Value)}  (hd : fe M pc (.astore 10) 2 pc') (hp : ev_nl a9 = true) (k : Ev G M d kc ks Q pc' (a0 :: a1 :: a2 :: a3 :: a4 :: a5 :: a6 :: a7 :: a8 :: a9 :: some (.null) :: t) st h) : Ev G M d kc ks Q pc (a0 :: a1 :: a2 :: a3 :: a4 :: a5 :: a6 :: a7 :: a8 :: a9 :: a10 :: t) (.null :: st) h := by
  obtain ⟨hd, rfl⟩ := hd
  intro p l e R s m args below meth c A H locs cells slots lsA Qf hc h1 h2 hw hS hl hr
  refine lv_astoreN hc.1 hc.2.1 hd (ev_ls_has hl) (Nat.lt_of_lt_of_le (by simp only [List.length_cons]; omega) hl.2.2.1) rfl (fun lsB hB => ?_)
  exact k p l e R s m args below meth c A H locs cells slots lsB Qf hc h1 h2 hw hS (ev_ls_st1 (L := 0) hl.2.2.1 (ev_hp (i := 9) (a := a9) rfl hp) hB) hr
theorem ev_lstore_10 {a0 a1 a2 a3 a4 a5 a6 a7 a8 a9 a10 a11 : Option Value} {t : List (Option Value)} {x : Int64} (hd : fe M pc (.lstore 10) 2 pc') (hp : ev_nl a9 = true) (k : Ev G M d kc ks Q pc' (a0 :: a1 :: a2 :: a3 :: a4 :: a5 :: a6 :: a7 :: a8 :: a9 :: some (.long x) :: none :: t) st h) : Ev G M d kc ks Q pc (a0 :: a1 :: a2 :: a3 :: a4 :: a5 :: a6 :: a7 :: a8 :: a9 :: a10 :: a11 :: t) (.long x :: st) h := by
  obtain ⟨hd, rfl⟩ := hd
  intro p l e R s m args below meth c A H locs cells slots lsA Qf hc h1 h2 hw hS hl hr
  refine lv_lstore hc.1 hc.2.1 hd (ev_ls_has hl) (Nat.lt_of_lt_of_le (by simp only [List.length_cons]; omega) hl.2.2.1) rfl (fun lsB hB => ?_)
  exact k p l e R s m args below meth c A H locs cells slots lsB Qf hc h1 h2 hw hS (ev_ls_st2 hl.2.2.1 (ev_hp (i := 9) (a := a9) rfl hp) hB) hr
theorem ev_iinc_10 {a0 a1 a2 a3 a4 a5 a6 a7 a8 a9 : Option Value} {t : List (Option Value)} {x v : Int32} {n : Int} (hd : fe M pc (.iinc 10 n) 3 pc') (hv : x + Int32.ofInt n = v) (hp : ev_nl a9 = true) (k : Ev G M d kc ks Q pc' (a0 :: a1 :: a2 :: a3 :: a4 :: a5 :: a6 :: a7 :: a8 :: a9 :: some (.int v) :: t) st h) : Ev G M d kc ks Q pc (a0 :: a1 :: a2 :: a3 :: a4 :: a5 :: a6 :: a7 :: a8 :: a9 :: some (.int x) :: t) st h := by
  obtain ⟨hd, rfl⟩ := hd
  intro p l e R s m args below meth c A H locs cells slots lsA Qf hc h1 h2 hw hS hl hr
  obtain ⟨kk, hkk⟩ := List.getElem?_of_mem (ev_pr_mem.mpr (show (a0 :: a1 :: a2 :: a3 :: a4 :: a5 :: a6 :: a7 :: a8 :: a9 :: some (.int x) :: t)[10]? = some (some (.int x)) from rfl))
  refine lv_iinc hc.1 hc.2.1 hd (ev_ls_has hl) hkk hv (Nat.lt_of_lt_of_le (by simp only [List.length_cons]; omega) hl.2.2.1) rfl (fun lsB hB => ?_)
  exact k p l e R s m args below meth c A H locs cells slots lsB Qf hc h1 h2 hw hS (ev_ls_st1 (L := 0) hl.2.2.1 (ev_hp (i := 9) (a := a9) rfl hp) hB) hr
theorem ev_iload_11 {a0 a1 a2 a3 a4 a5 a6 a7 a8 a9 a10 : Option Value} {t : List (Option Value)} {x : Int32} (hd : fe M pc (.iload 11) 2 pc') (k : Ev G M d kc ks Q pc' (a0 :: a1 :: a2 :: a3 :: a4 :: a5 :: a6 :: a7 :: a8 :: a9 :: a10 :: some (.int x) :: t) (.int x :: st) h) : Ev G M d kc ks Q pc (a0 :: a1 :: a2 :: a3 :: a4 :: a5 :: a6 :: a7 :: a8 :: a9 :: a10 :: some (.int x) :: t) st h := by
  obtain ⟨hd, rfl⟩ := hd
  intro p l e R s m args below meth c A H locs cells slots lsA Qf hc h1 h2 hw hS hl hr
  exact lv_iload hc.1 hc.2.1 hd (hl.2.2.2 11 _ rfl) (k p l e R s m args below meth c A H locs cells slots lsA Qf hc h1 h2 hw hS hl hr)
theorem ev_lload_11 {a0 a1 a2 a3 a4 a5 a6 a7 a8 a9 a10 : Option Value} {t : List (Option Value)} {x : Int64} (hd : fe M pc (.lload 11) 2 pc') (k : Ev G M d kc ks Q pc' (a0 :: a1 :: a2 :: a3 :: a4 :: a5 :: a6 :: a7 :: a8 :: a9 :: a10 :: some (.long x) :: t) (.long x :: st) h) : Ev G M d kc ks Q pc (a0 :: a1 :: a2 :: a3 :: a4 :: a5 :: a6 :: a7 :: a8 :: a9 :: a10 :: some (.long x) :: t) st h := by
  obtain ⟨hd, rfl⟩ := hd
  intro p l e R s m args below meth c A H locs cells slots lsA Qf hc h1 h2 hw hS hl hr
  exact lv_lload hc.1 hc.2.1 hd (hl.2.2.2 11 _ rfl) (k p l e R s m args below meth c A H locs cells slots lsA Qf hc h1 h2 hw hS hl hr)
theorem ev_aload_11 {a0 a1 a2 a3 a4 a5 a6 a7 a8 a9 a10 : Option Value} {t : List (Option Value)} {x : Nat} (hd : fe M pc (.aload 11) 2 pc') (k : Ev G M d kc ks Q pc' (a0 :: a1 :: a2 :: a3 :: a4 :: a5 :: a6 :: a7 :: a8 :: a9 :: a10 :: some (.ref x) :: t) (.ref x :: st) h) : Ev G M d kc ks Q pc (a0 :: a1 :: a2 :: a3 :: a4 :: a5 :: a6 :: a7 :: a8 :: a9 :: a10 :: some (.ref x) :: t) st h := by
  obtain ⟨hd, rfl⟩ := hd
  intro p l e R s m args below meth c A H locs cells slots lsA Qf hc h1 h2 hw hS hl hr
  exact lv_aload hc.1 hc.2.1 hd (hl.2.2.2 11 _ rfl) (k p l e R s m args below meth c A H locs cells slots lsA Qf hc h1 h2 hw hS hl hr)
theorem ev_aloadN_11 {a0 a1 a2 a3 a4 a5 a6 a7 a8 a9 a10 : Option Value} {t : List (Option Value)} (hd : fe M pc (.aload 11) 2 pc') (k : Ev G M d kc ks Q pc' (a0 :: a1 :: a2 :: a3 :: a4 :: a5 :: a6 :: a7 :: a8 :: a9 :: a10 :: some .null :: t) (.null :: st) h) : Ev G M d kc ks Q pc (a0 :: a1 :: a2 :: a3 :: a4 :: a5 :: a6 :: a7 :: a8 :: a9 :: a10 :: some .null :: t) st h := by
  obtain ⟨hd, rfl⟩ := hd
  intro p l e R s m args below meth c A H locs cells slots lsA Qf hc h1 h2 hw hS hl hr
  exact lv_aloadN hc.1 hc.2.1 hd (hl.2.2.2 11 _ rfl) (k p l e R s m args below meth c A H locs cells slots lsA Qf hc h1 h2 hw hS hl hr)
theorem ev_istore_11 {a0 a1 a2 a3 a4 a5 a6 a7 a8 a9 a10 a11 : Option Value} {t : List (Option Value)} {x : Int32} (hd : fe M pc (.istore 11) 2 pc') (hp : ev_nl a10 = true) (k : Ev G M d kc ks Q pc' (a0 :: a1 :: a2 :: a3 :: a4 :: a5 :: a6 :: a7 :: a8 :: a9 :: a10 :: some (.int x) :: t) st h) : Ev G M d kc ks Q pc (a0 :: a1 :: a2 :: a3 :: a4 :: a5 :: a6 :: a7 :: a8 :: a9 :: a10 :: a11 :: t) (.int x :: st) h := by
  obtain ⟨hd, rfl⟩ := hd
  intro p l e R s m args below meth c A H locs cells slots lsA Qf hc h1 h2 hw hS hl hr
  refine lv_istore hc.1 hc.2.1 hd (ev_ls_has hl) (Nat.lt_of_lt_of_le (by simp only [List.length_cons]; omega) hl.2.2.1) rfl (fun lsB hB => ?_)
  exact k p l e R s m args below meth c A H locs cells slots lsB Qf hc h1 h2 hw hS (ev_ls_st1 (L := 0) hl.2.2.1 (ev_hp (i := 10) (a := a10) rfl hp) hB) hr
theorem ev_astore_11 {a0 a1 a2 a3 a4 a5 a6 a7 a8 a9 a10 a11 : Option Value} {t : List (Option Value)} {x : Nat} (hd : fe M pc (.astore 11) 2 pc') (hp : ev_nl a10 = true) (k : Ev G M d kc ks Q pc' (a0 :: a1 :: a2 :: a3 :: a4 :: a5 :: a6 :: a7 :: a8 :: a9 :: a10 :: some (.ref x) :: t) st h) : Ev G M d kc ks Q pc (a0 :: a1 :: a2 :: a3 :: a4 :: a5 :: a6 :: a7 :: a8 :: a9 :: a10 :: a11 :: t) (.ref x :: st) h := by
  obtain ⟨hd, rfl⟩ := hd
  intro p l e R s m args below meth c A H locs cells slots lsA Qf hc h1 h2 hw hS hl hr
  refine lv_astore hc.1 hc.2.1 hd (ev_ls_has hl) (Nat.lt_of_lt_of_le (by simp only [List.length_cons]; omega) hl.2.2.1) rfl (fun lsB hB => ?_)
  exact k p l e R s m args below meth c A H locs cells slots lsB Qf hc h1 h2 hw hS (ev_ls_st1 (L := 0) hl.2.2.1 (ev_hp (i := 10) (a := a10) rfl hp) hB) hr
theorem ev_astoreN_11 {a0 a1 a2 a3 a4 a5 a6 a7 a8 a9 a10 a11 : Option Value} {t : List (Option Value)}  (hd : fe M pc (.astore 11) 2 pc') (hp : ev_nl a10 = true) (k : Ev G M d kc ks Q pc' (a0 :: a1 :: a2 :: a3 :: a4 :: a5 :: a6 :: a7 :: a8 :: a9 :: a10 :: some (.null) :: t) st h) : Ev G M d kc ks Q pc (a0 :: a1 :: a2 :: a3 :: a4 :: a5 :: a6 :: a7 :: a8 :: a9 :: a10 :: a11 :: t) (.null :: st) h := by
  obtain ⟨hd, rfl⟩ := hd
  intro p l e R s m args below meth c A H locs cells slots lsA Qf hc h1 h2 hw hS hl hr
  refine lv_astoreN hc.1 hc.2.1 hd (ev_ls_has hl) (Nat.lt_of_lt_of_le (by simp only [List.length_cons]; omega) hl.2.2.1) rfl (fun lsB hB => ?_)
  exact k p l e R s m args below meth c A H locs cells slots lsB Qf hc h1 h2 hw hS (ev_ls_st1 (L := 0) hl.2.2.1 (ev_hp (i := 10) (a := a10) rfl hp) hB) hr
theorem ev_lstore_11 {a0 a1 a2 a3 a4 a5 a6 a7 a8 a9 a10 a11 a12 : Option Value} {t : List (Option Value)} {x : Int64} (hd : fe M pc (.lstore 11) 2 pc') (hp : ev_nl a10 = true) (k : Ev G M d kc ks Q pc' (a0 :: a1 :: a2 :: a3 :: a4 :: a5 :: a6 :: a7 :: a8 :: a9 :: a10 :: some (.long x) :: none :: t) st h) : Ev G M d kc ks Q pc (a0 :: a1 :: a2 :: a3 :: a4 :: a5 :: a6 :: a7 :: a8 :: a9 :: a10 :: a11 :: a12 :: t) (.long x :: st) h := by
  obtain ⟨hd, rfl⟩ := hd
  intro p l e R s m args below meth c A H locs cells slots lsA Qf hc h1 h2 hw hS hl hr
  refine lv_lstore hc.1 hc.2.1 hd (ev_ls_has hl) (Nat.lt_of_lt_of_le (by simp only [List.length_cons]; omega) hl.2.2.1) rfl (fun lsB hB => ?_)
  exact k p l e R s m args below meth c A H locs cells slots lsB Qf hc h1 h2 hw hS (ev_ls_st2 hl.2.2.1 (ev_hp (i := 10) (a := a10) rfl hp) hB) hr
theorem ev_iinc_11 {a0 a1 a2 a3 a4 a5 a6 a7 a8 a9 a10 : Option Value} {t : List (Option Value)} {x v : Int32} {n : Int} (hd : fe M pc (.iinc 11 n) 3 pc') (hv : x + Int32.ofInt n = v) (hp : ev_nl a10 = true) (k : Ev G M d kc ks Q pc' (a0 :: a1 :: a2 :: a3 :: a4 :: a5 :: a6 :: a7 :: a8 :: a9 :: a10 :: some (.int v) :: t) st h) : Ev G M d kc ks Q pc (a0 :: a1 :: a2 :: a3 :: a4 :: a5 :: a6 :: a7 :: a8 :: a9 :: a10 :: some (.int x) :: t) st h := by
  obtain ⟨hd, rfl⟩ := hd
  intro p l e R s m args below meth c A H locs cells slots lsA Qf hc h1 h2 hw hS hl hr
  obtain ⟨kk, hkk⟩ := List.getElem?_of_mem (ev_pr_mem.mpr (show (a0 :: a1 :: a2 :: a3 :: a4 :: a5 :: a6 :: a7 :: a8 :: a9 :: a10 :: some (.int x) :: t)[11]? = some (some (.int x)) from rfl))
  refine lv_iinc hc.1 hc.2.1 hd (ev_ls_has hl) hkk hv (Nat.lt_of_lt_of_le (by simp only [List.length_cons]; omega) hl.2.2.1) rfl (fun lsB hB => ?_)
  exact k p l e R s m args below meth c A H locs cells slots lsB Qf hc h1 h2 hw hS (ev_ls_st1 (L := 0) hl.2.2.1 (ev_hp (i := 10) (a := a10) rfl hp) hB) hr
theorem ev_iload_12 {a0 a1 a2 a3 a4 a5 a6 a7 a8 a9 a10 a11 : Option Value} {t : List (Option Value)} {x : Int32} (hd : fe M pc (.iload 12) 2 pc') (k : Ev G M d kc ks Q pc' (a0 :: a1 :: a2 :: a3 :: a4 :: a5 :: a6 :: a7 :: a8 :: a9 :: a10 :: a11 :: some (.int x) :: t) (.int x :: st) h) : Ev G M d kc ks Q pc (a0 :: a1 :: a2 :: a3 :: a4 :: a5 :: a6 :: a7 :: a8 :: a9 :: a10 :: a11 :: some (.int x) :: t) st h := by
  obtain ⟨hd, rfl⟩ := hd
  intro p l e R s m args below meth c A H locs cells slots lsA Qf hc h1 h2 hw hS hl hr
  exact lv_iload hc.1 hc.2.1 hd (hl.2.2.2 12 _ rfl) (k p l e R s m args below meth c A H locs cells slots lsA Qf hc h1 h2 hw hS hl hr)
theorem ev_lload_12 {a0 a1 a2 a3 a4 a5 a6 a7 a8 a9 a10 a11 : Option Value} {t : List (Option Value)} {x : Int64} (hd : fe M pc (.lload 12) 2 pc') (k : Ev G M d kc ks Q pc' (a0 :: a1 :: a2 :: a3 :: a4 :: a5 :: a6 :: a7 :: a8 :: a9 :: a10 :: a11 :: some (.long x) :: t) (.long x :: st) h) : Ev G M d kc ks Q pc (a0 :: a1 :: a2 :: a3 :: a4 :: a5 :: a6 :: a7 :: a8 :: a9 :: a10 :: a11 :: some (.long x) :: t) st h := by
  obtain ⟨hd, rfl⟩ := hd
  intro p l e R s m args below meth c A H locs cells slots lsA Qf hc h1 h2 hw hS hl hr
  exact lv_lload hc.1 hc.2.1 hd (hl.2.2.2 12 _ rfl) (k p l e R s m args below meth c A H locs cells slots lsA Qf hc h1 h2 hw hS hl hr)
theorem ev_aload_12 {a0 a1 a2 a3 a4 a5 a6 a7 a8 a9 a10 a11 : Option Value} {t : List (Option Value)} {x : Nat} (hd : fe M pc (.aload 12) 2 pc') (k : Ev G M d kc ks Q pc' (a0 :: a1 :: a2 :: a3 :: a4 :: a5 :: a6 :: a7 :: a8 :: a9 :: a10 :: a11 :: some (.ref x) :: t) (.ref x :: st) h) : Ev G M d kc ks Q pc (a0 :: a1 :: a2 :: a3 :: a4 :: a5 :: a6 :: a7 :: a8 :: a9 :: a10 :: a11 :: some (.ref x) :: t) st h := by
  obtain ⟨hd, rfl⟩ := hd
  intro p l e R s m args below meth c A H locs cells slots lsA Qf hc h1 h2 hw hS hl hr
  exact lv_aload hc.1 hc.2.1 hd (hl.2.2.2 12 _ rfl) (k p l e R s m args below meth c A H locs cells slots lsA Qf hc h1 h2 hw hS hl hr)
theorem ev_aloadN_12 {a0 a1 a2 a3 a4 a5 a6 a7 a8 a9 a10 a11 : Option Value} {t : List (Option Value)} (hd : fe M pc (.aload 12) 2 pc') (k : Ev G M d kc ks Q pc' (a0 :: a1 :: a2 :: a3 :: a4 :: a5 :: a6 :: a7 :: a8 :: a9 :: a10 :: a11 :: some .null :: t) (.null :: st) h) : Ev G M d kc ks Q pc (a0 :: a1 :: a2 :: a3 :: a4 :: a5 :: a6 :: a7 :: a8 :: a9 :: a10 :: a11 :: some .null :: t) st h := by
  obtain ⟨hd, rfl⟩ := hd
  intro p l e R s m args below meth c A H locs cells slots lsA Qf hc h1 h2 hw hS hl hr
  exact lv_aloadN hc.1 hc.2.1 hd (hl.2.2.2 12 _ rfl) (k p l e R s m args below meth c A H locs cells slots lsA Qf hc h1 h2 hw hS hl hr)
theorem ev_istore_12 {a0 a1 a2 a3 a4 a5 a6 a7 a8 a9 a10 a11 a12 : Option Value} {t : List (Option Value)} {x : Int32} (hd : fe M pc (.istore 12) 2 pc') (hp : ev_nl a11 = true) (k : Ev G M d kc ks Q pc' (a0 :: a1 :: a2 :: a3 :: a4 :: a5 :: a6 :: a7 :: a8 :: a9 :: a10 :: a11 :: some (.int x) :: t) st h) : Ev G M d kc ks Q pc (a0 :: a1 :: a2 :: a3 :: a4 :: a5 :: a6 :: a7 :: a8 :: a9 :: a10 :: a11 :: a12 :: t) (.int x :: st) h := by
  obtain ⟨hd, rfl⟩ := hd
  intro p l e R s m args below meth c A H locs cells slots lsA Qf hc h1 h2 hw hS hl hr
  refine lv_istore hc.1 hc.2.1 hd (ev_ls_has hl) (Nat.lt_of_lt_of_le (by simp only [List.length_cons]; omega) hl.2.2.1) rfl (fun lsB hB => ?_)
  exact k p l e R s m args below meth c A H locs cells slots lsB Qf hc h1 h2 hw hS (ev_ls_st1 (L := 0) hl.2.2.1 (ev_hp (i := 11) (a := a11) rfl hp) hB) hr
theorem ev_astore_12 {a0 a1 a2 a3 a4 a5 a6 a7 a8 a9 a10 a11 a12 : Option Value} {t : List (Option Value)} {x : Nat} (hd : fe M pc (.astore 12) 2 pc') (hp : ev_nl a11 = true) (k : Ev G M d kc ks Q pc' (a0 :: a1 :: a2 :: a3 :: a4 :: a5 :: a6 :: a7 :: a8 :: a9 :: a10 :: a11 :: some (.ref x) :: t) st h) : Ev G M d kc ks Q pc (a0 :: a1 :: a2 :: a3 :: a4 :: a5 :: a6 :: a7 :: a8 :: a9 :: a10 :: a11 :: a12 :: t) (.ref x :: st) h := by
  obtain ⟨hd, rfl⟩ := hd
  intro p l e R s m args below meth c A H locs cells slots lsA Qf hc h1 h2 hw hS hl hr
  refine lv_astore hc.1 hc.2.1 hd (ev_ls_has hl) (Nat.lt_of_lt_of_le (by simp only [List.length_cons]; omega) hl.2.2.1) rfl (fun lsB hB => ?_)
  exact k p l e R s m args below meth c A H locs cells slots lsB Qf hc h1 h2 hw hS (ev_ls_st1 (L := 0) hl.2.2.1 (ev_hp (i := 11) (a := a11) rfl hp) hB) hr
theorem ev_astoreN_12 {a0 a1 a2 a3 a4 a5 a6 a7 a8 a9 a10 a11 a12 : Option Value} {t : List (Option Value)}  (hd : fe M pc (.astore 12) 2 pc') (hp : ev_nl a11 = true) (k : Ev G M d kc ks Q pc' (a0 :: a1 :: a2 :: a3 :: a4 :: a5 :: a6 :: a7 :: a8 :: a9 :: a10 :: a11 :: some (.null) :: t) st h) : Ev G M d kc ks Q pc (a0 :: a1 :: a2 :: a3 :: a4 :: a5 :: a6 :: a7 :: a8 :: a9 :: a10 :: a11 :: a12 :: t) (.null :: st) h := by
  obtain ⟨hd, rfl⟩ := hd
  intro p l e R s m args below meth c A H locs cells slots lsA Qf hc h1 h2 hw hS hl hr
  refine lv_astoreN hc.1 hc.2.1 hd (ev_ls_has hl) (Nat.lt_of_lt_of_le (by simp only [List.length_cons]; omega) hl.2.2.1) rfl (fun lsB hB => ?_)
  exact k p l e R s m args below meth c A H locs cells slots lsB Qf hc h1 h2 hw hS (ev_ls_st1 (L := 0) hl.2.2.1 (ev_hp (i := 11) (a := a11) rfl hp) hB) hr
theorem ev_lstore_12 {a0 a1 a2 a3 a4 a5 a6 a7 a8 a9 a10 a11 a12 a13 : Option Value} {t : List (Option Value)} {x : Int64} (hd : fe M pc (.lstore 12) 2 pc') (hp : ev_nl a11 = true) (k : Ev G M d kc ks Q pc' (a0 :: a1 :: a2 :: a3 :: a4 :: a5 :: a6 :: a7 :: a8 :: a9 :: a10 :: a11 :: some (.long x) :: none :: t) st h) : Ev G M d kc ks Q pc (a0 :: a1 :: a2 :: a3 :: a4 :: a5 :: a6 :: a7 :: a8 :: a9 :: a10 :: a11 :: a12 :: a13 :: t) (.long x :: st) h := by
  obtain ⟨hd, rfl⟩ := hd
  intro p l e R s m args below meth c A H locs cells slots lsA Qf hc h1 h2 hw hS hl hr
  refine lv_lstore hc.1 hc.2.1 hd (ev_ls_has hl) (Nat.lt_of_lt_of_le (by simp only [List.length_cons]; omega) hl.2.2.1) rfl (fun lsB hB => ?_)
  exact k p l e R s m args below meth c A H locs cells slots lsB Qf hc h1 h2 hw hS (ev_ls_st2 hl.2.2.1 (ev_hp (i := 11) (a := a11) rfl hp) hB) hr
theorem ev_iinc_12 {a0 a1 a2 a3 a4 a5 a6 a7 a8 a9 a10 a11 : Option Value} {t : List (Option Value)} {x v : Int32} {n : Int} (hd : fe M pc (.iinc 12 n) 3 pc') (hv : x + Int32.ofInt n = v) (hp : ev_nl a11 = true) (k : Ev G M d kc ks Q pc' (a0 :: a1 :: a2 :: a3 :: a4 :: a5 :: a6 :: a7 :: a8 :: a9 :: a10 :: a11 :: some (.int v) :: t) st h) : Ev G M d kc ks Q pc (a0 :: a1 :: a2 :: a3 :: a4 :: a5 :: a6 :: a7 :: a8 :: a9 :: a10 :: a11 :: some (.int x) :: t) st h := by
  obtain ⟨hd, rfl⟩ := hd
  intro p l e R s m args below meth c A H locs cells slots lsA Qf hc h1 h2 hw hS hl hr
  obtain ⟨kk, hkk⟩ := List.getElem?_of_mem (ev_pr_mem.mpr (show (a0 :: a1 :: a2 :: a3 :: a4 :: a5 :: a6 :: a7 :: a8 :: a9 :: a10 :: a11 :: some (.int x) :: t)[12]? = some (some (.int x)) from rfl))
  refine lv_iinc hc.1 hc.2.1 hd (ev_ls_has hl) hkk hv (Nat.lt_of_lt_of_le (by simp only [List.length_cons]; omega) hl.2.2.1) rfl (fun lsB hB => ?_)
  exact k p l e R s m args below meth c A H locs cells slots lsB Qf hc h1 h2 hw hS (ev_ls_st1 (L := 0) hl.2.2.1 (ev_hp (i := 11) (a := a11) rfl hp) hB) hr
theorem ev_iload_13 {a0 a1 a2 a3 a4 a5 a6 a7 a8 a9 a10 a11 a12 : Option Value} {t : List (Option Value)} {x : Int32} (hd : fe M pc (.iload 13) 2 pc') (k : Ev G M d kc ks Q pc' (a0 :: a1 :: a2 :: a3 :: a4 :: a5 :: a6 :: a7 :: a8 :: a9 :: a10 :: a11 :: a12 :: some (.int x) :: t) (.int x :: st) h) : Ev G M d kc ks Q pc (a0 :: a1 :: a2 :: a3 :: a4 :: a5 :: a6 :: a7 :: a8 :: a9 :: a10 :: a11 :: a12 :: some (.int x) :: t) st h := by
  obtain ⟨hd, rfl⟩ := hd
  intro p l e R s m args below meth c A H locs cells slots lsA Qf hc h1 h2 hw hS hl hr
  exact lv_iload hc.1 hc.2.1 hd (hl.2.2.2 13 _ rfl) (k p l e R s m args below meth c A H locs cells slots lsA Qf hc h1 h2 hw hS hl hr)
theorem ev_lload_13 {a0 a1 a2 a3 a4 a5 a6 a7 a8 a9 a10 a11 a12 : Option Value} {t : List (Option Value)} {x : Int64} (hd : fe M pc (.lload 13) 2 pc') (k : Ev G M d kc ks Q pc' (a0 :: a1 :: a2 :: a3 :: a4 :: a5 :: a6 :: a7 :: a8 :: a9 :: a10 :: a11 :: a12 :: some (.long x) :: t) (.long x :: st) h) : Ev G M d kc ks Q pc (a0 :: a1 :: a2 :: a3 :: a4 :: a5 :: a6 :: a7 :: a8 :: a9 :: a10 :: a11 :: a12 :: some (.long x) :: t) st h := by
  obtain ⟨hd, rfl⟩ := hd
  intro p l e R s m args below meth c A H locs cells slots lsA Qf hc h1 h2 hw hS hl hr
  exact lv_lload hc.1 hc.2.1 hd (hl.2.2.2 13 _ rfl) (k p l e R s m args below meth c A H locs cells slots lsA Qf hc h1 h2 hw hS hl hr)
theorem ev_aload_13 {a0 a1 a2 a3 a4 a5 a6 a7 a8 a9 a10 a11 a12 : Option Value} {t : List (Option Value)} {x : Nat} (hd : fe M pc (.aload 13) 2 pc') (k : Ev G M d kc ks Q pc' (a0 :: a1 :: a2 :: a3 :: a4 :: a5 :: a6 :: a7 :: a8 :: a9 :: a10 :: a11 :: a12 :: some (.ref x) :: t) (.ref x :: st) h) : Ev G M d kc ks Q pc (a0 :: a1 :: a2 :: a3 :: a4 :: a5 :: a6 :: a7 :: a8 :: a9 :: a10 :: a11 :: a12 :: some (.ref x) :: t) st h := by
  obtain ⟨hd, rfl⟩ := hd
  intro p l e R s m args below meth c A H locs cells slots lsA Qf hc h1 h2 hw hS hl hr
  exact lv_aload hc.1 hc.2.1 hd (hl.2.2.2 13 _ rfl) (k p l e R s m args below meth c A H locs cells slots lsA Qf hc h1 h2 hw hS hl hr)
theorem ev_aloadN_13 {a0 a1 a2 a3 a4 a5 a6 a7 a8 a9 a10 a11 a12 : Option Value} {t : List (Option Value)} (hd : fe M pc (.aload 13) 2 pc') (k : Ev G M d kc ks Q pc' (a0 :: a1 :: a2 :: a3 :: a4 :: a5 :: a6 :: a7 :: a8 :: a9 :: a10 :: a11 :: a12 :: some .null :: t) (.null :: st) h) : Ev G M d kc ks Q pc (a0 :: a1 :: a2 :: a3 :: a4 :: a5 :: a6 :: a7 :: a8 :: a9 :: a10 :: a11 :: a12 :: some .null :: t) st h := by
  obtain ⟨hd, rfl⟩ := hd
  intro p l e R s m args below meth c A H locs cells slots lsA Qf hc h1 h2 hw hS hl hr
  exact lv_aloadN hc.1 hc.2.1 hd (hl.2.2.2 13 _ rfl) (k p l e R s m args below meth c A H locs cells slots lsA Qf hc h1 h2 hw hS hl hr)
theorem ev_istore_13 {a0 a1 a2 a3 a4 a5 a6 a7 a8 a9 a10 a11 a12 a13 : Option Value} {t : List (Option Value)} {x : Int32} (hd : fe M pc (.istore 13) 2 pc') (hp : ev_nl a12 = true) (k : Ev G M d kc ks Q pc' (a0 :: a1 :: a2 :: a3 :: a4 :: a5 :: a6 :: a7 :: a8 :: a9 :: a10 :: a11 :: a12 :: some (.int x) :: t) st h) : Ev G M d kc ks Q pc (a0 :: a1 :: a2 :: a3 :: a4 :: a5 :: a6 :: a7 :: a8 :: a9 :: a10 :: a11 :: a12 :: a13 :: t) (.int x :: st) h := by
  obtain ⟨hd, rfl⟩ := hd
  intro p l e R s m args below meth c A H locs cells slots lsA Qf hc h1 h2 hw hS hl hr
  refine lv_istore hc.1 hc.2.1 hd (ev_ls_has hl) (Nat.lt_of_lt_of_le (by simp only [List.length_cons]; omega) hl.2.2.1) rfl (fun lsB hB => ?_)
  exact k p l e R s m args below meth c A H locs cells slots lsB Qf hc h1 h2 hw hS (ev_ls_st1 (L := 0) hl.2.2.1 (ev_hp (i := 12) (a := a12) rfl hp) hB) hr
theorem ev_astore_13 {a0 a1 a2 a3 a4 a5 a6 a7 a8 a9 a10 a11 a12 a13 : Option Value} {t : List (Option Value)} {x : Nat} (hd : fe M pc (.astore 13) 2 pc') (hp : ev_nl a12 = true) (k : Ev G M d kc ks Q pc' (a0 :: a1 :: a2 :: a3 :: a4 :: a5 :: a6 :: a7 :: a8 :: a9 :: a10 :: a11 :: a12 :: some (.ref x) :: t) st h) : Ev G M d kc ks Q pc (a0 :: a1 :: a2 :: a3 :: a4 :: a5 :: a6 :: a7 :: a8 :: a9 :: a10 :: a11 :: a12 :: a13 :: t) (.ref x :: st) h := by
  obtain ⟨hd, rfl⟩ := hd
  intro p l e R s m args below meth c A H locs cells slots lsA Qf hc h1 h2 hw hS hl hr
  refine lv_astore hc.1 hc.2.1 hd (ev_ls_has hl) (Nat.lt_of_lt_of_le (by simp only [List.length_cons]; omega) hl.2.2.1) rfl (fun lsB hB => ?_)
  exact k p l e R s m args below meth c A H locs cells slots lsB Qf hc h1 h2 hw hS (ev_ls_st1 (L := 0) hl.2.2.1 (ev_hp (i := 12) (a := a12) rfl hp) hB) hr
theorem ev_astoreN_13 {a0 a1 a2 a3 a4 a5 a6 a7 a8 a9 a10 a11 a12 a13 : Option Value} {t : List (Option Value)}  (hd : fe M pc (.astore 13) 2 pc') (hp : ev_nl a12 = true) (k : Ev G M d kc ks Q pc' (a0 :: a1 :: a2 :: a3 :: a4 :: a5 :: a6 :: a7 :: a8 :: a9 :: a10 :: a11 :: a12 :: some (.null) :: t) st h) : Ev G M d kc ks Q pc (a0 :: a1 :: a2 :: a3 :: a4 :: a5 :: a6 :: a7 :: a8 :: a9 :: a10 :: a11 :: a12 :: a13 :: t) (.null :: st) h := by
  obtain ⟨hd, rfl⟩ := hd
  intro p l e R s m args below meth c A H locs cells slots lsA Qf hc h1 h2 hw hS hl hr
  refine lv_astoreN hc.1 hc.2.1 hd (ev_ls_has hl) (Nat.lt_of_lt_of_le (by simp only [List.length_cons]; omega) hl.2.2.1) rfl (fun lsB hB => ?_)
  exact k p l e R s m args below meth c A H locs cells slots lsB Qf hc h1 h2 hw hS (ev_ls_st1 (L := 0) hl.2.2.1 (ev_hp (i := 12) (a := a12) rfl hp) hB) hr
theorem ev_lstore_13 {a0 a1 a2 a3 a4 a5 a6 a7 a8 a9 a10 a11 a12 a13 a14 : Option Value} {t : List (Option Value)} {x : Int64} (hd : fe M pc (.lstore 13) 2 pc') (hp : ev_nl a12 = true) (k : Ev G M d kc ks Q pc' (a0 :: a1 :: a2 :: a3 :: a4 :: a5 :: a6 :: a7 :: a8 :: a9 :: a10 :: a11 :: a12 :: some (.long x) :: none :: t) st h) : Ev G M d kc ks Q pc (a0 :: a1 :: a2 :: a3 :: a4 :: a5 :: a6 :: a7 :: a8 :: a9 :: a10 :: a11 :: a12 :: a13 :: a14 :: t) (.long x :: st) h := by
  obtain ⟨hd, rfl⟩ := hd
  intro p l e R s m args below meth c A H locs cells slots lsA Qf hc h1 h2 hw hS hl hr
  refine lv_lstore hc.1 hc.2.1 hd (ev_ls_has hl) (Nat.lt_of_lt_of_le (by simp only [List.length_cons]; omega) hl.2.2.1) rfl (fun lsB hB => ?_)
  exact k p l e R s m args below meth c A H locs cells slots lsB Qf hc h1 h2 hw hS (ev_ls_st2 hl.2.2.1 (ev_hp (i := 12) (a := a12) rfl hp) hB) hr
theorem ev_iinc_13 {a0 a1 a2 a3 a4 a5 a6 a7 a8 a9 a10 a11 a12 : Option Value} {t : List (Option Value)} {x v : Int32} {n : Int} (hd : fe M pc (.iinc 13 n) 3 pc') (hv : x + Int32.ofInt n = v) (hp : ev_nl a12 = true) (k : Ev G M d kc ks Q pc' (a0 :: a1 :: a2 :: a3 :: a4 :: a5 :: a6 :: a7 :: a8 :: a9 :: a10 :: a11 :: a12 :: some (.int v) :: t) st h) : Ev G M d kc ks Q pc (a0 :: a1 :: a2 :: a3 :: a4 :: a5 :: a6 :: a7 :: a8 :: a9 :: a10 :: a11 :: a12 :: some (.int x) :: t) st h := by
  obtain ⟨hd, rfl⟩ := hd
  intro p l e R s m args below meth c A H locs cells slots lsA Qf hc h1 h2 hw hS hl hr
  obtain ⟨kk, hkk⟩ := List.getElem?_of_mem (ev_pr_mem.mpr (show (a0 :: a1 :: a2 :: a3 :: a4 :: a5 :: a6 :: a7 :: a8 :: a9 :: a10 :: a11 :: a12 :: some (.int x) :: t)[13]? = some (some (.int x)) from rfl))
  refine lv_iinc hc.1 hc.2.1 hd (ev_ls_has hl) hkk hv (Nat.lt_of_lt_of_le (by simp only [List.length_cons]; omega) hl.2.2.1) rfl (fun lsB hB => ?_)
  exact k p l e R s m args below meth c A H locs cells slots lsB Qf hc h1 h2 hw hS (ev_ls_st1 (L := 0) hl.2.2.1 (ev_hp (i := 12) (a := a12) rfl hp) hB) hr
theorem ev_iload_14 {a0 a1 a2 a3 a4 a5 a6 a7 a8 a9 a10 a11 a12 a13 : Option Value} {t : List (Option Value)} {x : Int32} (hd : fe M pc (.iload 14) 2 pc') (k : Ev G M d kc ks Q pc' (a0 :: a1 :: a2 :: a3 :: a4 :: a5 :: a6 :: a7 :: a8 :: a9 :: a10 :: a11 :: a12 :: a13 :: some (.int x) :: t) (.int x :: st) h) : Ev G M d kc ks Q pc (a0 :: a1 :: a2 :: a3 :: a4 :: a5 :: a6 :: a7 :: a8 :: a9 :: a10 :: a11 :: a12 :: a13 :: some (.int x) :: t) st h := by
  obtain ⟨hd, rfl⟩ := hd
  intro p l e R s m args below meth c A H locs cells slots lsA Qf hc h1 h2 hw hS hl hr
  exact lv_iload hc.1 hc.2.1 hd (hl.2.2.2 14 _ rfl) (k p l e R s m args below meth c A H locs cells slots lsA Qf hc h1 h2 hw hS hl hr)
theorem ev_lload_14 {a0 a1 a2 a3 a4 a5 a6 a7 a8 a9 a10 a11 a12 a13 : Option Value} {t : List (Option Value)} {x : Int64} (hd : fe M pc (.lload 14) 2 pc') (k : Ev G M d kc ks Q pc' (a0 :: a1 :: a2 :: a3 :: a4 :: a5 :: a6 :: a7 :: a8 :: a9 :: a10 :: a11 :: a12 :: a13 :: some (.long x) :: t) (.long x :: st) h) : Ev G M d kc ks Q pc (a0 :: a1 :: a2 :: a3 :: a4 :: a5 :: a6 :: a7 :: a8 :: a9 :: a10 :: a11 :: a12 :: a13 :: some (.long x) :: t) st h := by
  obtain ⟨hd, rfl⟩ := hd
  intro p l e R s m args below meth c A H locs cells slots lsA Qf hc h1 h2 hw hS hl hr
  exact lv_lload hc.1 hc.2.1 hd (hl.2.2.2 14 _ rfl) (k p l e R s m args below meth c A H locs cells slots lsA Qf hc h1 h2 hw hS hl hr)
theorem ev_aload_14 {a0 a1 a2 a3 a4 a5 a6 a7 a8 a9 a10 a11 a12 a13 : Option Value} {t : List (Option Value)} {x : Nat} (hd : fe M pc (.aload 14) 2 pc') (k : Ev G M d kc ks Q pc' (a0 :: a1 :: a2 :: a3 :: a4 :: a5 :: a6 :: a7 :: a8 :: a9 :: a10 :: a11 :: a12 :: a13 :: some (.ref x) :: t) (.ref x :: st) h) : Ev G M d kc ks Q pc (a0 :: a1 :: a2 :: a3 :: a4 :: a5 :: a6 :: a7 :: a8 :: a9 :: a10 :: a11 :: a12 :: a13 :: some (.ref x) :: t) st h := by
  obtain ⟨hd, rfl⟩ := hd
  intro p l e R s m args below meth c A H locs cells slots lsA Qf hc h1 h2 hw hS hl hr
  exact lv_aload hc.1 hc.2.1 hd (hl.2.2.2 14 _ rfl) (k p l e R s m args below meth c A H locs cells slots lsA Qf hc h1 h2 hw hS hl hr)
theorem ev_aloadN_14 {a0 a1 a2 a3 a4 a5 a6 a7 a8 a9 a10 a11 a12 a13 : Option Value} {t : List (Option Value)} (hd : fe M pc (.aload 14) 2 pc') (k : Ev G M d kc ks Q pc' (a0 :: a1 :: a2 :: a3 :: a4 :: a5 :: a6 :: a7 :: a8 :: a9 :: a10 :: a11 :: a12 :: a13 :: some .null :: t) (.null :: st) h) : Ev G M d kc ks Q pc (a0 :: a1 :: a2 :: a3 :: a4 :: a5 :: a6 :: a7 :: a8 :: a9 :: a10 :: a11 :: a12 :: a13 :: some .null :: t) st h := by
  obtain ⟨hd, rfl⟩ := hd
  intro p l e R s m args below meth c A H locs cells slots lsA Qf hc h1 h2 hw hS hl hr
  exact lv_aloadN hc.1 hc.2.1 hd (hl.2.2.2 14 _ rfl) (k p l e R s m args below meth c A H locs cells slots lsA Qf hc h1 h2 hw hS hl hr)
theorem ev_istore_14 {a0 a1 a2 a3 a4 a5 a6 a7 a8 a9 a10 a11 a12 a13 a14 : Option Value} {t : List (Option Value)} {x : Int32} (hd : fe M pc (.istore 14) 2 pc') (hp : ev_nl a13 = true) (k : Ev G M d kc ks Q pc' (a0 :: a1 :: a2 :: a3 :: a4 :: a5 :: a6 :: a7 :: a8 :: a9 :: a10 :: a11 :: a12 :: a13 :: some (.int x) :: t) st h) : Ev G M d kc ks Q pc (a0 :: a1 :: a2 :: a3 :: a4 :: a5 :: a6 :: a7 :: a8 :: a9 :: a10 :: a11 :: a12 :: a13 :: a14 :: t) (.int x :: st) h := by
  obtain ⟨hd, rfl⟩ := hd
  intro p l e R s m args below meth c A H locs cells slots lsA Qf hc h1 h2 hw hS hl hr
  refine lv_istore hc.1 hc.2.1 hd (ev_ls_has hl) (Nat.lt_of_lt_of_le (by simp only [List.length_cons]; omega) hl.2.2.1) rfl (fun lsB hB => ?_)
  exact k p l e R s m args below meth c A H locs cells slots lsB Qf hc h1 h2 hw hS (ev_ls_st1 (L := 0) hl.2.2.1 (ev_hp (i := 13) (a := a13) rfl hp) hB) hr
theorem ev_astore_14 {a0 a1 a2 a3 a4 a5 a6 a7 a8 a9 a10 a11 a12 a13 a14 : Option Value} {t : List (Option Value)} {x : Nat} (hd : fe M pc (.astore 14) 2 pc') (hp : ev_nl a13 = true) (k : Ev G M d kc ks Q pc' (a0 :: a1 :: a2 :: a3 :: a4 :: a5 :: a6 :: a7 :: a8 :: a9 :: a10 :: a11 :: a12 :: a13 :: some (.ref x) :: t) st h) : Ev G M d kc ks Q pc (a0 :: a1 :: a2 :: a3 :: a4 :: a5 :: a6 :: a7 :: a8 :: a9 :: a10 :: a11 :: a12 :: a13 :: a14 :: t) (.ref x :: st) h := by
  obtain ⟨hd, rfl⟩ := hd
  intro p l e R s m args below meth c A H locs cells slots lsA Qf hc h1 h2 hw hS hl hr
  refine lv_astore hc.1 hc.2.1 hd (ev_ls_has hl) (Nat.lt_of_lt_of_le (by simp only [List.length_cons]; omega) hl.2.2.1) rfl (fun lsB hB => ?_)
  exact k p l e R s m args below meth c A H locs cells slots lsB Qf hc h1 h2 hw hS (ev_ls_st1 (L := 0) hl.2.2.1 (ev_hp (i := 13) (a := a13) rfl hp) hB) hr
theorem ev_astoreN_14 {a0 a1 a2 a3 a4 a5 a6 a7 a8 a9 a10 a11 a12 a13 a14 : Option Value} {t : List (Option Value)}  (hd : fe M pc (.astore 14) 2 pc') (hp : ev_nl a13 = true) (k : Ev G M d kc ks Q pc' (a0 :: a1 :: a2 :: a3 :: a4 :: a5 :: a6 :: a7 :: a8 :: a9 :: a10 :: a11 :: a12 :: a13 :: some (.null) :: t) st h) : Ev G M d kc ks Q pc (a0 :: a1 :: a2 :: a3 :: a4 :: a5 :: a6 :: a7 :: a8 :: a9 :: a10 :: a11 :: a12 :: a13 :: a14 :: t) (.null :: st) h := by
  obtain ⟨hd, rfl⟩ := hd
  intro p l e R s m args below meth c A H locs cells slots lsA Qf hc h1 h2 hw hS hl hr
  refine lv_astoreN hc.1 hc.2.1 hd (ev_ls_has hl) (Nat.lt_of_lt_of_le (by simp only [List.length_cons]; omega) hl.2.2.1) rfl (fun lsB hB => ?_)
  exact k p l e R s m args below meth c A H locs cells slots lsB Qf hc h1 h2 hw hS (ev_ls_st1 (L := 0) hl.2.2.1 (ev_hp (i := 13) (a := a13) rfl hp) hB) hr
theorem ev_lstore_14 {a0 a1 a2 a3 a4 a5 a6 a7 a8 a9 a10 a11 a12 a13 a14 a15 : Option Value} {t : List (Option Value)} {x : Int64} (hd : fe M pc (.lstore 14) 2 pc') (hp : ev_nl a13 = true) (k : Ev G M d kc ks Q pc' (a0 :: a1 :: a2 :: a3 :: a4 :: a5 :: a6 :: a7 :: a8 :: a9 :: a10 :: a11 :: a12 :: a13 :: some (.long x) :: none :: t) st h) : Ev G M d kc ks Q pc (a0 :: a1 :: a2 :: a3 :: a4 :: a5 :: a6 :: a7 :: a8 :: a9 :: a10 :: a11 :: a12 :: a13 :: a14 :: a15 :: t) (.long x :: st) h := by
  obtain ⟨hd, rfl⟩ := hd
  intro p l e R s m args below meth c A H locs cells slots lsA Qf hc h1 h2 hw hS hl hr
  refine lv_lstore hc.1 hc.2.1 hd (ev_ls_has hl) (Nat.lt_of_lt_of_le (by simp only [List.length_cons]; omega) hl.2.2.1) rfl (fun lsB hB => ?_)
  exact k p l e R s m args below meth c A H locs cells slots lsB Qf hc h1 h2 hw hS (ev_ls_st2 hl.2.2.1 (ev_hp (i := 13) (a := a13) rfl hp) hB) hr
theorem ev_iinc_14 {a0 a1 a2 a3 a4 a5 a6 a7 a8 a9 a10 a11 a12 a13 : Option Value} {t : List (Option Value)} {x v : Int32} {n : Int} (hd : fe M pc (.iinc 14 n) 3 pc') (hv : x + Int32.ofInt n = v) (hp : ev_nl a13 = true) (k : Ev G M d kc ks Q pc' (a0 :: a1 :: a2 :: a3 :: a4 :: a5 :: a6 :: a7 :: a8 :: a9 :: a10 :: a11 :: a12 :: a13 :: some (.int v) :: t) st h) : Ev G M d kc ks Q pc (a0 :: a1 :: a2 :: a3 :: a4 :: a5 :: a6 :: a7 :: a8 :: a9 :: a10 :: a11 :: a12 :: a13 :: some (.int x) :: t) st h := by
  obtain ⟨hd, rfl⟩ := hd
  intro p l e R s m args below meth c A H locs cells slots lsA Qf hc h1 h2 hw hS hl hr
  obtain ⟨kk, hkk⟩ := List.getElem?_of_mem (ev_pr_mem.mpr (show (a0 :: a1 :: a2 :: a3 :: a4 :: a5 :: a6 :: a7 :: a8 :: a9 :: a10 :: a11 :: a12 :: a13 :: some (.int x) :: t)[14]? = some (some (.int x)) from rfl))
  refine lv_iinc hc.1 hc.2.1 hd (ev_ls_has hl) hkk hv (Nat.lt_of_lt_of_le (by simp only [List.length_cons]; omega) hl.2.2.1) rfl (fun lsB hB => ?_)
  exact k p l e R s m args below meth c A H locs cells slots lsB Qf hc h1 h2 hw hS (ev_ls_st1 (L := 0) hl.2.2.1 (ev_hp (i := 13) (a := a13) rfl hp) hB) hr
theorem ev_iload_15 {a0 a1 a2 a3 a4 a5 a6 a7 a8 a9 a10 a11 a12 a13 a14 : Option Value} {t : List (Option Value)} {x : Int32} (hd : fe M pc (.iload 15) 2 pc') (k : Ev G M d kc ks Q pc' (a0 :: a1 :: a2 :: a3 :: a4 :: a5 :: a6 :: a7 :: a8 :: a9 :: a10 :: a11 :: a12 :: a13 :: a14 :: some (.int x) :: t) (.int x :: st) h) : Ev G M d kc ks Q pc (a0 :: a1 :: a2 :: a3 :: a4 :: a5 :: a6 :: a7 :: a8 :: a9 :: a10 :: a11 :: a12 :: a13 :: a14 :: some (.int x) :: t) st h := by
  obtain ⟨hd, rfl⟩ := hd
  intro p l e R s m args below meth c A H locs cells slots lsA Qf hc h1 h2 hw hS hl hr
  exact lv_iload hc.1 hc.2.1 hd (hl.2.2.2 15 _ rfl) (k p l e R s m args below meth c A H locs cells slots lsA Qf hc h1 h2 hw hS hl hr)
theorem ev_lload_15 {a0 a1 a2 a3 a4 a5 a6 a7 a8 a9 a10 a11 a12 a13 a14 : Option Value} {t : List (Option Value)} {x : Int64} (hd : fe M pc (.lload 15) 2 pc') (k : Ev G M d kc ks Q pc' (a0 :: a1 :: a2 :: a3 :: a4 :: a5 :: a6 :: a7 :: a8 :: a9 :: a10 :: a11 :: a12 :: a13 :: a14 :: some (.long x) :: t) (.long x :: st) h) : Ev G M d kc ks Q pc (a0 :: a1 :: a2 :: a3 :: a4 :: a5 :: a6 :: a7 :: a8 :: a9 :: a10 :: a11 :: a12 :: a13 :: a14 :: some (.long x) :: t) st h := by
  obtain ⟨hd, rfl⟩ := hd
  intro p l e R s m args below meth c A H locs cells slots lsA Qf hc h1 h2 hw hS hl hr
  exact lv_lload hc.1 hc.2.1 hd (hl.2.2.2 15 _ rfl) (k p l e R s m args below meth c A H locs cells slots lsA Qf hc h1 h2 hw hS hl hr)
theorem ev_aload_15 {a0 a1 a2 a3 a4 a5 a6 a7 a8 a9 a10 a11 a12 a13 a14 : Option Value} {t : List (Option Value)} {x : Nat} (hd : fe M pc (.aload 15) 2 pc') (k : Ev G M d kc ks Q pc' (a0 :: a1 :: a2 :: a3 :: a4 :: a5 :: a6 :: a7 :: a8 :: a9 :: a10 :: a11 :: a12 :: a13 :: a14 :: some (.ref x) :: t) (.ref x :: st) h) : Ev G M d kc ks Q pc (a0 :: a1 :: a2 :: a3 :: a4 :: a5 :: a6 :: a7 :: a8 :: a9 :: a10 :: a11 :: a12 :: a13 :: a14 :: some (.ref x) :: t) st h := by
  obtain ⟨hd, rfl⟩ := hd
  intro p l e R s m args below meth c A H locs cells slots lsA Qf hc h1 h2 hw hS hl hr
  exact lv_aload hc.1 hc.2.1 hd (hl.2.2.2 15 _ rfl) (k p l e R s m args below meth c A H locs cells slots lsA Qf hc h1 h2 hw hS hl hr)
theorem ev_aloadN_15 {a0 a1 a2 a3 a4 a5 a6 a7 a8 a9 a10 a11 a12 a13 a14 : Option Value} {t : List (Option Value)} (hd : fe M pc (.aload 15) 2 pc') (k : Ev G M d kc ks Q pc' (a0 :: a1 :: a2 :: a3 :: a4 :: a5 :: a6 :: a7 :: a8 :: a9 :: a10 :: a11 :: a12 :: a13 :: a14 :: some .null :: t) (.null :: st) h) : Ev G M d kc ks Q pc (a0 :: a1 :: a2 :: a3 :: a4 :: a5 :: a6 :: a7 :: a8 :: a9 :: a10 :: a11 :: a12 :: a13 :: a14 :: some .null :: t) st h := by
  obtain ⟨hd, rfl⟩ := hd
  intro p l e R s m args below meth c A H locs cells slots lsA Qf hc h1 h2 hw hS hl hr
  exact lv_aloadN hc.1 hc.2.1 hd (hl.2.2.2 15 _ rfl) (k p l e R s m args below meth c A H locs cells slots lsA Qf hc h1 h2 hw hS hl hr)
theorem ev_istore_15 {a0 a1 a2 a3 a4 a5 a6 a7 a8 a9 a10 a11 a12 a13 a14 a15 : Option Value} {t : List (Option Value)} {x : Int32} (hd : fe M pc (.istore 15) 2 pc') (hp : ev_nl a14 = true) (k : Ev G M d kc ks Q pc' (a0 :: a1 :: a2 :: a3 :: a4 :: a5 :: a6 :: a7 :: a8 :: a9 :: a10 :: a11 :: a12 :: a13 :: a14 :: some (.int x) :: t) st h) : Ev G M d kc ks Q pc (a0 :: a1 :: a2 :: a3 :: a4 :: a5 :: a6 :: a7 :: a8 :: a9 :: a10 :: a11 :: a12 :: a13 :: a14 :: a15 :: t) (.int x :: st) h := by
  obtain ⟨hd, rfl⟩ := hd
  intro p l e R s m args below meth c A H locs cells slots lsA Qf hc h1 h2 hw hS hl hr
  refine lv_istore hc.1 hc.2.1 hd (ev_ls_has hl) (Nat.lt_of_lt_of_le (by simp only [List.length_cons]; omega) hl.2.2.1) rfl (fun lsB hB => ?_)
  exact k p l e R s m args below meth c A H locs cells slots lsB Qf hc h1 h2 hw hS (ev_ls_st1 (L := 0) hl.2.2.1 (ev_hp (i := 14) (a := a14) rfl hp) hB) hr
theorem ev_astore_15 {a0 a1 a2 a3 a4 a5 a6 a7 a8 a9 a10 a11 a12 a13 a14 a15 : Option Value} {t : List (Option Value)} {x : Nat} (hd : fe M pc (.astore 15) 2 pc') (hp : ev_nl a14 = true) (k : Ev G M d kc ks Q pc' (a0 :: a1 :: a2 :: a3 :: a4 :: a5 :: a6 :: a7 :: a8 :: a9 :: a10 :: a11 :: a12 :: a13 :: a14 :: some (.ref x) :: t) st h) : Ev G M d kc ks Q pc (a0 :: a1 :: a2 :: a3 :: a4 :: a5 :: a6 :: a7 :: a8 :: a9 :: a10 :: a11 :: a12 :: a13 :: a14 :: a15 :: t) (.ref x :: st) h := by
  obtain ⟨hd, rfl⟩ := hd
  intro p l e R s m args below meth c A H locs cells slots lsA Qf hc h1 h2 hw hS hl hr
  refine lv_astore hc.1 hc.2.1 hd (ev_ls_has hl) (Nat.lt_of_lt_of_le (by simp only [List.length_cons]; omega) hl.2.2.1) rfl (fun lsB hB => ?_)
  exact k p l e R s m args below meth c A H locs cells slots lsB Qf hc h1 h2 hw hS (ev_ls_st1 (L := 0) hl.2.2.1 (ev_hp (i := 14) (a := a14) rfl hp) hB) hr
theorem ev_astoreN_15 {a0 a1 a2 a3 a4 a5 a6 a7 a8 a9 a10 a11 a12 a13 a14 a15 : Option Value} {t : List (Option Value)}  (hd : fe M pc (.astore 15) 2 pc') (hp : ev_nl a14 = true) (k : Ev G M d kc ks Q pc' (a0 :: a1 :: a2 :: a3 :: a4 :: a5 :: a6 :: a7 :: a8 :: a9 :: a10 :: a11 :: a12 :: a13 :: a14 :: some (.null) :: t) st h) : Ev G M d kc ks Q pc (a0 :: a1 :: a2 :: a3 :: a4 :: a5 :: a6 :: a7 :: a8 :: a9 :: a10 :: a11 :: a12 :: a13 :: a14 :: a15 :: t) (.null :: st) h := by
  obtain ⟨hd, rfl⟩ := hd
  intro p l e R s m args below meth c A H locs cells slots lsA Qf hc h1 h2 hw hS hl hr
  refine lv_astoreN hc.1 hc.2.1 hd (ev_ls_has hl) (Nat.lt_of_lt_of_le (by simp only [List.length_cons]; omega) hl.2.2.1) rfl (fun lsB hB => ?_)
  exact k p l e R s m args below meth c A H locs cells slots lsB Qf hc h1 h2 hw hS (ev_ls_st1 (L := 0) hl.2.2.1 (ev_hp (i := 14) (a := a14) rfl hp) hB) hr
theorem ev_lstore_15 {a0 a1 a2 a3 a4 a5 a6 a7 a8 a9 a10 a11 a12 a13 a14 a15 a16 : Option Value} {t : List (Option Value)} {x : Int64} (hd : fe M pc (.lstore 15) 2 pc') (hp : ev_nl a14 = true) (k : Ev G M d kc ks Q pc' (a0 :: a1 :: a2 :: a3 :: a4 :: a5 :: a6 :: a7 :: a8 :: a9 :: a10 :: a11 :: a12 :: a13 :: a14 :: some (.long x) :: none :: t) st h) : Ev G M d kc ks Q pc (a0 :: a1 :: a2 :: a3 :: a4 :: a5 :: a6 :: a7 :: a8 :: a9 :: a10 :: a11 :: a12 :: a13 :: a14 :: a15 :: a16 :: t) (.long x :: st) h := by
  obtain ⟨hd, rfl⟩ := hd
  intro p l e R s m args below meth c A H locs cells slots lsA Qf hc h1 h2 hw hS hl hr
  refine lv_lstore hc.1 hc.2.1 hd (ev_ls_has hl) (Nat.lt_of_lt_of_le (by simp only [List.length_cons]; omega) hl.2.2.1) rfl (fun lsB hB => ?_)
  exact k p l e R s m args below meth c A H locs cells slots lsB Qf hc h1 h2 hw hS (ev_ls_st2 hl.2.2.1 (ev_hp (i := 14) (a := a14) rfl hp) hB) hr
theorem ev_iinc_15 {a0 a1 a2 a3 a4 a5 a6 a7 a8 a9 a10 a11 a12 a13 a14 : Option Value} {t : List (Option Value)} {x v : Int32} {n : Int} (hd : fe M pc (.iinc 15 n) 3 pc') (hv : x + Int32.ofInt n = v) (hp : ev_nl a14 = true) (k : Ev G M d kc ks Q pc' (a0 :: a1 :: a2 :: a3 :: a4 :: a5 :: a6 :: a7 :: a8 :: a9 :: a10 :: a11 :: a12 :: a13 :: a14 :: some (.int v) :: t) st h) : Ev G M d kc ks Q pc (a0 :: a1 :: a2 :: a3 :: a4 :: a5 :: a6 :: a7 :: a8 :: a9 :: a10 :: a11 :: a12 :: a13 :: a14 :: some (.int x) :: t) st h := by
  obtain ⟨hd, rfl⟩ := hd
  intro p l e R s m args below meth c A H locs cells slots lsA Qf hc h1 h2 hw hS hl hr
  obtain ⟨kk, hkk⟩ := List.getElem?_of_mem (ev_pr_mem.mpr (show (a0 :: a1 :: a2 :: a3 :: a4 :: a5 :: a6 :: a7 :: a8 :: a9 :: a10 :: a11 :: a12 :: a13 :: a14 :: some (.int x) :: t)[15]? = some (some (.int x)) from rfl))
  refine lv_iinc hc.1 hc.2.1 hd (ev_ls_has hl) hkk hv (Nat.lt_of_lt_of_le (by simp only [List.length_cons]; omega) hl.2.2.1) rfl (fun lsB hB => ?_)
  exact k p l e R s m args below meth c A H locs cells slots lsB Qf hc h1 h2 hw hS (ev_ls_st1 (L := 0) hl.2.2.1 (ev_hp (i := 14) (a := a14) rfl hp) hB) hr
theorem ev_iload_16 {a0 a1 a2 a3 a4 a5 a6 a7 a8 a9 a10 a11 a12 a13 a14 a15 : Option Value} {t : List (Option Value)} {x : Int32} (hd : fe M pc (.iload 16) 2 pc') (k : Ev G M d kc ks Q pc' (a0 :: a1 :: a2 :: a3 :: a4 :: a5 :: a6 :: a7 :: a8 :: a9 :: a10 :: a11 :: a12 :: a13 :: a14 :: a15 :: some (.int x) :: t) (.int x :: st) h) : Ev G M d kc ks Q pc (a0 :: a1 :: a2 :: a3 :: a4 :: a5 :: a6 :: a7 :: a8 :: a9 :: a10 :: a11 :: a12 :: a13 :: a14 :: a15 :: some (.int x) :: t) st h := by
  obtain ⟨hd, rfl⟩ := hd
  intro p l e R s m args below meth c A H locs cells slots lsA Qf hc h1 h2 hw hS hl hr
  exact lv_iload hc.1 hc.2.1 hd (hl.2.2.2 16 _ rfl) (k p l e R s m args below meth c A H locs cells slots lsA Qf hc h1 h2 hw hS hl hr)
theorem ev_lload_16 {a0 a1 a2 a3 a4 a5 a6 a7 a8 a9 a10 a11 a12 a13 a14 a15 : Option Value} {t : List (Option Value)} {x : Int64} (hd : fe M pc (.lload 16) 2 pc') (k : Ev G M d kc ks Q pc' (a0 :: a1 :: a2 :: a3 :: a4 :: a5 :: a6 :: a7 :: a8 :: a9 :: a10 :: a11 :: a12 :: a13 :: a14 :: a15 :: some (.long x) :: t) (.long x :: st) h) : Ev G M d kc ks Q pc (a0 :: a1 :: a2 :: a3 :: a4 :: a5 :: a6 :: a7 :: a8 :: a9 :: a10 :: a11 :: a12 :: a13 :: a14 :: a15 :: some (.long x) :: t) st h := by
  obtain ⟨hd, rfl⟩ := hd
  intro p l e R s m args below meth c A H locs cells slots lsA Qf hc h1 h2 hw hS hl hr
  exact lv_lload hc.1 hc.2.1 hd (hl.2.2.2 16 _ rfl) (k p l e R s m args below meth c A H locs cells slots lsA Qf hc h1 h2 hw hS hl hr)
theorem ev_aload_16 {a0 a1 a2 a3 a4 a5 a6 a7 a8 a9 a10 a11 a12 a13 a14 a15 : Option Value} {t : List (Option Value)} {x : Nat} (hd : fe M pc (.aload 16) 2 pc') (k : Ev G M d kc ks Q pc' (a0 :: a1 :: a2 :: a3 :: a4 :: a5 :: a6 :: a7 :: a8 :: a9 :: a10 :: a11 :: a12 :: a13 :: a14 :: a15 :: some (.ref x) :: t) (.ref x :: st) h) : Ev G M d kc ks Q pc (a0 :: a1 :: a2 :: a3 :: a4 :: a5 :: a6 :: a7 :: a8 :: a9 :: a10 :: a11 :: a12 :: a13 :: a14 :: a15 :: some (.ref x) :: t) st h := by
  obtain ⟨hd, rfl⟩ := hd
  intro p l e R s m args below meth c A H locs cells slots lsA Qf hc h1 h2 hw hS hl hr
  exact lv_aload hc.1 hc.2.1 hd (hl.2.2.2 16 _ rfl) (k p l e R s m args below meth c A H locs cells slots lsA Qf hc h1 h2 hw hS hl hr)
theorem ev_aloadN_16 {a0 a1 a2 a3 a4 a5 a6 a7 a8 a9 a10 a11 a12 a13 a14 a15 : Option Value} {t : List (Option Value)} (hd : fe M pc (.aload 16) 2 pc') (k : Ev G M d kc ks Q pc' (a0 :: a1 :: a2 :: a3 :: a4 :: a5 :: a6 :: a7 :: a8 :: a9 :: a10 :: a11 :: a12 :: a13 :: a14 :: a15 :: some .null :: t) (.null :: st) h) : Ev G M d kc ks Q pc (a0 :: a1 :: a2 :: a3 :: a4 :: a5 :: a6 :: a7 :: a8 :: a9 :: a10 :: a11 :: a12 :: a13 :: a14 :: a15 :: some .null :: t) st h := by
  obtain ⟨hd, rfl⟩ := hd
  intro p l e R s m args below meth c A H locs cells slots lsA Qf hc h1 h2 hw hS hl hr
  exact lv_aloadN hc.1 hc.2.1 hd (hl.2.2.2 16 _ rfl) (k p l e R s m args below meth c A H locs cells slots lsA Qf hc h1 h2 hw hS hl hr)
theorem ev_istore_16 {a0 a1 a2 a3 a4 a5 a6 a7 a8 a9 a10 a11 a12 a13 a14 a15 a16 : Option Value} {t : List (Option Value)} {x : Int32} (hd : fe M pc (.istore 16) 2 pc') (hp : ev_nl a15 = true) (k : Ev G M d kc ks Q pc' (a0 :: a1 :: a2 :: a3 :: a4 :: a5 :: a6 :: a7 :: a8 :: a9 :: a10 :: a11 :: a12 :: a13 :: a14 :: a15 :: some (.int x) :: t) st h) : Ev G M d kc ks Q pc (a0 :: a1 :: a2 :: a3 :: a4 :: a5 :: a6 :: a7 :: a8 :: a9 :: a10 :: a11 :: a12 :: a13 :: a14 :: a15 :: a16 :: t) (.int x :: st) h := by
  obtain ⟨hd, rfl⟩ := hd
  intro p l e R s m args below meth c A H locs cells slots lsA Qf hc h1 h2 hw hS hl hr
  refine lv_istore hc.1 hc.2.1 hd (ev_ls_has hl) (Nat.lt_of_lt_of_le (by simp only [List.length_cons]; omega) hl.2.2.1) rfl (fun lsB hB => ?_)
  exact k p l e R s m args below meth c A H locs cells slots lsB Qf hc h1 h2 hw hS (ev_ls_st1 (L := 0) hl.2.2.1 (ev_hp (i := 15) (a := a15) rfl hp) hB) hr
theorem ev_astore_16 {a0 a1 a2 a3 a4 a5 a6 a7 a8 a9 a10 a11 a12 a13 a14 a15 a16 : Option Value} {t : List (Option Value)} {x : Nat} (hd : fe M pc (.astore 16) 2 pc') (hp : ev_nl a15 = true) (k : Ev G M d kc ks Q pc' (a0 :: a1 :: a2 :: a3 :: a4 :: a5 :: a6 :: a7 :: a8 :: a9 :: a10 :: a11 :: a12 :: a13 :: a14 :: a15 :: some (.ref x) :: t) st h) : Ev G M d kc ks Q pc (a0 :: a1 :: a2 :: a3 :: a4 :: a5 :: a6 :: a7 :: a8 :: a9 :: a10 :: a11 :: a12 :: a13 :: a14 :: a15 :: a16 :: t) (.ref x :: st) h := by
  obtain ⟨hd, rfl⟩ := hd
  intro p l e R s m args below meth c A H locs cells slots lsA Qf hc h1 h2 hw hS hl hr
  refine lv_astore hc.1 hc.2.1 hd (ev_ls_has hl) (Nat.lt_of_lt_of_le (by simp only [List.length_cons]; omega) hl.2.2.1) rfl (fun lsB hB => ?_)
  exact k p l e R s m args below meth c A H locs cells slots lsB Qf hc h1 h2 hw hS (ev_ls_st1 (L := 0) hl.2.2.1 (ev_hp (i := 15) (a := a15) rfl hp) hB) hr
theorem ev_astoreN_16 {a0 a1 a2 a3 a4 a5 a6 a7 a8 a9 a10 a11 a12 a13 a14 a15 a16 : Option Value} {t : List (Option Value)}  (hd : fe M pc (.astore 16) 2 pc') (hp : ev_nl a15 = true) (k : Ev G M d kc ks Q pc' (a0 :: a1 :: a2 :: a3 :: a4 :: a5 :: a6 :: a7 :: a8 :: a9 :: a10 :: a11 :: a12 :: a13 :: a14 :: a15 :: some (.null) :: t) st h) : Ev G M d kc ks Q pc (a0 :: a1 :: a2 :: a3 :: a4 :: a5 :: a6 :: a7 :: a8 :: a9 :: a10 :: a11 :: a12 :: a13 :: a14 :: a15 :: a16 :: t) (.null :: st) h := by
  obtain ⟨hd, rfl⟩ := hd
  intro p l e R s m args below meth c A H locs cells slots lsA Qf hc h1 h2 hw hS hl hr
  refine lv_astoreN hc.1 hc.2.1 hd (ev_ls_has hl) (Nat.lt_of_lt_of_le (by simp only [List.length_cons]; omega) hl.2.2.1) rfl (fun lsB hB => ?_)
  exact k p l e R s m args below meth c A H locs cells slots lsB Qf hc h1 h2 hw hS (ev_ls_st1 (L := 0) hl.2.2.1 (ev_hp (i := 15) (a := a15) rfl hp) hB) hr
theorem ev_lstore_16 {a0 a1 a2 a3 a4 a5 a6 a7 a8 a9 a10 a11 a12 a13 a14 a15 a16 a17 : Option Value} {t : List (Option Value)} {x : Int64} (hd : fe M pc (.lstore 16) 2 pc') (hp : ev_nl a15 = true) (k : Ev G M d kc ks Q pc' (a0 :: a1 :: a2 :: a3 :: a4 :: a5 :: a6 :: a7 :: a8 :: a9 :: a10 :: a11 :: a12 :: a13 :: a14 :: a15 :: some (.long x) :: none :: t) st h) : Ev G M d kc ks Q pc (a0 :: a1 :: a2 :: a3 :: a4 :: a5 :: a6 :: a7 :: a8 :: a9 :: a10 :: a11 :: a12 :: a13 :: a14 :: a15 :: a16 :: a17 :: t) (.long x :: st) h := by
  obtain ⟨hd, rfl⟩ := hd
  intro p l e R s m args below meth c A H locs cells slots lsA Qf hc h1 h2 hw hS hl hr
  refine lv_lstore hc.1 hc.2.1 hd (ev_ls_has hl) (Nat.lt_of_lt_of_le (by simp only [List.length_cons]; omega) hl.2.2.1) rfl (fun lsB hB => ?_)
  exact k p l e R s m args below meth c A H locs cells slots lsB Qf hc h1 h2 hw hS (ev_ls_st2 hl.2.2.1 (ev_hp (i := 15) (a := a15) rfl hp) hB) hr
theorem ev_iinc_16 {a0 a1 a2 a3 a4 a5 a6 a7 a8 a9 a10 a11 a12 a13 a14 a15 : Option Value} {t : List (Option Value)} {x v : Int32} {n : Int} (hd : fe M pc (.iinc 16 n) 3 pc') (hv : x + Int32.ofInt n = v) (hp : ev_nl a15 = true) (k : Ev G M d kc ks Q pc' (a0 :: a1 :: a2 :: a3 :: a4 :: a5 :: a6 :: a7 :: a8 :: a9 :: a10 :: a11 :: a12 :: a13 :: a14 :: a15 :: some (.int v) :: t) st h) : Ev G M d kc ks Q pc (a0 :: a1 :: a2 :: a3 :: a4 :: a5 :: a6 :: a7 :: a8 :: a9 :: a10 :: a11 :: a12 :: a13 :: a14 :: a15 :: some (.int x) :: t) st h := by
  obtain ⟨hd, rfl⟩ := hd
  intro p l e R s m args below meth c A H locs cells slots lsA Qf hc h1 h2 hw hS hl hr
  obtain ⟨kk, hkk⟩ := List.getElem?_of_mem (ev_pr_mem.mpr (show (a0 :: a1 :: a2 :: a3 :: a4 :: a5 :: a6 :: a7 :: a8 :: a9 :: a10 :: a11 :: a12 :: a13 :: a14 :: a15 :: some (.int x) :: t)[16]? = some (some (.int x)) from rfl))
  refine lv_iinc hc.1 hc.2.1 hd (ev_ls_has hl) hkk hv (Nat.lt_of_lt_of_le (by simp only [List.length_cons]; omega) hl.2.2.1) rfl (fun lsB hB => ?_)
  exact k p l e R s m args below meth c A H locs cells slots lsB Qf hc h1 h2 hw hS (ev_ls_st1 (L := 0) hl.2.2.1 (ev_hp (i := 15) (a := a15) rfl hp) hB) hr
theorem ev_iload_17 {a0 a1 a2 a3 a4 a5 a6 a7 a8 a9 a10 a11 a12 a13 a14 a15 a16 : Option Value} {t : List (Option Value)} {x : Int32} (hd : fe M pc (.iload 17) 2 pc') (k : Ev G M d kc ks Q pc' (a0 :: a1 :: a2 :: a3 :: a4 :: a5 :: a6 :: a7 :: a8 :: a9 :: a10 :: a11 :: a12 :: a13 :: a14 :: a15 :: a16 :: some (.int x) :: t) (.int x :: st) h) : Ev G M d kc ks Q pc (a0 :: a1 :: a2 :: a3 :: a4 :: a5 :: a6 :: a7 :: a8 :: a9 :: a10 :: a11 :: a12 :: a13 :: a14 :: a15 :: a16 :: some (.int x) :: t) st h := by
  obtain ⟨hd, rfl⟩ := hd
  intro p l e R s m args below meth c A H locs cells slots lsA Qf hc h1 h2 hw hS hl hr
  exact lv_iload hc.1 hc.2.1 hd (hl.2.2.2 17 _ rfl) (k p l e R s m args below meth c A H locs cells slots lsA Qf hc h1 h2 hw hS hl hr)
theorem ev_lload_17 {a0 a1 a2 a3 a4 a5 a6 a7 a8 a9 a10 a11 a12 a13 a14 a15 a16 : Option Value} {t : List (Option Value)} {x : Int64} (hd : fe M pc (.lload 17) 2 pc') (k : Ev G M d kc ks Q pc' (a0 :: a1 :: a2 :: a3 :: a4 :: a5 :: a6 :: a7 :: a8 :: a9 :: a10 :: a11 :: a12 :: a13 :: a14 :: a15 :: a16 :: some (.long x) :: t) (.long x :: st) h) : Ev G M d kc ks Q pc (a0 :: a1 :: a2 :: a3 :: a4 :: a5 :: a6 :: a7 :: a8 :: a9 :: a10 :: a11 :: a12 :: a13 :: a14 :: a15 :: a16 :: some (.long x) :: t) st h := by
  obtain ⟨hd, rfl⟩ := hd
  intro p l e R s m args below meth c A H locs cells slots lsA Qf hc h1 h2 hw hS hl hr
  exact lv_lload hc.1 hc.2.1 hd (hl.2.2.2 17 _ rfl) (k p l e R s m args below meth c A H locs cells slots lsA Qf hc h1 h2 hw hS hl hr)
theorem ev_aload_17 {a0 a1 a2 a3 a4 a5 a6 a7 a8 a9 a10 a11 a12 a13 a14 a15 a16 : Option Value} {t : List (Option Value)} {x : Nat} (hd : fe M pc (.aload 17) 2 pc') (k : Ev G M d kc ks Q pc' (a0 :: a1 :: a2 :: a3 :: a4 :: a5 :: a6 :: a7 :: a8 :: a9 :: a10 :: a11 :: a12 :: a13 :: a14 :: a15 :: a16 :: some (.ref x) :: t) (.ref x :: st) h) : Ev G M d kc ks Q pc (a0 :: a1 :: a2 :: a3 :: a4 :: a5 :: a6 :: a7 :: a8 :: a9 :: a10 :: a11 :: a12 :: a13 :: a14 :: a15 :: a16 :: some (.ref x) :: t) st h := by
  obtain ⟨hd, rfl⟩ := hd
  intro p l e R s m args below meth c A H locs cells slots lsA Qf hc h1 h2 hw hS hl hr
  exact lv_aload hc.1 hc.2.1 hd (hl.2.2.2 17 _ rfl) (k p l e R s m args below meth c A H locs cells slots lsA Qf hc h1 h2 hw hS hl hr)
theorem ev_aloadN_17 {a0 a1 a2 a3 a4 a5 a6 a7 a8 a9 a10 a11 a12 a13 a14 a15 a16 : Option Value} {t : List (Option Value)} (hd : fe M pc (.aload 17) 2 pc') (k : Ev G M d kc ks Q pc' (a0 :: a1 :: a2 :: a3 :: a4 :: a5 :: a6 :: a7 :: a8 :: a9 :: a10 :: a11 :: a12 :: a13 :: a14 :: a15 :: a16 :: some .null :: t) (.null :: st) h) : Ev G M d kc ks Q pc (a0 :: a1 :: a2 :: a3 :: a4 :: a5 :: a6 :: a7 :: a8 :: a9 :: a10 :: a11 :: a12 :: a13 :: a14 :: a15 :: a16 :: some .null :: t) st h := by
  obtain ⟨hd, rfl⟩ := hd
  intro p l e R s m args below meth c A H locs cells slots lsA Qf hc h1 h2 hw hS hl hr
  exact lv_aloadN hc.1 hc.2.1 hd (hl.2.2.2 17 _ rfl) (k p l e R s m args below meth c A H locs cells slots lsA Qf hc h1 h2 hw hS hl hr)
theorem ev_istore_17 {a0 a1 a2 a3 a4 a5 a6 a7 a8 a9 a10 a11 a12 a13 a14 a15 a16 a17 : Option Value} {t : List (Option Value)} {x : Int32} (hd : fe M pc (.istore 17) 2 pc') (hp : ev_nl a16 = true) (k : Ev G M d kc ks Q pc' (a0 :: a1 :: a2 :: a3 :: a4 :: a5 :: a6 :: a7 :: a8 :: a9 :: a10 :: a11 :: a12 :: a13 :: a14 :: a15 :: a16 :: some (.int x) :: t) st h) : Ev G M d kc ks Q pc (a0 :: a1 :: a2 :: a3 :: a4 :: a5 :: a6 :: a7 :: a8 :: a9 :: a10 :: a11 :: a12 :: a13 :: a14 :: a15 :: a16 :: a17 :: t) (.int x :: st) h := by
  obtain ⟨hd, rfl⟩ := hd
  intro p l e R s m args below meth c A H locs cells slots lsA Qf hc h1 h2 hw hS hl hr
  refine lv_istore hc.1 hc.2.1 hd (ev_ls_has hl) (Nat.lt_of_lt_of_le (by simp only [List.length_cons]; omega) hl.2.2.1) rfl (fun lsB hB => ?_)
  exact k p l e R s m args below meth c A H locs cells slots lsB Qf hc h1 h2 hw hS (ev_ls_st1 (L := 0) hl.2.2.1 (ev_hp (i := 16) (a := a16) rfl hp) hB) hr
theorem ev_astore_17 {a0 a1 a2 a3 a4 a5 a6 a7 a8 a9 a10 a11 a12 a13 a14 a15 a16 a17 : Option Value} {t : List (Option Value)} {x : Nat} (hd : fe M pc (.astore 17) 2 pc') (hp : ev_nl a16 = true) (k : Ev G M d kc ks Q pc' (a0 :: a1 :: a2 :: a3 :: a4 :: a5 :: a6 :: a7 :: a8 :: a9 :: a10 :: a11 :: a12 :: a13 :: a14 :: a15 :: a16 :: some (.ref x) :: t) st h) : Ev G M d kc ks Q pc (a0 :: a1 :: a2 :: a3 :: a4 :: a5 :: a6 :: a7 :: a8 :: a9 :: a10 :: a11 :: a12 :: a13 :: a14 :: a15 :: a16 :: a17 :: t) (.ref x :: st) h := by
  obtain ⟨hd, rfl⟩ := hd
  intro p l e R s m args below meth c A H locs cells slots lsA Qf hc h1 h2 hw hS hl hr
  refine lv_astore hc.1 hc.2.1 hd (ev_ls_has hl) (Nat.lt_of_lt_of_le (by simp only [List.length_cons]; omega) hl.2.2.1) rfl (fun lsB hB => ?_)
  exact k p l e R s m args below meth c A H locs cells slots lsB Qf hc h1 h2 hw hS (ev_ls_st1 (L := 0) hl.2.2.1 (ev_hp (i := 16) (a := a16) rfl hp) hB) hr
theorem ev_astoreN_17 {a0 a1 a2 a3 a4 a5 a6 a7 a8 a9 a10 a11 a12 a13 a14 a15 a16 a17 : Option Value} {t : List (Option Value)}  (hd : fe M pc (.astore 17) 2 pc') (hp : ev_nl a16 = true) (k : Ev G M d kc ks Q pc' (a0 :: a1 :: a2 :: a3 :: a4 :: a5 :: a6 :: a7 :: a8 :: a9 :: a10 :: a11 :: a12 :: a13 :: a14 :: a15 :: a16 :: some (.null) :: t) st h) : Ev G M d kc ks Q pc (a0 :: a1 :: a2 :: a3 :: a4 :: a5 :: a6 :: a7 :: a8 :: a9 :: a10 :: a11 :: a12 :: a13 :: a14 :: a15 :: a16 :: a17 :: t) (.null :: st) h := by
  obtain ⟨hd, rfl⟩ := hd
  intro p l e R s m args below meth c A H locs cells slots lsA Qf hc h1 h2 hw hS hl hr
  refine lv_astoreN hc.1 hc.2.1 hd (ev_ls_has hl) (Nat.lt_of_lt_of_le (by simp only [List.length_cons]; omega) hl.2.2.1) rfl (fun lsB hB => ?_)
  exact k p l e R s m args below meth c A H locs cells slots lsB Qf hc h1 h2 hw hS (ev_ls_st1 (L := 0) hl.2.2.1 (ev_hp (i := 16) (a := a16) rfl hp) hB) hr
theorem ev_lstore_17 {a0 a1 a2 a3 a4 a5 a6 a7 a8 a9 a10 a11 a12 a13 a14 a15 a16 a17 a18 : Option Value} {t : List (Option Value)} {x : Int64} (hd : fe M pc (.lstore 17) 2 pc') (hp : ev_nl a16 = true) (k : Ev G M d kc ks Q pc' (a0 :: a1 :: a2 :: a3 :: a4 :: a5 :: a6 :: a7 :: a8 :: a9 :: a10 :: a11 :: a12 :: a13 :: a14 :: a15 :: a16 :: some (.long x) :: none :: t) st h) : Ev G M d kc ks Q pc (a0 :: a1 :: a2 :: a3 :: a4 :: a5 :: a6 :: a7 :: a8 :: a9 :: a10 :: a11 :: a12 :: a13 :: a14 :: a15 :: a16 :: a17 :: a18 :: t) (.long x :: st) h := by
  obtain ⟨hd, rfl⟩ := hd
  intro p l e R s m args below meth c A H locs cells slots lsA Qf hc h1 h2 hw hS hl hr
  refine lv_lstore hc.1 hc.2.1 hd (ev_ls_has hl) (Nat.lt_of_lt_of_le (by simp only [List.length_cons]; omega) hl.2.2.1) rfl (fun lsB hB => ?_)
  exact k p l e R s m args below meth c A H locs cells slots lsB Qf hc h1 h2 hw hS (ev_ls_st2 hl.2.2.1 (ev_hp (i := 16) (a := a16) rfl hp) hB) hr
theorem ev_iinc_17 {a0 a1 a2 a3 a4 a5 a6 a7 a8 a9 a10 a11 a12 a13 a14 a15 a16 : Option Value} {t : List (Option Value)} {x v : Int32} {n : Int} (hd : fe M pc (.iinc 17 n) 3 pc') (hv : x + Int32.ofInt n = v) (hp : ev_nl a16 = true) (k : Ev G M d kc ks Q pc' (a0 :: a1 :: a2 :: a3 :: a4 :: a5 :: a6 :: a7 :: a8 :: a9 :: a10 :: a11 :: a12 :: a13 :: a14 :: a15 :: a16 :: some (.int v) :: t) st h) : Ev G M d kc ks Q pc (a0 :: a1 :: a2 :: a3 :: a4 :: a5 :: a6 :: a7 :: a8 :: a9 :: a10 :: a11 :: a12 :: a13 :: a14 :: a15 :: a16 :: some (.int x) :: t) st h := by
  obtain ⟨hd, rfl⟩ := hd
  intro p l e R s m args below meth c A H locs cells slots lsA Qf hc h1 h2 hw hS hl hr
  obtain ⟨kk, hkk⟩ := List.getElem?_of_mem (ev_pr_mem.mpr (show (a0 :: a1 :: a2 :: a3 :: a4 :: a5 :: a6 :: a7 :: a8 :: a9 :: a10 :: a11 :: a12 :: a13 :: a14 :: a15 :: a16 :: some (.int x) :: t)[17]? = some (some (.int x)) from rfl))
  refine lv_iinc hc.1 hc.2.1 hd (ev_ls_has hl) hkk hv (Nat.lt_of_lt_of_le (by simp only [List.length_cons]; omega) hl.2.2.1) rfl (fun lsB hB => ?_)
  exact k p l e R s m args below meth c A H locs cells slots lsB Qf hc h1 h2 hw hS (ev_ls_st1 (L := 0) hl.2.2.1 (ev_hp (i := 16) (a := a16) rfl hp) hB) hr
theorem ev_iload_18 {a0 a1 a2 a3 a4 a5 a6 a7 a8 a9 a10 a11 a12 a13 a14 a15 a16 a17 : Option Value} {t : List (Option Value)} {x : Int32} (hd : fe M pc (.iload 18) 2 pc') (k : Ev G M d kc ks Q pc' (a0 :: a1 :: a2 :: a3 :: a4 :: a5 :: a6 :: a7 :: a8 :: a9 :: a10 :: a11 :: a12 :: a13 :: a14 :: a15 :: a16 :: a17 :: some (.int x) :: t) (.int x :: st) h) : Ev G M d kc ks Q pc (a0 :: a1 :: a2 :: a3 :: a4 :: a5 :: a6 :: a7 :: a8 :: a9 :: a10 :: a11 :: a12 :: a13 :: a14 :: a15 :: a16 :: a17 :: some (.int x) :: t) st h := by
  obtain ⟨hd, rfl⟩ := hd
  intro p l e R s m args below meth c A H locs cells slots lsA Qf hc h1 h2 hw hS hl hr
  exact lv_iload hc.1 hc.2.1 hd (hl.2.2.2 18 _ rfl) (k p l e R s m args below meth c A H locs cells slots lsA Qf hc h1 h2 hw hS hl hr)
theorem ev_lload_18 {a0 a1 a2 a3 a4 a5 a6 a7 a8 a9 a10 a11 a12 a13 a14 a15 a16 a17 : Option Value} {t : List (Option Value)} {x : Int64} (hd : fe M pc (.lload 18) 2 pc') (k : Ev G M d kc ks Q pc' (a0 :: a1 :: a2 :: a3 :: a4 :: a5 :: a6 :: a7 :: a8 :: a9 :: a10 :: a11 :: a12 :: a13 :: a14 :: a15 :: a16 :: a17 :: some (.long x) :: t) (.long x :: st) h) : Ev G M d kc ks Q pc (a0 :: a1 :: a2 :: a3 :: a4 :: a5 :: a6 :: a7 :: a8 :: a9 :: a10 :: a11 :: a12 :: a13 :: a14 :: a15 :: a16 :: a17 :: some (.long x) :: t) st h := by
  obtain ⟨hd, rfl⟩ := hd
  intro p l e R s m args below meth c A H locs cells slots lsA Qf hc h1 h2 hw hS hl hr
  exact lv_lload hc.1 hc.2.1 hd (hl.2.2.2 18 _ rfl) (k p l e R s m args below meth c A H locs cells slots lsA Qf hc h1 h2 hw hS hl hr)
theorem ev_aload_18 {a0 a1 a2 a3 a4 a5 a6 a7 a8 a9 a10 a11 a12 a13 a14 a15 a16 a17 : Option Value} {t : List (Option Value)} {x : Nat} (hd : fe M pc (.aload 18) 2 pc') (k : Ev G M d kc ks Q pc' (a0 :: a1 :: a2 :: a3 :: a4 :: a5 :: a6 :: a7 :: a8 :: a9 :: a10 :: a11 :: a12 :: a13 :: a14 :: a15 :: a16 :: a17 :: some (.ref x) :: t) (.ref x :: st) h) : Ev G M d kc ks Q pc (a0 :: a1 :: a2 :: a3 :: a4 :: a5 :: a6 :: a7 :: a8 :: a9 :: a10 :: a11 :: a12 :: a13 :: a14 :: a15 :: a16 :: a17 :: some (.ref x) :: t) st h := by
  obtain ⟨hd, rfl⟩ := hd
  intro p l e R s m args below meth c A H locs cells slots lsA Qf hc h1 h2 hw hS hl hr
  exact lv_aload hc.1 hc.2.1 hd (hl.2.2.2 18 _ rfl) (k p l e R s m args below meth c A H locs cells slots lsA Qf hc h1 h2 hw hS hl hr)
theorem ev_aloadN_18 {a0 a1 a2 a3 a4 a5 a6 a7 a8 a9 a10 a11 a12 a13 a14 a15 a16 a17 : Option Value} {t : List (Option Value)} (hd : fe M pc (.aload 18) 2 pc') (k : Ev G M d kc ks Q pc' (a0 :: a1 :: a2 :: a3 :: a4 :: a5 :: a6 :: a7 :: a8 :: a9 :: a10 :: a11 :: a12 :: a13 :: a14 :: a15 :: a16 :: a17 :: some .null :: t) (.null :: st) h) : Ev G M d kc ks Q pc (a0 :: a1 :: a2 :: a3 :: a4 :: a5 :: a6 :: a7 :: a8 :: a9 :: a10 :: a11 :: a12 :: a13 :: a14 :: a15 :: a16 :: a17 :: some .null :: t) st h := by
  obtain ⟨hd, rfl⟩ := hd
  intro p l e R s m args below meth c A H locs cells slots lsA Qf hc h1 h2 hw hS hl hr
  exact lv_aloadN hc.1 hc.2.1 hd (hl.2.2.2 18 _ rfl) (k p l e R s m args below meth c A H locs cells slots lsA Qf hc h1 h2 hw hS hl hr)
theorem ev_istore_18 {a0 a1 a2 a3 a4 a5 a6 a7 a8 a9 a10 a11 a12 a13 a14 a15 a16 a17 a18 : Option Value} {t : List (Option Value)} {x : Int32} (hd : fe M pc (.istore 18) 2 pc') (hp : ev_nl a17 = true) (k : Ev G M d kc ks Q pc' (a0 :: a1 :: a2 :: a3 :: a4 :: a5 :: a6 :: a7 :: a8 :: a9 :: a10 :: a11 :: a12 :: a13 :: a14 :: a15 :: a16 :: a17 :: some (.int x) :: t) st h) : Ev G M d kc ks Q pc (a0 :: a1 :: a2 :: a3 :: a4 :: a5 :: a6 :: a7 :: a8 :: a9 :: a10 :: a11 :: a12 :: a13 :: a14 :: a15 :: a16 :: a17 :: a18 :: t) (.int x :: st) h := by
  obtain ⟨hd, rfl⟩ := hd
  intro p l e R s m args below meth c A H locs cells slots lsA Qf hc h1 h2 hw hS hl hr
  refine lv_istore hc.1 hc.2.1 hd (ev_ls_has hl) (Nat.lt_of_lt_of_le (by simp only [List.length_cons]; omega) hl.2.2.1) rfl (fun lsB hB => ?_)
  exact k p l e R s m args below meth c A H locs cells slots lsB Qf hc h1 h2 hw hS (ev_ls_st1 (L := 0) hl.2.2.1 (ev_hp (i := 17) (a := a17) rfl hp) hB) hr
theorem ev_astore_18 {a0 a1 a2 a3 a4 a5 a6 a7 a8 a9 a10 a11 a12 a13 a14 a15 a16 a17 a18 : Option Value} {t : List (Option Value)} {x : Nat} (hd : fe M pc (.astore 18) 2 pc') (hp : ev_nl a17 = true) (k : Ev G M d kc ks Q pc' (a0 :: a1 :: a2 :: a3 :: a4 :: a5 :: a6 :: a7 :: a8 :: a9 :: a10 :: a11 :: a12 :: a13 :: a14 :: a15 :: a16 :: a17 :: some (.ref x) :: t) st h) : Ev G M d kc ks Q pc (a0 :: a1 :: a2 :: a3 :: a4 :: a5 :: a6 :: a7 :: a8 :: a9 :: a10 :: a11 :: a12 :: a13 :: a14 :: a15 :: a16 :: a17 :: a18 :: t) (.ref x :: st) h := by
  obtain ⟨hd, rfl⟩ := hd
  intro p l e R s m args below meth c A H locs cells slots lsA Qf hc h1 h2 hw hS hl hr
  refine lv_astore hc.1 hc.2.1 hd (ev_ls_has hl) (Nat.lt_of_lt_of_le (by simp only [List.length_cons]; omega) hl.2.2.1) rfl (fun lsB hB => ?_)
  exact k p l e R s m args below meth c A H locs cells slots lsB Qf hc h1 h2 hw hS (ev_ls_st1 (L := 0) hl.2.2.1 (ev_hp (i := 17) (a := a17) rfl hp) hB) hr
theorem ev_astoreN_18 {a0 a1 a2 a3 a4 a5 a6 a7 a8 a9 a10 a11 a12 a13 a14 a15 a16 a17 a18 : Option Value} {t : List (Option Value)}  (hd : fe M pc (.astore 18) 2 pc') (hp : ev_nl a17 = true) (k : Ev G M d kc ks Q pc' (a0 :: a1 :: a2 :: a3 :: a4 :: a5 :: a6 :: a7 :: a8 :: a9 :: a10 :: a11 :: a12 :: a13 :: a14 :: a15 :: a16 :: a17 :: some (.null) :: t) st h) : Ev G M d kc ks Q pc (a0 :: a1 :: a2 :: a3 :: a4 :: a5 :: a6 :: a7 :: a8 :: a9 :: a10 :: a11 :: a12 :: a13 :: a14 :: a15 :: a16 :: a17 :: a18 :: t) (.null :: st) h := by
  obtain ⟨hd, rfl⟩ := hd
  intro p l e R s m args below meth c A H locs cells slots lsA Qf hc h1 h2 hw hS hl hr
  refine lv_astoreN hc.1 hc.2.1 hd (ev_ls_has hl) (Nat.lt_of_lt_of_le (by simp only [List.length_cons]; omega) hl.2.2.1) rfl (fun lsB hB => ?_)
  exact k p l e R s m args below meth c A H locs cells slots lsB Qf hc h1 h2 hw hS (ev_ls_st1 (L := 0) hl.2.2.1 (ev_hp (i := 17) (a := a17) rfl hp) hB) hr
theorem ev_lstore_18 {a0 a1 a2 a3 a4 a5 a6 a7 a8 a9 a10 a11 a12 a13 a14 a15 a16 a17 a18 a19 : Option Value} {t : List (Option Value)} {x : Int64} (hd : fe M pc (.lstore 18) 2 pc') (hp : ev_nl a17 = true) (k : Ev G M d kc ks Q pc' (a0 :: a1 :: a2 :: a3 :: a4 :: a5 :: a6 :: a7 :: a8 :: a9 :: a10 :: a11 :: a12 :: a13 :: a14 :: a15 :: a16 :: a17 :: some (.long x) :: none :: t) st h) : Ev G M d kc ks Q pc (a0 :: a1 :: a2 :: a3 :: a4 :: a5 :: a6 :: a7 :: a8 :: a9 :: a10 :: a11 :: a12 :: a13 :: a14 :: a15 :: a16 :: a17 :: a18 :: a19 :: t) (.long x :: st) h := by
  obtain ⟨hd, rfl⟩ := hd
  intro p l e R s m args below meth c A H locs cells slots lsA Qf hc h1 h2 hw hS hl hr
  refine lv_lstore hc.1 hc.2.1 hd (ev_ls_has hl) (Nat.lt_of_lt_of_le (by simp only [List.length_cons]; omega) hl.2.2.1) rfl (fun lsB hB => ?_)
  exact k p l e R s m args below meth c A H locs cells slots lsB Qf hc h1 h2 hw hS (ev_ls_st2 hl.2.2.1 (ev_hp (i := 17) (a := a17) rfl hp) hB) hr
theorem ev_iinc_18 {a0 a1 a2 a3 a4 a5 a6 a7 a8 a9 a10 a11 a12 a13 a14 a15 a16 a17 : Option Value} {t : List (Option Value)} {x v : Int32} {n : Int} (hd : fe M pc (.iinc 18 n) 3 pc') (hv : x + Int32.ofInt n = v) (hp : ev_nl a17 = true) (k : Ev G M d kc ks Q pc' (a0 :: a1 :: a2 :: a3 :: a4 :: a5 :: a6 :: a7 :: a8 :: a9 :: a10 :: a11 :: a12 :: a13 :: a14 :: a15 :: a16 :: a17 :: some (.int v) :: t) st h) : Ev G M d kc ks Q pc (a0 :: a1 :: a2 :: a3 :: a4 :: a5 :: a6 :: a7 :: a8 :: a9 :: a10 :: a11 :: a12 :: a13 :: a14 :: a15 :: a16 :: a17 :: some (.int x) :: t) st h := by
  obtain ⟨hd, rfl⟩ := hd
  intro p l e R s m args below meth c A H locs cells slots lsA Qf hc h1 h2 hw hS hl hr
  obtain ⟨kk, hkk⟩ := List.getElem?_of_mem (ev_pr_mem.mpr (show (a0 :: a1 :: a2 :: a3 :: a4 :: a5 :: a6 :: a7 :: a8 :: a9 :: a10 :: a11 :: a12 :: a13 :: a14 :: a15 :: a16 :: a17 :: some (.int x) :: t)[18]? = some (some (.int x)) from rfl))
  refine lv_iinc hc.1 hc.2.1 hd (ev_ls_has hl) hkk hv (Nat.lt_of_lt_of_le (by simp only [List.length_cons]; omega) hl.2.2.1) rfl (fun lsB hB => ?_)
  exact k p l e R s m args below meth c A H locs cells slots lsB Qf hc h1 h2 hw hS (ev_ls_st1 (L := 0) hl.2.2.1 (ev_hp (i := 17) (a := a17) rfl hp) hB) hr
theorem ev_iload_19 {a0 a1 a2 a3 a4 a5 a6 a7 a8 a9 a10 a11 a12 a13 a14 a15 a16 a17 a18 : Option Value} {t : List (Option Value)} {x : Int32} (hd : fe M pc (.iload 19) 2 pc') (k : Ev G M d kc ks Q pc' (a0 :: a1 :: a2 :: a3 :: a4 :: a5 :: a6 :: a7 :: a8 :: a9 :: a10 :: a11 :: a12 :: a13 :: a14 :: a15 :: a16 :: a17 :: a18 :: some (.int x) :: t) (.int x :: st) h) : Ev G M d kc ks Q pc (a0 :: a1 :: a2 :: a3 :: a4 :: a5 :: a6 :: a7 :: a8 :: a9 :: a10 :: a11 :: a12 :: a13 :: a14 :: a15 :: a16 :: a17 :: a18 :: some (.int x) :: t) st h := by
  obtain ⟨hd, rfl⟩ := hd
  intro p l e R s m args below meth c A H locs cells slots lsA Qf hc h1 h2 hw hS hl hr
  exact lv_iload hc.1 hc.2.1 hd (hl.2.2.2 19 _ rfl) (k p l e R s m args below meth c A H locs cells slots lsA Qf hc h1 h2 hw hS hl hr)
theorem ev_lload_19 {a0 a1 a2 a3 a4 a5 a6 a7 a8 a9 a10 a11 a12 a13 a14 a15 a16 a17 a18 : Option Value} {t : List (Option Value)} {x : Int64} (hd : fe M pc (.lload 19) 2 pc') (k : Ev G M d kc ks Q pc' (a0 :: a1 :: a2 :: a3 :: a4 :: a5 :: a6 :: a7 :: a8 :: a9 :: a10 :: a11 :: a12 :: a13 :: a14 :: a15 :: a16 :: a17 :: a18 :: some (.long x) :: t) (.long x :: st) h) : Ev G M d kc ks Q pc (a0 :: a1 :: a2 :: a3 :: a4 :: a5 :: a6 :: a7 :: a8 :: a9 :: a10 :: a11 :: a12 :: a13 :: a14 :: a15 :: a16 :: a17 :: a18 :: some (.long x) :: t) st h := by
  obtain ⟨hd, rfl⟩ := hd
  intro p l e R s m args below meth c A H locs cells slots lsA Qf hc h1 h2 hw hS hl hr
  exact lv_lload hc.1 hc.2.1 hd (hl.2.2.2 19 _ rfl) (k p l e R s m args below meth c A H locs cells slots lsA Qf hc h1 h2 hw hS hl hr)
theorem ev_aload_19 {a0 a1 a2 a3 a4 a5 a6 a7 a8 a9 a10 a11 a12 a13 a14 a15 a16 a17 a18 : Option Value} {t : List (Option Value)} {x : Nat} (hd : fe M pc (.aload 19) 2 pc') (k : Ev G M d kc ks Q pc' (a0 :: a1 :: a2 :: a3 :: a4 :: a5 :: a6 :: a7 :: a8 :: a9 :: a10 :: a11 :: a12 :: a13 :: a14 :: a15 :: a16 :: a17 :: a18 :: some (.ref x) :: t) (.ref x :: st) h) : Ev G M d kc ks Q pc (a0 :: a1 :: a2 :: a3 :: a4 :: a5 :: a6 :: a7 :: a8 :: a9 :: a10 :: a11 :: a12 :: a13 :: a14 :: a15 :: a16 :: a17 :: a18 :: some (.ref x) :: t) st h := by
  obtain ⟨hd, rfl⟩ := hd
  intro p l e R s m args below meth c A H locs cells slots lsA Qf hc h1 h2 hw hS hl hr
  exact lv_aload hc.1 hc.2.1 hd (hl.2.2.2 19 _ rfl) (k p l e R s m args below meth c A H locs cells slots lsA Qf hc h1 h2 hw hS hl hr)
theorem ev_aloadN_19 {a0 a1 a2 a3 a4 a5 a6 a7 a8 a9 a10 a11 a12 a13 a14 a15 a16 a17 a18 : Option Value} {t : List (Option Value)} (hd : fe M pc (.aload 19) 2 pc') (k : Ev G M d kc ks Q pc' (a0 :: a1 :: a2 :: a3 :: a4 :: a5 :: a6 :: a7 :: a8 :: a9 :: a10 :: a11 :: a12 :: a13 :: a14 :: a15 :: a16 :: a17 :: a18 :: some .null :: t) (.null :: st) h) : Ev G M d kc ks Q pc (a0 :: a1 :: a2 :: a3 :: a4 :: a5 :: a6 :: a7 :: a8 :: a9 :: a10 :: a11 :: a12 :: a13 :: a14 :: a15 :: a16 :: a17 :: a18 :: some .null :: t) st h := by
  obtain ⟨hd, rfl⟩ := hd
  intro p l e R s m args below meth c A H locs cells slots lsA Qf hc h1 h2 hw hS hl hr
  exact lv_aloadN hc.1 hc.2.1 hd (hl.2.2.2 19 _ rfl) (k p l e R s m args below meth c A H locs cells slots lsA Qf hc h1 h2 hw hS hl hr)
theorem ev_istore_19 {a0 a1 a2 a3 a4 a5 a6 a7 a8 a9 a10 a11 a12 a13 a14 a15 a16 a17 a18 a19 : Option Value} {t : List (Option Value)} {x : Int32} (hd : fe M pc (.istore 19) 2 pc') (hp : ev_nl a18 = true) (k : Ev G M d kc ks Q pc' (a0 :: a1 :: a2 :: a3 :: a4 :: a5 :: a6 :: a7 :: a8 :: a9 :: a10 :: a11 :: a12 :: a13 :: a14 :: a15 :: a16 :: a17 :: a18 :: some (.int x) :: t) st h) : Ev G M d kc ks Q pc (a0 :: a1 :: a2 :: a3 :: a4 :: a5 :: a6 :: a7 :: a8 :: a9 :: a10 :: a11 :: a12 :: a13 :: a14 :: a15 :: a16 :: a17 :: a18 :: a19 :: t) (.int x :: st) h := by
  obtain ⟨hd, rfl⟩ := hd
  intro p l e R s m args below meth c A H locs cells slots lsA Qf hc h1 h2 hw hS hl hr
  refine lv_istore hc.1 hc.2.1 hd (ev_ls_has hl) (Nat.lt_of_lt_of_le (by simp only [List.length_cons]; omega) hl.2.2.1) rfl (fun lsB hB => ?_)
  exact k p l e R s m args below meth c A H locs cells slots lsB Qf hc h1 h2 hw hS (ev_ls_st1 (L := 0) hl.2.2.1 (ev_hp (i := 18) (a := a18) rfl hp) hB) hr
theorem ev_astore_19 {a0 a1 a2 a3 a4 a5 a6 a7 a8 a9 a10 a11 a12 a13 a14 a15 a16 a17 a18 a19 : Option Value} {t : List (Option Value)} {x : Nat} (hd : fe M pc (.astore 19) 2 pc') (hp : ev_nl a18 = true) (k : Ev G M d kc ks Q pc' (a0 :: a1 :: a2 :: a3 :: a4 :: a5 :: a6 :: a7 :: a8 :: a9 :: a10 :: a11 :: a12 :: a13 :: a14 :: a15 :: a16 :: a17 :: a18 :: some (.ref x) :: t) st h) : Ev G M d kc ks Q pc (a0 :: a1 :: a2 :: a3 :: a4 :: a5 :: a6 :: a7 :: a8 :: a9 :: a10 :: a11 :: a12 :: a13 :: a14 :: a15 :: a16 :: a17 :: a18 :: a19 :: t) (.ref x :: st) h := by
  obtain ⟨hd, rfl⟩ := hd
  intro p l e R s m args below meth c A H locs cells slots lsA Qf hc h1 h2 hw hS hl hr
  refine lv_astore hc.1 hc.2.1 hd (ev_ls_has hl) (Nat.lt_of_lt_of_le (by simp only [List.length_cons]; omega) hl.2.2.1) rfl (fun lsB hB => ?_)
  exact k p l e R s m args below meth c A H locs cells slots lsB Qf hc h1 h2 hw hS (ev_ls_st1 (L := 0) hl.2.2.1 (ev_hp (i := 18) (a := a18) rfl hp) hB) hr
theorem ev_astoreN_19 {a0 a1 a2 a3 a4 a5 a6 a7 a8 a9 a10 a11 a12 a13 a14 a15 a16 a17 a18 a19 : Option Value} {t : List (Option Value)}  (hd : fe M pc (.astore 19) 2 pc') (hp : ev_nl a18 = true) (k : Ev G M d kc ks Q pc' (a0 :: a1 :: a2 :: a3 :: a4 :: a5 :: a6 :: a7 :: a8 :: a9 :: a10 :: a11 :: a12 :: a13 :: a14 :: a15 :: a16 :: a17 :: a18 :: some (.null) :: t) st h) : Ev G M d kc ks Q pc (a0 :: a1 :: a2 :: a3 :: a4 :: a5 :: a6 :: a7 :: a8 :: a9 :: a10 :: a11 :: a12 :: a13 :: a14 :: a15 :: a16 :: a17 :: a18 :: a19 :: t) (.null :: st) h := by
  obtain ⟨hd, rfl⟩ := hd
  intro p l e R s m args below meth c A H locs cells slots lsA Qf hc h1 h2 hw hS hl hr
  refine lv_astoreN hc.1 hc.2.1 hd (ev_ls_has hl) (Nat.lt_of_lt_of_le (by simp only [List.length_cons]; omega) hl.2.2.1) rfl (fun lsB hB => ?_)
  exact k p l e R s m args below meth c A H locs cells slots lsB Qf hc h1 h2 hw hS (ev_ls_st1 (L := 0) hl.2.2.1 (ev_hp (i := 18) (a := a18) rfl hp) hB) hr
theorem ev_lstore_19 {a0 a1 a2 a3 a4 a5 a6 a7 a8 a9 a10 a11 a12 a13 a14 a15 a16 a17 a18 a19 a20 : Option Value} {t : List (Option Value)} {x : Int64} (hd : fe M pc (.lstore 19) 2 pc') (hp : ev_nl a18 = true) (k : Ev G M d kc ks Q pc' (a0 :: a1 :: a2 :: a3 :: a4 :: a5 :: a6 :: a7 :: a8 :: a9 :: a10 :: a11 :: a12 :: a13 :: a14 :: a15 :: a16 :: a17 :: a18 :: some (.long x) :: none :: t) st h) : Ev G M d kc ks Q pc (a0 :: a1 :: a2 :: a3 :: a4 :: a5 :: a6 :: a7 :: a8 :: a9 :: a10 :: a11 :: a12 :: a13 :: a14 :: a15 :: a16 :: a17 :: a18 :: a19 :: a20 :: t) (.long x :: st) h := by
  obtain ⟨hd, rfl⟩ := hd
  intro p l e R s m args below meth c A H locs cells slots lsA Qf hc h1 h2 hw hS hl hr
  refine lv_lstore hc.1 hc.2.1 hd (ev_ls_has hl) (Nat.lt_of_lt_of_le (by simp only [List.length_cons]; omega) hl.2.2.1) rfl (fun lsB hB => ?_)
  exact k p l e R s m args below meth c A H locs cells slots lsB Qf hc h1 h2 hw hS (ev_ls_st2 hl.2.2.1 (ev_hp (i := 18) (a := a18) rfl hp) hB) hr
theorem ev_iinc_19 {a0 a1 a2 a3 a4 a5 a6 a7 a8 a9 a10 a11 a12 a13 a14 a15 a16 a17 a18 : Option Value} {t : List (Option Value)} {x v : Int32} {n : Int} (hd : fe M pc (.iinc 19 n) 3 pc') (hv : x + Int32.ofInt n = v) (hp : ev_nl a18 = true) (k : Ev G M d kc ks Q pc' (a0 :: a1 :: a2 :: a3 :: a4 :: a5 :: a6 :: a7 :: a8 :: a9 :: a10 :: a11 :: a12 :: a13 :: a14 :: a15 :: a16 :: a17 :: a18 :: some (.int v) :: t) st h) : Ev G M d kc ks Q pc (a0 :: a1 :: a2 :: a3 :: a4 :: a5 :: a6 :: a7 :: a8 :: a9 :: a10 :: a11 :: a12 :: a13 :: a14 :: a15 :: a16 :: a17 :: a18 :: some (.int x) :: t) st h := by
  obtain ⟨hd, rfl⟩ := hd
  intro p l e R s m args below meth c A H locs cells slots lsA Qf hc h1 h2 hw hS hl hr
  obtain ⟨kk, hkk⟩ := List.getElem?_of_mem (ev_pr_mem.mpr (show (a0 :: a1 :: a2 :: a3 :: a4 :: a5 :: a6 :: a7 :: a8 :: a9 :: a10 :: a11 :: a12 :: a13 :: a14 :: a15 :: a16 :: a17 :: a18 :: some (.int x) :: t)[19]? = some (some (.int x)) from rfl))
  refine lv_iinc hc.1 hc.2.1 hd (ev_ls_has hl) hkk hv (Nat.lt_of_lt_of_le (by simp only [List.length_cons]; omega) hl.2.2.1) rfl (fun lsB hB => ?_)
  exact k p l e R s m args below meth c A H locs cells slots lsB Qf hc h1 h2 hw hS (ev_ls_st1 (L := 0) hl.2.2.1 (ev_hp (i := 18) (a := a18) rfl hp) hB) hr
def fb (M : ev_M) (pc : Nat) (i : Int → Instr) (tgt pc' : Nat) : Prop := ∃ off : Int, decode M.2.1 pc = .ok (i off, 3) ∧ (pc : Int) + off = (tgt : Int) ∧ pc + 3 = pc'
theorem ev_if_eq {x : Int32} {tgt : Nat} (hd : fb M pc (.ifCond .eq) tgt pc') (kt : x = 0 → Ev G M d kc ks Q tgt ls st h) (kf : ¬ x = 0 → Ev G M d kc ks Q pc' ls st h) : Ev G M d kc ks Q pc ls (.int x :: st) h := by
  obtain ⟨off, hd, ht, rfl⟩ := hd
  intro p l e R s m args below meth c A H locs cells slots lsA Qf hc h1 h2 hw hS hl hr
  exact lv_if_eq hc.1 hc.2.1 hd ht (fun q => kt q p l e R s m args below meth c A H locs cells slots lsA Qf hc h1 h2 hw hS hl hr) (fun q => kf q p l e R s m args below meth c A H locs cells slots lsA Qf hc h1 h2 hw hS hl hr)
theorem ev_icmp_eq {x y : Int32} {tgt : Nat} (hd : fb M pc (.if_icmp .eq) tgt pc') (kt : x = y → Ev G M d kc ks Q tgt ls st h) (kf : ¬ x = y → Ev G M d kc ks Q pc' ls st h) : Ev G M d kc ks Q pc ls (.int y :: .int x :: st) h := by
  obtain ⟨off, hd, ht, rfl⟩ := hd
  intro p l e R s m args below meth c A H locs cells slots lsA Qf hc h1 h2 hw hS hl hr
  exact lv_icmp_eq hc.1 hc.2.1 hd ht (fun q => kt q p l e R s m args below meth c A H locs cells slots lsA Qf hc h1 h2 hw hS hl hr) (fun q => kf q p l e R s m args below meth c A H locs cells slots lsA Qf hc h1 h2 hw hS hl hr)
theorem ev_if_ne {x : Int32} {tgt : Nat} (hd : fb M pc (.ifCond .ne) tgt pc') (kt : ¬ x = 0 → Ev G M d kc ks Q tgt ls st h) (kf : x = 0 → Ev G M d kc ks Q pc' ls st h) : Ev G M d kc ks Q pc ls (.int x :: st) h := by
  obtain ⟨off, hd, ht, rfl⟩ := hd
  intro p l e R s m args below meth c A H locs cells slots lsA Qf hc h1 h2 hw hS hl hr
  exact lv_if_ne hc.1 hc.2.1 hd ht (fun q => kt q p l e R s m args below meth c A H locs cells slots lsA Qf hc h1 h2 hw hS hl hr) (fun q => kf q p l e R s m args below meth c A H locs cells slots lsA Qf hc h1 h2 hw hS hl hr)
theorem ev_icmp_ne {x y : Int32} {tgt : Nat} (hd : fb M pc (.if_icmp .ne) tgt pc') (kt : ¬ x = y → Ev G M d kc ks Q tgt ls st h) (kf : x = y → Ev G M d kc ks Q pc' ls st h) : Ev G M d kc ks Q pc ls (.int y :: .int x :: st) h := by
  obtain ⟨off, hd, ht, rfl⟩ := hd
  intro p l e R s m args below meth c A H locs cells slots lsA Qf hc h1 h2 hw hS hl hr
  exact lv_icmp_ne hc.1 hc.2.1 hd ht (fun q => kt q p l e R s m args below meth c A H locs cells slots lsA Qf hc h1 h2 hw hS hl hr) (fun q => kf q p l e R s m args below meth c A H locs cells slots lsA Qf hc h1 h2 hw hS hl hr)
theorem ev_if_lt {x : Int32} {tgt : Nat} (hd : fb M pc (.ifCond .lt) tgt pc') (kt : x < 0 → Ev G M d kc ks Q tgt ls st h) (kf : ¬ x < 0 → Ev G M d kc ks Q pc' ls st h) : Ev G M d kc ks Q pc ls (.int x :: st) h := by
  obtain ⟨off, hd, ht, rfl⟩ := hd
  intro p l e R s m args below meth c A H locs cells slots lsA Qf hc h1 h2 hw hS hl hr
  exact lv_if_lt hc.1 hc.2.1 hd ht (fun q => kt q p l e R s m args below meth c A H locs cells slots lsA Qf hc h1 h2 hw hS hl hr) (fun q => kf q p l e R s m args below meth c A H locs cells slots lsA Qf hc h1 h2 hw hS hl hr)
theorem ev_icmp_lt {x y : Int32} {tgt : Nat} (hd : fb M pc (.if_icmp .lt) tgt pc') (kt : x < y → Ev G M d kc ks Q tgt ls st h) (kf : ¬ x < y → Ev G M d kc ks Q pc' ls st h) : Ev G M d kc ks Q pc ls (.int y :: .int x :: st) h := by
  obtain ⟨off, hd, ht, rfl⟩ := hd
  intro p l e R s m args below meth c A H locs cells slots lsA Qf hc h1 h2 hw hS hl hr
  exact lv_icmp_lt hc.1 hc.2.1 hd ht (fun q => kt q p l e R s m args below meth c A H locs cells slots lsA Qf hc h1 h2 hw hS hl hr) (fun q => kf q p l e R s m args below meth c A H locs cells slots lsA Qf hc h1 h2 hw hS hl hr)
theorem ev_if_ge {x : Int32} {tgt : Nat} (hd : fb M pc (.ifCond .ge) tgt pc') (kt : 0 ≤ x → Ev G M d kc ks Q tgt ls st h) (kf : ¬ 0 ≤ x → Ev G M d kc ks Q pc' ls st h) : Ev G M d kc ks Q pc ls (.int x :: st) h := by
  obtain ⟨off, hd, ht, rfl⟩ := hd
  intro p l e R s m args below meth c A H locs cells slots lsA Qf hc h1 h2 hw hS hl hr
  exact lv_if_ge hc.1 hc.2.1 hd ht (fun q => kt q p l e R s m args below meth c A H locs cells slots lsA Qf hc h1 h2 hw hS hl hr) (fun q => kf q p l e R s m args below meth c A H locs cells slots lsA Qf hc h1 h2 hw hS hl hr)
theorem ev_icmp_ge {x y : Int32} {tgt : Nat} (hd : fb M pc (.if_icmp .ge) tgt pc') (kt : y ≤ x → Ev G M d kc ks Q tgt ls st h) (kf : ¬ y ≤ x → Ev G M d kc ks Q pc' ls st h) : Ev G M d kc ks Q pc ls (.int y :: .int x :: st) h := by
  obtain ⟨off, hd, ht, rfl⟩ := hd
  intro p l e R s m args below meth c A H locs cells slots lsA Qf hc h1 h2 hw hS hl hr
  exact lv_icmp_ge hc.1 hc.2.1 hd ht (fun q => kt q p l e R s m args below meth c A H locs cells slots lsA Qf hc h1 h2 hw hS hl hr) (fun q => kf q p l e R s m args below meth c A H locs cells slots lsA Qf hc h1 h2 hw hS hl hr)
theorem ev_if_gt {x : Int32} {tgt : Nat} (hd : fb M pc (.ifCond .gt) tgt pc') (kt : 0 < x → Ev G M d kc ks Q tgt ls st h) (kf : ¬ 0 < x → Ev G M d kc ks Q pc' ls st h) : Ev G M d kc ks Q pc ls (.int x :: st) h := by
  obtain ⟨off, hd, ht, rfl⟩ := hd
  intro p l e R s m args below meth c A H locs cells slots lsA Qf hc h1 h2 hw hS hl hr
  exact lv_if_gt hc.1 hc.2.1 hd ht (fun q => kt q p l e R s m args below meth c A H locs cells slots lsA Qf hc h1 h2 hw hS hl hr) (fun q => kf q p l e R s m args below meth c A H locs cells slots lsA Qf hc h1 h2 hw hS hl hr)
theorem ev_icmp_gt {x y : Int32} {tgt : Nat} (hd : fb M pc (.if_icmp .gt) tgt pc') (kt : y < x → Ev G M d kc ks Q tgt ls st h) (kf : ¬ y < x → Ev G M d kc ks Q pc' ls st h) : Ev G M d kc ks Q pc ls (.int y :: .int x :: st) h := by
  obtain ⟨off, hd, ht, rfl⟩ := hd
  intro p l e R s m args below meth c A H locs cells slots lsA Qf hc h1 h2 hw hS hl hr
  exact lv_icmp_gt hc.1 hc.2.1 hd ht (fun q => kt q p l e R s m args below meth c A H locs cells slots lsA Qf hc h1 h2 hw hS hl hr) (fun q => kf q p l e R s m args below meth c A H locs cells slots lsA Qf hc h1 h2 hw hS hl hr)
theorem ev_if_le {x : Int32} {tgt : Nat} (hd : fb M pc (.ifCond .le) tgt pc') (kt : x ≤ 0 → Ev G M d kc ks Q tgt ls st h) (kf : ¬ x ≤ 0 → Ev G M d kc ks Q pc' ls st h) : Ev G M d kc ks Q pc ls (.int x :: st) h := by
  obtain ⟨off, hd, ht, rfl⟩ := hd
  intro p l e R s m args below meth c A H locs cells slots lsA Qf hc h1 h2 hw hS hl hr
  exact lv_if_le hc.1 hc.2.1 hd ht (fun q => kt q p l e R s m args below meth c A H locs cells slots lsA Qf hc h1 h2 hw hS hl hr) (fun q => kf q p l e R s m args below meth c A H locs cells slots lsA Qf hc h1 h2 hw hS hl hr)
theorem ev_icmp_le {x y : Int32} {tgt : Nat} (hd : fb M pc (.if_icmp .le) tgt pc') (kt : x ≤ y → Ev G M d kc ks Q tgt ls st h) (kf : ¬ x ≤ y → Ev G M d kc ks Q pc' ls st h) : Ev G M d kc ks Q pc ls (.int y :: .int x :: st) h := by
  obtain ⟨off, hd, ht, rfl⟩ := hd
  intro p l e R s m args below meth c A H locs cells slots lsA Qf hc h1 h2 hw hS hl hr
  exact lv_icmp_le hc.1 hc.2.1 hd ht (fun q => kt q p l e R s m args below meth c A H locs cells slots lsA Qf hc h1 h2 hw hS hl hr) (fun q => kf q p l e R s m args below meth c A H locs cells slots lsA Qf hc h1 h2 hw hS hl hr)
theorem ev_goto {tgt : Nat} (hd : fb M pc .goto tgt pc') (k : Ev G M d kc ks Q tgt ls st h) : Ev G M d kc ks Q pc ls st h := by
  obtain ⟨off, hd, ht, rfl⟩ := hd
  intro p l e R s m args below meth c A H locs cells slots lsA Qf hc h1 h2 hw hS hl hr
  exact lv_goto hc.1 hc.2.1 hd ht (k p l e R s m args below meth c A H locs cells slots lsA Qf hc h1 h2 hw hS hl hr)
theorem ev_ifnull {x tgt : Nat} (hd : fb M pc .ifnull tgt pc') (k : Ev G M d kc ks Q pc' ls st h) : Ev G M d kc ks Q pc ls (.ref x :: st) h := by
  obtain ⟨off, hd, ht, rfl⟩ := hd
  intro p l e R s m args below meth c A H locs cells slots lsA Qf hc h1 h2 hw hS hl hr
  exact lv_ifnull hc.1 hc.2.1 hd (k p l e R s m args below meth c A H locs cells slots lsA Qf hc h1 h2 hw hS hl hr)
theorem ev_ifnullN {tgt : Nat} (hd : fb M pc .ifnull tgt pc') (k : Ev G M d kc ks Q tgt ls st h) : Ev G M d kc ks Q pc ls (.null :: st) h := by
  obtain ⟨off, hd, ht, rfl⟩ := hd
  intro p l e R s m args below meth c A H locs cells slots lsA Qf hc h1 h2 hw hS hl hr
  exact lv_ifnullN hc.1 hc.2.1 hd ht (k p l e R s m args below meth c A H locs cells slots lsA Qf hc h1 h2 hw hS hl hr)
theorem ev_ifnonnull {x tgt : Nat} (hd : fb M pc .ifnonnull tgt pc') (k : Ev G M d kc ks Q tgt ls st h) : Ev G M d kc ks Q pc ls (.ref x :: st) h := by
  obtain ⟨off, hd, ht, rfl⟩ := hd
  intro p l e R s m args below meth c A H locs cells slots lsA Qf hc h1 h2 hw hS hl hr
  exact lv_ifnonnull hc.1 hc.2.1 hd ht (k p l e R s m args below meth c A H locs cells slots lsA Qf hc h1 h2 hw hS hl hr)
theorem ev_ifnonnullN {tgt : Nat} (hd : fb M pc .ifnonnull tgt pc') (k : Ev G M d kc ks Q pc' ls st h) : Ev G M d kc ks Q pc ls (.null :: st) h := by
  obtain ⟨off, hd, ht, rfl⟩ := hd
  intro p l e R s m args below meth c A H locs cells slots lsA Qf hc h1 h2 hw hS hl hr
  exact lv_ifnonnullN hc.1 hc.2.1 hd (k p l e R s m args below meth c A H locs cells slots lsA Qf hc h1 h2 hw hS hl hr)
theorem ev_tableIn {dflt lo hi : Int} {offs : Array Int} {len : Nat} {x : Int32} {off : Int} {tgt : Nat} (hd : decode M.2.1 pc = .ok (.tableswitch dflt lo hi offs, len)) (g1 : ¬ x.toInt < lo) (g2 : ¬ hi < x.toInt) (ho : offs[(x.toInt - lo).toNat]? = some off) (ht : (pc : Int) + off = (tgt : Int)) (k : Ev G M d kc ks Q tgt ls st h) : Ev G M d kc ks Q pc ls (.int x :: st) h := by
  intro p l e R s m args below meth c A H locs cells slots lsA Qf hc h1 h2 hw hS hl hr
  exact lv_tableIn hc.1 hc.2.1 hd g1 g2 ho ht (k p l e R s m args below meth c A H locs cells slots lsA Qf hc h1 h2 hw hS hl hr)
theorem ev_tableOut {dflt lo hi : Int} {offs : Array Int} {len : Nat} {x : Int32} {tgt : Nat} (hd : decode M.2.1 pc = .ok (.tableswitch dflt lo hi offs, len)) (g1 : x.toInt < lo ∨ hi < x.toInt) (ht : (pc : Int) + dflt = (tgt : Int)) (k : Ev G M d kc ks Q tgt ls st h) : Ev G M d kc ks Q pc ls (.int x :: st) h := by
  intro p l e R s m args below meth c A H locs cells slots lsA Qf hc h1 h2 hw hS hl hr
  exact lv_tableOut hc.1 hc.2.1 hd g1 ht (k p l e R s m args below meth c A H locs cells slots lsA Qf hc h1 h2 hw hS hl hr)
theorem ev_lookup {dflt : Int} {ps : Array (Int × Int)} {len : Nat} {x : Int32} {off : Int} {tgt : Nat} (hd : decode M.2.1 pc = .ok (.lookupswitch dflt ps, len)) (hp : (ps.toList.zip (ps.toList.drop 1)).all (fun (a, next) => a.1 < next.1) = true) (ho : Op.lookupswitch.offset ps.toList dflt x.toInt = off) (ht : (pc : Int) + off = (tgt : Int)) (k : Ev G M d kc ks Q tgt ls st h) : Ev G M d kc ks Q pc ls (.int x :: st) h := by
  intro p l e R s m args below meth c A H locs cells slots lsA Qf hc h1 h2 hw hS hl hr
  exact lv_lookup hc.1 hc.2.1 hd hp ho ht (k p l e R s m args below meth c A H locs cells slots lsA Qf hc h1 h2 hw hS hl hr)
end EVR
