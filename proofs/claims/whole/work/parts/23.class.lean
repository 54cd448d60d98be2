section CL
variable {G : ev_G} {h : ev_H}
abbrev lr_c (ru rd pp rv np c : Nat) : va_E := .inr (5, [.ref ru, .ref rd, .ref pp, .ref rv, .int (nI np), .int (nI c)])
theorem rd_fr {h h' : ev_H} {a tx ea aa len opn nm : Nat} {fa fb : Nat → Nat} {st tm : Int32} {TX : Nat → Int32} {X : Nat → List T3} (H : rd_at G h a tx ea aa fa fb len opn st nm tm TX X) (k0 : h' a = h a) (k1 : h' tx = h tx) (k2 : h' ea = h ea) (k3 : h' aa = h aa) (k4 : ∀ k, k < 24 → h' (fa k) = h (fa k) ∧ h' (fb k) = h (fb k)) : rd_at G h' a tx ea aa fa fb len opn st nm tm TX X := by
  obtain ⟨h0, h1, ⟨f2, h2, e2⟩, ⟨f3, h3, e3⟩, h4, h5, h6⟩ := H
  refine ⟨k0.trans h0, k1.trans h1, ⟨f2, k2.trans h2, e2⟩, ⟨f3, k3.trans h3, e3⟩, fun t ht => ?_, h5, h6⟩
  obtain ⟨n, B, g1, g2, g3, g4⟩ := h4 t ht
  exact ⟨n, B, (k4 t ht).1.trans g1, (k4 t ht).2.trans g2, g3, g4⟩
theorem pk_fr {h h' : ev_H} {np : Nat} {x : pkT} (H : pk_at G h np x) (k1 : h' x.1.1 = h x.1.1) (k2 : h' x.1.2.1 = h x.1.2.1) (k3 : h' x.1.2.2.1 = h x.1.2.2.1) (k4 : h' x.1.2.2.2.1 = h x.1.2.2.2.1) (k5 : h' x.1.2.2.2.2 = h x.1.2.2.2.2) : pk_at G h' np x := by
  obtain ⟨g1, g2, g3, g4, g5, g6⟩ := H
  exact ⟨k1.trans g1, k2.trans g2, k3.trans g3, k4.trans g4, k5.trans g5, g6⟩
/-- the class's whole state; τ tells the cells' groups apart: 0 the object, 1 rules, 2 reader, 3 review, 4 the row of packages, 5 + p a package -/
def CI (G : ev_G) (h : ev_H) (τ : Nat → Nat) (x ru w t l rd tx ea aa pp rv q1 q2 q3 q4 q5 : Nat) (fa fb : Nat → Nat) (n : Nat) (W : Nat → Int64) (T F : Nat → Int32) (len : Nat) (s : RS) (TX : Nat → Int32) (tc : Nat → Nat) (np : Nat) (P : Nat → Option Nat) (I : Nat → pkT) (rs : rvs) (K D : Nat → Int32) (c : Nat) : Prop :=
  (h x = some (lr_c ru rd pp rv np c) ∧ c ≤ 1000000000 ∧ np ≤ 16) ∧
  ru_at G h ru w t l n W T F ∧
  (rdq G h rd tx ea aa fa fb len TX s ∧ sok s ∧ len ≤ 60 ∧ ∀ i, i < len → TX i = nI (tc i) ∧ 32 ≤ tc i ∧ tc i ≤ 126) ∧
  (h pp = some (aQ G 16 P) ∧ ∀ p, p < np → P p = some (I p).1.1 ∧ pk_at G h np (I p)) ∧
  (h rv = some (rv_c q1 q2 q3 q4 q5 rs.1) ∧ h q1 = some (aI G 48 rs.2.1) ∧ h q2 = some (aI G 48 rs.2.2.1) ∧ h q3 = some (aI G 48 K) ∧ h q4 = some (aI G 48 D) ∧ h q5 = some (aI G 48 rs.2.2.2) ∧ rv_d q1 q2 q3 q4 q5 ∧ rv_ok np rs) ∧
  (τ x = 0 ∧ (τ ru = 1 ∧ τ w = 1 ∧ τ t = 1 ∧ τ l = 1) ∧ (τ rd = 2 ∧ τ tx = 2 ∧ τ ea = 2 ∧ τ aa = 2 ∧ ∀ k, k < 24 → τ (fa k) = 2 ∧ τ (fb k) = 2) ∧ (τ rv = 3 ∧ τ q1 = 3 ∧ τ q2 = 3 ∧ τ q3 = 3 ∧ τ q4 = 3 ∧ τ q5 = 3) ∧ τ pp = 4 ∧
    ∀ p, p < np → τ (I p).1.1 = 5 + p ∧ τ (I p).1.2.1 = 5 + p ∧ τ (I p).1.2.2.1 = 5 + p ∧ τ (I p).1.2.2.2.1 = 5 + p ∧ τ (I p).1.2.2.2.2 = 5 + p)
/-- two heaps are alike but for a group's cells -/
def ag (τ : Nat → Nat) (g : Nat) (h h' : ev_H) : Prop := ∀ q, τ q ≠ g → h' q = h q
theorem ag_rf {τ : Nat → Nat} {g : Nat} : ag τ g h h := fun _ _ => rfl
theorem ag_up {τ : Nat → Nat} {g a : Nat} {e : Option va_E} (ha : τ a = g) : ag τ g h (va_up h a e) := fun q hq => va_up_ne _ _ (fun z => hq (z ▸ ha))
theorem ag_tr {τ : Nat → Nat} {g : Nat} {h1 h2 : ev_H} (p : ag τ g h h1) (q : ag τ g h1 h2) : ag τ g h h2 := fun x hx => (q x hx).trans (p x hx)
variable {τ : Nat → Nat} {x ru w t l rd tx ea aa pp rv q1 q2 q3 q4 q5 : Nat} {fa fb : Nat → Nat} {n : Nat} {W : Nat → Int64} {T F : Nat → Int32} {len : Nat} {s : RS} {TX : Nat → Int32} {tc : Nat → Nat} {np : Nat} {P : Nat → Option Nat} {I : Nat → pkT} {rs : rvs} {K D : Nat → Int32} {c : Nat}
theorem ag_rfr {h' : ev_H} (H : CI G h τ x ru w t l rd tx ea aa pp rv q1 q2 q3 q4 q5 fa fb n W T F len s TX tc np P I rs K D c) (R : rfr rd fa fb h h') : ag τ 2 h h' := by
  obtain ⟨-, -, -, -, -, z0, z1, ⟨z2, z3, z4, z5, z6⟩, -⟩ := H
  exact fun q hq => R q (fun e => hq (e ▸ z2)) (fun k hk => ⟨fun e => hq (e ▸ (z6 k hk).1), fun e => hq (e ▸ (z6 k hk).2)⟩)
theorem CI_X {h' : ev_H} {c' : Nat} (H : CI G h τ x ru w t l rd tx ea aa pp rv q1 q2 q3 q4 q5 fa fb n W T F len s TX tc np P I rs K D c) (A : ag τ 0 h h') (hx : h' x = some (lr_c ru rd pp rv np c')) (hc : c' ≤ 1000000000) : CI G h' τ x ru w t l rd tx ea aa pp rv q1 q2 q3 q4 q5 fa fb n W T F len s TX tc np P I rs K D c' := by
  obtain ⟨⟨x1, x2, x3⟩, ⟨u1, u2, u3, u4, u5⟩, ⟨r1, r2⟩, ⟨p1, p2⟩, ⟨v1, v2, v3, v4, v5, v6, v7⟩, z⟩ := H
  obtain ⟨z0, ⟨z1, z2, z3, z4⟩, ⟨y0, y1, y2, y3, y4⟩, ⟨a0, a1, a2, a3, a4, a5⟩, b0, b1⟩ := id z
  refine ⟨⟨hx, hc, x3⟩, ⟨(A _ (by omega)).trans u1, (A _ (by omega)).trans u2, (A _ (by omega)).trans u3, (A _ (by omega)).trans u4, u5⟩, ⟨rd_fr r1 (A _ (by omega)) (A _ (by omega)) (A _ (by omega)) (A _ (by omega)) (fun k hk => ⟨A _ (by have := y4 k hk; omega), A _ (by have := y4 k hk; omega)⟩), r2⟩, ⟨(A _ (by omega)).trans p1, fun p hp => ⟨(p2 p hp).1, ?_⟩⟩, ⟨(A _ (by omega)).trans v1, (A _ (by omega)).trans v2, (A _ (by omega)).trans v3, (A _ (by omega)).trans v4, (A _ (by omega)).trans v5, (A _ (by omega)).trans v6, v7⟩, z⟩
  have := b1 p hp
  exact pk_fr (p2 p hp).2 (A _ (by omega)) (A _ (by omega)) (A _ (by omega)) (A _ (by omega)) (A _ (by omega))
theorem CI_U {h' : ev_H} {n' : Nat} {W' : Nat → Int64} {T' F' : Nat → Int32} (H : CI G h τ x ru w t l rd tx ea aa pp rv q1 q2 q3 q4 q5 fa fb n W T F len s TX tc np P I rs K D c) (A : ag τ 1 h h') (hu : ru_at G h' ru w t l n' W' T' F') : CI G h' τ x ru w t l rd tx ea aa pp rv q1 q2 q3 q4 q5 fa fb n' W' T' F' len s TX tc np P I rs K D c := by
  obtain ⟨⟨x1, x2, x3⟩, -, ⟨r1, r2⟩, ⟨p1, p2⟩, ⟨v1, v2, v3, v4, v5, v6, v7⟩, z⟩ := H
  obtain ⟨z0, ⟨z1, z2, z3, z4⟩, ⟨y0, y1, y2, y3, y4⟩, ⟨a0, a1, a2, a3, a4, a5⟩, b0, b1⟩ := id z
  refine ⟨⟨(A _ (by omega)).trans x1, x2, x3⟩, hu, ⟨rd_fr r1 (A _ (by omega)) (A _ (by omega)) (A _ (by omega)) (A _ (by omega)) (fun k hk => ⟨A _ (by have := y4 k hk; omega), A _ (by have := y4 k hk; omega)⟩), r2⟩, ⟨(A _ (by omega)).trans p1, fun p hp => ⟨(p2 p hp).1, ?_⟩⟩, ⟨(A _ (by omega)).trans v1, (A _ (by omega)).trans v2, (A _ (by omega)).trans v3, (A _ (by omega)).trans v4, (A _ (by omega)).trans v5, (A _ (by omega)).trans v6, v7⟩, z⟩
  have := b1 p hp
  exact pk_fr (p2 p hp).2 (A _ (by omega)) (A _ (by omega)) (A _ (by omega)) (A _ (by omega)) (A _ (by omega))
theorem CI_R {h' : ev_H} {len' : Nat} {s' : RS} {TX' : Nat → Int32} {tc' : Nat → Nat} (H : CI G h τ x ru w t l rd tx ea aa pp rv q1 q2 q3 q4 q5 fa fb n W T F len s TX tc np P I rs K D c) (A : ag τ 2 h h') (hr : rdq G h' rd tx ea aa fa fb len' TX' s') (hs : sok s') (hl : len' ≤ 60) (ht : ∀ i, i < len' → TX' i = nI (tc' i) ∧ 32 ≤ tc' i ∧ tc' i ≤ 126) : CI G h' τ x ru w t l rd tx ea aa pp rv q1 q2 q3 q4 q5 fa fb n W T F len' s' TX' tc' np P I rs K D c := by
  obtain ⟨⟨x1, x2, x3⟩, ⟨u1, u2, u3, u4, u5⟩, -, ⟨p1, p2⟩, ⟨v1, v2, v3, v4, v5, v6, v7⟩, z⟩ := H
  obtain ⟨z0, ⟨z1, z2, z3, z4⟩, ⟨y0, y1, y2, y3, y4⟩, ⟨a0, a1, a2, a3, a4, a5⟩, b0, b1⟩ := id z
  refine ⟨⟨(A _ (by omega)).trans x1, x2, x3⟩, ⟨(A _ (by omega)).trans u1, (A _ (by omega)).trans u2, (A _ (by omega)).trans u3, (A _ (by omega)).trans u4, u5⟩, ⟨hr, hs, hl, ht⟩, ⟨(A _ (by omega)).trans p1, fun p hp => ⟨(p2 p hp).1, ?_⟩⟩, ⟨(A _ (by omega)).trans v1, (A _ (by omega)).trans v2, (A _ (by omega)).trans v3, (A _ (by omega)).trans v4, (A _ (by omega)).trans v5, (A _ (by omega)).trans v6, v7⟩, z⟩
  have := b1 p hp
  exact pk_fr (p2 p hp).2 (A _ (by omega)) (A _ (by omega)) (A _ (by omega)) (A _ (by omega)) (A _ (by omega))
theorem CI_V {h' : ev_H} {rs' : rvs} {K' D' : Nat → Int32} (H : CI G h τ x ru w t l rd tx ea aa pp rv q1 q2 q3 q4 q5 fa fb n W T F len s TX tc np P I rs K D c) (A : ag τ 3 h h') (g0 : h' rv = some (rv_c q1 q2 q3 q4 q5 rs'.1)) (g1 : h' q1 = some (aI G 48 rs'.2.1)) (g2 : h' q2 = some (aI G 48 rs'.2.2.1)) (g3 : h' q3 = some (aI G 48 K')) (g4 : h' q4 = some (aI G 48 D')) (g5 : h' q5 = some (aI G 48 rs'.2.2.2)) (hok : rv_ok np rs') : CI G h' τ x ru w t l rd tx ea aa pp rv q1 q2 q3 q4 q5 fa fb n W T F len s TX tc np P I rs' K' D' c := by
  obtain ⟨⟨x1, x2, x3⟩, ⟨u1, u2, u3, u4, u5⟩, ⟨r1, r2⟩, ⟨p1, p2⟩, ⟨v1, v2, v3, v4, v5, v6, v7, v8⟩, z⟩ := H
  obtain ⟨z0, ⟨z1, z2, z3, z4⟩, ⟨y0, y1, y2, y3, y4⟩, ⟨a0, a1, a2, a3, a4, a5⟩, b0, b1⟩ := id z
  refine ⟨⟨(A _ (by omega)).trans x1, x2, x3⟩, ⟨(A _ (by omega)).trans u1, (A _ (by omega)).trans u2, (A _ (by omega)).trans u3, (A _ (by omega)).trans u4, u5⟩, ⟨rd_fr r1 (A _ (by omega)) (A _ (by omega)) (A _ (by omega)) (A _ (by omega)) (fun k hk => ⟨A _ (by have := y4 k hk; omega), A _ (by have := y4 k hk; omega)⟩), r2⟩, ⟨(A _ (by omega)).trans p1, fun p hp => ⟨(p2 p hp).1, ?_⟩⟩, ⟨g0, g1, g2, g3, g4, g5, v7, hok⟩, z⟩
  have := b1 p hp
  exact pk_fr (p2 p hp).2 (A _ (by omega)) (A _ (by omega)) (A _ (by omega)) (A _ (by omega)) (A _ (by omega))
/-- a package's own numbers change; its cells stay where they are -/
theorem CI_P {h' : ev_H} {p0 : Nat} {J : pkT} (H : CI G h τ x ru w t l rd tx ea aa pp rv q1 q2 q3 q4 q5 fa fb n W T F len s TX tc np P I rs K D c) (hp0 : p0 < np) (A : ag τ (5 + p0) h h') (hJ : J.1 = (I p0).1) (hk : pk_at G h' np J) : CI G h' τ x ru w t l rd tx ea aa pp rv q1 q2 q3 q4 q5 fa fb n W T F len s TX tc np P (va_up I p0 J) rs K D c := by
  obtain ⟨⟨x1, x2, x3⟩, ⟨u1, u2, u3, u4, u5⟩, ⟨r1, r2⟩, ⟨p1, p2⟩, ⟨v1, v2, v3, v4, v5, v6, v7⟩, z⟩ := H
  obtain ⟨z0, ⟨z1, z2, z3, z4⟩, ⟨y0, y1, y2, y3, y4⟩, ⟨a0, a1, a2, a3, a4, a5⟩, b0, b1⟩ := z
  refine ⟨⟨(A _ (by omega)).trans x1, x2, x3⟩, ⟨(A _ (by omega)).trans u1, (A _ (by omega)).trans u2, (A _ (by omega)).trans u3, (A _ (by omega)).trans u4, u5⟩, ⟨rd_fr r1 (A _ (by omega)) (A _ (by omega)) (A _ (by omega)) (A _ (by omega)) (fun k hk => ⟨A _ (by have := y4 k hk; omega), A _ (by have := y4 k hk; omega)⟩), r2⟩, ⟨(A _ (by omega)).trans p1, fun p hp => ?_⟩, ⟨(A _ (by omega)).trans v1, (A _ (by omega)).trans v2, (A _ (by omega)).trans v3, (A _ (by omega)).trans v4, (A _ (by omega)).trans v5, (A _ (by omega)).trans v6, v7⟩, ⟨z0, ⟨z1, z2, z3, z4⟩, ⟨y0, y1, y2, y3, y4⟩, ⟨a0, a1, a2, a3, a4, a5⟩, b0, fun p hp => ?_⟩⟩
  · by_cases e : p = p0
    · subst e
      rw [va_up_self, hJ]
      exact ⟨(p2 p hp).1, hk⟩
    · rw [va_up_ne _ _ e]
      have := b1 p hp
      exact ⟨(p2 p hp).1, pk_fr (p2 p hp).2 (A _ (by omega)) (A _ (by omega)) (A _ (by omega)) (A _ (by omega)) (A _ (by omega))⟩
  · by_cases e : p = p0
    · subst e
      rw [va_up_self, hJ]
      exact b1 p hp
    · rw [va_up_ne _ _ e]
      exact b1 p hp
/-- cells that the class hasn't may change -/
theorem CI_fr {h' : ev_H} (H : CI G h τ x ru w t l rd tx ea aa pp rv q1 q2 q3 q4 q5 fa fb n W T F len s TX tc np P I rs K D c) (A : ag τ 99 h h') : CI G h' τ x ru w t l rd tx ea aa pp rv q1 q2 q3 q4 q5 fa fb n W T F len s TX tc np P I rs K D c := by
  obtain ⟨⟨x1, x2, x3⟩, ⟨u1, u2, u3, u4, u5⟩, ⟨r1, r2⟩, ⟨p1, p2⟩, ⟨v1, v2, v3, v4, v5, v6, v7⟩, z⟩ := H
  obtain ⟨z0, ⟨z1, z2, z3, z4⟩, ⟨y0, y1, y2, y3, y4⟩, ⟨a0, a1, a2, a3, a4, a5⟩, b0, b1⟩ := id z
  refine ⟨⟨(A _ (by omega)).trans x1, x2, x3⟩, ⟨(A _ (by omega)).trans u1, (A _ (by omega)).trans u2, (A _ (by omega)).trans u3, (A _ (by omega)).trans u4, u5⟩, ⟨rd_fr r1 (A _ (by omega)) (A _ (by omega)) (A _ (by omega)) (A _ (by omega)) (fun k hk => ⟨A _ (by have := y4 k hk; omega), A _ (by have := y4 k hk; omega)⟩), r2⟩, ⟨(A _ (by omega)).trans p1, fun p hp => ⟨(p2 p hp).1, ?_⟩⟩, ⟨(A _ (by omega)).trans v1, (A _ (by omega)).trans v2, (A _ (by omega)).trans v3, (A _ (by omega)).trans v4, (A _ (by omega)).trans v5, (A _ (by omega)).trans v6, v7⟩, z⟩
  have := b1 p hp
  exact pk_fr (p2 p hp).2 (A _ (by omega)) (A _ (by omega)) (A _ (by omega)) (A _ (by omega)) (A _ (by omega))
/-- a call of the class leaves the others' cells (99) -/
def fo99 (τ : Nat → Nat) (h h' : ev_H) : Prop := ∀ q, τ q = 99 → h' q = h q
theorem fo_ag {h' : ev_H} {g : Nat} (A : ag τ g h h') (hg : g ≠ 99) : fo99 τ h h' := fun q hq => A q (by omega)
theorem fo_rf : fo99 τ h h := fun _ _ => rfl
end CL
