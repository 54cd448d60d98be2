section LVS
variable {G : ev_G} {h : ev_H}
/-- a package in the reference and in the class -/
def PK (A : Nat → Nat → Int32) (p : Nat) (x : pkT) : Prop := (∃ C n R, PF A p x.2.1.1 x.2.1.2 C n R) ∧ (A 14 p = nI x.2.2.1.1 ∧ ∀ k, k < x.2.2.1.1 → A 15 (6 * p + k) = x.2.2.1.2.1 k ∧ A 16 (6 * p + k) = x.2.2.1.2.2 k) ∧ A 17 p = x.2.2.2
def PZ (A : Nat → Nat → Int32) (p : Nat) : Prop := A 10 p = 0 ∧ A 12 p = 0 ∧ A 14 p = 0 ∧ A 17 p = -1
/-- the two states -/
def Rl (n : Nat) (W : Nat → Int64) (T F : Nat → Int32) (len : Nat) (tc : Nat → Nat) (np : Nat) (I : Nat → pkT) (rs : rvs) (K D : Nat → Int32) (c : Nat) (sc : Nat → Int32) (A : Nat → Nat → Int32) (Wd : Nat → Int64) : Prop :=
  (sc 2 = nI n ∧ Wd = W) ∧ RuR A T F ∧ (sc 9 = nI len ∧ mtx A len tc) ∧ (sc 3 = nI np ∧ (∀ p, p < np → PK A p (I p)) ∧ ∀ p, np ≤ p → p < 16 → PZ A p) ∧ sc 1 = nI c ∧ (sc 28 = nI rs.1 ∧ A 29 = rs.2.1 ∧ A 30 = rs.2.2.1 ∧ A 33 = rs.2.2.2 ∧ ∀ q, q < rs.1 → A 31 q = K q ∧ A 32 q = D q)
def LV (G : ev_G) (h : ev_H) (x m : Nat) : Prop := ∃ (τ : Nat → Nat) (ru w t l rd tx ea aa pp rv q1 q2 q3 q4 q5 : Nat) (fa fb : Nat → Nat) (n : Nat) (W : Nat → Int64) (T F : Nat → Int32) (len : Nat) (s : RS) (TX : Nat → Int32) (tc : Nat → Nat) (np : Nat) (P : Nat → Option Nat) (I : Nat → pkT) (rs : rvs) (K D : Nat → Int32) (c : Nat) (ad : Nat → Nat) (sc : Nat → Int32) (A : Nat → Nat → Int32) (Wd : Nat → Int64), CI G h τ x ru w t l rd tx ea aa pp rv q1 q2 q3 q4 q5 fa fb n W T F len s TX tc np P I rs K D c ∧ MI G h h m ad sc A Wd ∧ (τ m = 99 ∧ ∀ k, isR k = true → τ (ad k) = 99) ∧ Rl n W T F len tc np I rs K D c sc A Wd
variable {m : Nat} {ad : Nat → Nat} {sc sc' : Nat → Int32} {A A' : Nat → Nat → Int32} {Wd Wd' : Nat → Int64}
variable {τ : Nat → Nat} {x ru w t l rd tx ea aa pp rv q1 q2 q3 q4 q5 : Nat} {fa fb : Nat → Nat} {n : Nat} {W : Nat → Int64} {T F : Nat → Int32} {len : Nat} {s : RS} {TX : Nat → Int32} {tc : Nat → Nat} {np : Nat} {P : Nat → Option Nat} {I : Nat → pkT} {rs : rvs} {K D : Nat → Int32} {c : Nat}
theorem MI_re {h0 h1 : ev_H} (M : MI G h0 h m ad sc A Wd) (hm : h1 m = h m) (ha : ∀ k, isR k = true → h1 (ad k) = h (ad k)) : MI G h1 h1 m ad sc A Wd :=
  ⟨hm.trans M.1, fun k hk => (ha k (isA_R hk)).trans (M.2.1 k hk), (ha 4 rfl).trans M.2.2.1, (ha 7 rfl).trans M.2.2.2.1, M.2.2.2.2.1, fun _ _ _ => rfl⟩
theorem MI_fo {h0 h1 : ev_H} (M : MI G h0 h m ad sc A Wd) (tg : τ m = 99 ∧ ∀ k, isR k = true → τ (ad k) = 99) (fo : fo99 τ h h1) : MI G h1 h1 m ad sc A Wd := MI_re M (fo m tg.1) (fun k hk => fo (ad k) (tg.2 k hk))
theorem LV_end {h1 h2 : ev_H} (H : CI G h1 τ x ru w t l rd tx ea aa pp rv q1 q2 q3 q4 q5 fa fb n W T F len s TX tc np P I rs K D c) (M : MI G h1 h2 m ad sc A Wd) (tg : τ m = 99 ∧ ∀ k, isR k = true → τ (ad k) = 99) (R : Rl n W T F len tc np I rs K D c sc A Wd) : LV G h2 x m := by
  refine ⟨τ, ru, w, t, l, rd, tx, ea, aa, pp, rv, q1, q2, q3, q4, q5, fa, fb, n, W, T, F, len, s, TX, tc, np, P, I, rs, K, D, c, ad, sc, A, Wd, CI_fr H (fun q hq => M.2.2.2.2.2 q (fun z => hq (z ▸ tg.1)) (fun k hk z => hq (z ▸ tg.2 k hk))), MI_b M, tg, R⟩
theorem Rl_sc (R : Rl n W T F len tc np I rs K D c sc A Wd) (h1 : sc' 1 = sc 1) (h2 : sc' 2 = sc 2) (h3 : sc' 3 = sc 3) (h9 : sc' 9 = sc 9) (h28 : sc' 28 = sc 28) : Rl n W T F len tc np I rs K D c sc' A Wd := by
  unfold Rl
  rw [h1, h2, h3, h9, h28]
  exact R
theorem Rl_0 (R : Rl n W T F len tc np I rs K D c sc A Wd) : Rl n W T F len tc np I rs K D c (va_up sc 0 0) A Wd := Rl_sc R rfl rfl rfl rfl rfl
theorem PF_cg {p n' N : Nat} {B : Nat → Int64} {C : Nat → Nat} {R : List Int32} (h : PF A p n' B C N R) (e10 : A' 10 p = A 10 p) (e12 : A' 12 p = A 12 p) (e11 : ∀ k, k < 30 → A' 11 (30 * p + k) = A 11 (30 * p + k)) (e13 : ∀ k, k < 20 → A' 13 (20 * p + k) = A 13 (20 * p + k)) : PF A' p n' B C N R := by
  obtain ⟨h1, h2, h3, h4, h5, h6, h7, h8⟩ := h
  exact ⟨h1, h2, h3, fun k hk => ⟨(h4 k hk).1, (e11 k (by omega)).trans (h4 k hk).2⟩, h5, fun i hi => ⟨(e13 i (by have := h2.1; omega)).trans (h6 i hi).1, (h6 i hi).2⟩, e10.trans h7, e12.trans h8⟩
theorem PK_cg {p : Nat} {y : pkT} (h : PK A p y) (e : ∀ k, 10 ≤ k → k ≤ 17 → A' k = A k) : PK A' p y := by
  obtain ⟨⟨C, N, R, hP⟩, ⟨u1, u2⟩, v⟩ := h
  refine ⟨⟨C, N, R, PF_cg hP (by rw [e 10 (by omega) (by omega)]) (by rw [e 12 (by omega) (by omega)]) (fun k _ => by rw [e 11 (by omega) (by omega)]) (fun k _ => by rw [e 13 (by omega) (by omega)])⟩, ⟨by rw [e 14 (by omega) (by omega)]; exact u1, fun k hk => ?_⟩, by rw [e 17 (by omega) (by omega)]; exact v⟩
  rw [e 15 (by omega) (by omega), e 16 (by omega) (by omega)]
  exact u2 k hk
theorem PZ_cg {p : Nat} (h : PZ A p) (e : ∀ k, 10 ≤ k → k ≤ 17 → A' k = A k) : PZ A' p := by
  unfold PZ
  rw [e 10 (by omega) (by omega), e 12 (by omega) (by omega), e 14 (by omega) (by omega), e 17 (by omega) (by omega)]
  exact h
/-- what the reference needs of its packages -/
def pmf (A : Nat → Nat → Int32) (p : Nat) : Nat := (A 10 p).toNatClampNeg
def cmf (A : Nat → Nat → Int32) (p : Nat) : Nat := (A 12 p).toNatClampNeg
def pcf (A : Nat → Nat → Int32) (p k : Nat) : Nat := (A 11 (30 * p + k)).toNatClampNeg
def umf (A : Nat → Nat → Int32) (p : Nat) : Nat := (A 14 p).toNatClampNeg
theorem PF_n {p n' N : Nat} {B : Nat → Int64} {C : Nat → Nat} {R : List Int32} (h : PF A p n' B C N R) : pmf A p = N ∧ cmf A p = R.length := by
  obtain ⟨h1, h2, h3, h4, h5, h6, h7, h8⟩ := h
  unfold pmf cmf
  rw [h7, h8, nI_clamp (by omega), nI_clamp (by have := h2.1; omega)]
  exact ⟨rfl, rfl⟩
theorem Rl_MP (R : Rl n W T F len tc np I rs K D c sc A Wd) : MP A (pmf A) (cmf A) (pcf A) := by
  obtain ⟨-, -, -, ⟨-, r1, r2⟩, -⟩ := R
  intro p hp
  rcases Nat.lt_or_ge p np with z | z
  · obtain ⟨⟨C, N, R, hP⟩, -⟩ := r1 p z
    obtain ⟨e1, e2⟩ := PF_n hP
    obtain ⟨h1, h2, h3, h4, h5, h6, h7, h8⟩ := hP
    rw [e1, e2]
    refine ⟨⟨h7, h3⟩, ⟨h8, h2.1⟩, fun k hk => ?_⟩
    unfold pcf
    rw [(h4 k hk).2, nI_clamp (by have := (h4 k hk).1; omega)]
    exact ⟨rfl, (h4 k hk).1⟩
  · obtain ⟨g1, g2, -⟩ := r2 p z hp
    have e1 : pmf A p = 0 := by unfold pmf; rw [g1]; rfl
    have e2 : cmf A p = 0 := by unfold cmf; rw [g2]; rfl
    rw [e1, e2]
    exact ⟨⟨g1, by omega⟩, ⟨g2, by omega⟩, fun k hk => by omega⟩
theorem Rl_MU (H : CI G h τ x ru w t l rd tx ea aa pp rv q1 q2 q3 q4 q5 fa fb n W T F len s TX tc np P I rs K D c) (R : Rl n W T F len tc np I rs K D c sc A Wd) : MU A np (umf A) ∧ ∀ p, p < np → umf A p = (I p).2.2.1.1 := by
  obtain ⟨-, -, -, ⟨-, r1, r2⟩, -⟩ := R
  obtain ⟨-, -, -, ⟨-, p2⟩, -⟩ := H
  have e : ∀ p, p < np → umf A p = (I p).2.2.1.1 := fun p hp => by
    obtain ⟨-, ⟨u1, -⟩, -⟩ := r1 p hp
    have := (p2 p hp).2.2.2.2.2.2.2.2.1
    unfold umf
    rw [u1, nI_clamp (by omega)]
  refine ⟨fun p hp => ?_, e⟩
  rcases Nat.lt_or_ge p np with z | z
  · obtain ⟨-, ⟨u1, u2⟩, -⟩ := r1 p z
    obtain ⟨-, -, -, -, -, -, -, k1, k2⟩ := (p2 p z).2
    rw [e p z]
    refine ⟨⟨u1, k1⟩, fun _ k hk => ?_⟩
    obtain ⟨a, b, g1, g2, g3, g4⟩ := k2 k hk
    exact ⟨a, b, g1, g2, (u2 k hk).1.trans g3, (u2 k hk).2.trans g4⟩
  · obtain ⟨-, -, g1, -⟩ := r2 p z hp
    have e0 : umf A p = 0 := by unfold umf; rw [g1]; rfl
    rw [e0]
    exact ⟨⟨g1, by omega⟩, fun hq => by omega⟩
/-- arrays that no relation of packages, rules or texts speaks of -/
theorem Rl_A (R : Rl n W T F len tc np I rs K D c sc A Wd) (e : ∀ k, k < 18 → A' k = A k) (e2 : ∀ k, 29 ≤ k → A' k = A k) : Rl n W T F len tc np I rs K D c sc A' Wd := by
  obtain ⟨r1, r2, r3, ⟨r4, r5, r6⟩, r7, r8⟩ := R
  refine ⟨r1, ?_, ⟨r3.1, ?_⟩, ⟨r4, fun p hp => PK_cg (r5 p hp) (fun k _ hk => e k (by omega)), fun p hp hp2 => PZ_cg (r6 p hp hp2) (fun k _ hk => e k (by omega))⟩, r7, ?_⟩
  · unfold RuR
    rw [e 5 (by omega), e 6 (by omega), e 7 (by omega)]
    exact r2
  · unfold mtx
    rw [e 8 (by omega)]
    exact r3.2
  · rw [e2 29 (by omega), e2 30 (by omega), e2 33 (by omega), e2 31 (by omega), e2 32 (by omega)]
    exact r8
def mcell (m : Nat) (h : ev_H) : Prop := ∃ fs, h m = some (.inr (6, fs))
end LVS
