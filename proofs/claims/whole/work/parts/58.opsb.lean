section OPB
variable {G : ev_G} {h : ev_H} {x m : Nat}
theorem two_uses {i j y : Int32} (V : LV G h x m) : Rn G M_lr_uses 1 0 0 [.ref x, .int i, .int j, .int y] h (ev_qi fun v h1 => mcell m h1 ∧ Rn G M_mo_uses 1 0 0 [.ref m, .int i, .int j, .int y] h1 (ev_qi fun v2 h2 => v2 = v ∧ LV G h2 x m)) := by
  obtain ⟨τ, ru, w, t, l, rd, tx, ea, aa, pp, rv, q1, q2, q3, q4, q5, fa, fb, n, W, T, F, len, s, TX, tc, np, P, I, rs, K, D, c, ad, sc, A, Wd, H, MM, tg, R⟩ := V
  have hnp := H.1.2.2
  have hpk := H.2.2.2.1.2
  refine Rn_mono ?_ (r_lr_uses H)
  rintro _ h1 ⟨v, rfl, fo, hq⟩
  have M1 := MI_fo MM tg fo
  obtain ⟨hMU, hum⟩ := Rl_MU H R
  obtain ⟨r1, r2, r3, ⟨r4, r4a, r4b⟩, r5, r6⟩ := id R
  refine ⟨v, rfl, ⟨_, M1.1⟩, Rn_mono ?_ (r_mo_uses M1 r4 hnp (fun p hp => (hMU p hp).1))⟩
  rintro _ h2 ⟨v2, rfl, hq2⟩
  refine ⟨v2, rfl, ?_⟩
  have heq : ∀ p, p < np → mhas A p (umf A p) j y = hasUse (I p).2.2.1 j y := by
    intro p hp
    obtain ⟨-, ⟨u1, u2⟩, -⟩ := r4a p hp
    unfold mhas hasUse
    rw [hum p hp]
    exact any_cg (fun k hk => by rw [(u2 k hk).1, (u2 k hk).2])
  rcases hq with ⟨p, p', k, hp, hp', hk, e1, e2, e3, e4, e5, e, H1⟩ | ⟨e1, e, H1⟩
  · rcases hq2 with ⟨b, b', k', d1, d2, d3, d4, d5, d6, M2⟩ | ⟨d1, d6, M2⟩
    · rw [e1] at d1
      obtain rfl := Option.some.inj d1
      rw [hum p hp] at M2
      refine ⟨d6.trans e.symm, LV_end H1 M2 tg ⟨r1, r2, r3, ⟨r4, fun p0 hp0 => ?_, fun p0 hp0 hp1 => ?_⟩, r5, r6⟩⟩
      · by_cases ep : p0 = p
        · subst ep
          rw [va_up_self]
          obtain ⟨⟨C, N, RR, hP⟩, ⟨u1, u2⟩, u3⟩ := r4a p0 hp0
          refine ⟨⟨C, N, RR, hP⟩, ⟨pk_us, fun k1 hk1 => ?_⟩, u3⟩
          show upd (A 15) (6 * p0 + (I p0).2.2.1.1) j (6 * p0 + k1) = upd (I p0).2.2.1.2.1 (I p0).2.2.1.1 j k1 ∧ upd (A 16) (6 * p0 + (I p0).2.2.1.1) y (6 * p0 + k1) = upd (I p0).2.2.1.2.2 (I p0).2.2.1.1 y k1
          have hk1 : k1 < (I p0).2.2.1.1 + 1 := hk1
          by_cases ek : k1 = (I p0).2.2.1.1
          · rw [ek, pk_us, pk_us, pk_us, pk_us]; exact ⟨rfl, rfl⟩
          · rw [upd_ne (by omega), upd_ne ek, upd_ne (by omega), upd_ne ek]; exact u2 k1 (by omega)
        · rw [va_up_ne _ _ ep]
          obtain ⟨⟨C, N, RR, hP⟩, ⟨u1, u2⟩, u3⟩ := r4a p0 hp0
          have hu0 := (hpk p0 hp0).2.2.2.2.2.2.2.2.1
          refine ⟨⟨C, N, RR, hP⟩, ⟨?_, fun k1 hk1 => ?_⟩, u3⟩
          · show upd (A 14) p (nI ((I p).2.2.1.1 + 1)) p0 = _
            rw [upd_ne ep]; exact u1
          · show upd (A 15) (6 * p + (I p).2.2.1.1) j (6 * p0 + k1) = _ ∧ upd (A 16) (6 * p + (I p).2.2.1.1) y (6 * p0 + k1) = _
            rw [upd_ne (by omega), upd_ne (by omega)]; exact u2 k1 hk1
      · obtain ⟨z1, z2, z3, z4⟩ := r4b p0 hp0 hp1
        refine ⟨z1, z2, ?_, z4⟩
        show upd (A 14) p (nI ((I p).2.2.1.1 + 1)) p0 = _
        rw [upd_ne (by omega)]; exact z3
    · exfalso
      rcases d1 with d1 | d1 | d1 | ⟨b, d1, d2⟩
      · rw [e1] at d1; cases d1
      · rw [e2] at d1; cases d1
      · rw [e3] at d1; cases d1
      · rw [e1] at d1
        obtain rfl := Option.some.inj d1
        rw [heq p hp, hum p hp] at d2
        rcases d2 with d2 | d2
        · omega
        · rw [e5] at d2; cases d2
  · rcases hq2 with ⟨b, b', k', d1, d2, d3, d4, d5, d6, M2⟩ | ⟨d1, d6, M2⟩
    · exfalso
      rcases e1 with e1 | e1 | e1 | ⟨p, hp, e1, e2⟩
      · rw [e1] at d1; cases d1
      · rw [e1] at d2; cases d2
      · rw [e1] at d3; cases d3
      · rw [e1] at d1
        obtain rfl := Option.some.inj d1
        rw [hum p hp] at d4
        rw [heq p hp] at d5
        rcases e2 with e2 | e2
        · omega
        · rw [e2] at d5; cases d5
    · exact ⟨d6.trans e.symm, LV_end H1 M2 tg (Rl_0 R)⟩
theorem two_grant {i y : Int32} (V : LV G h x m) : Rn G M_lr_grant 1 0 0 [.ref x, .int i, .int y] h (ev_qi fun v h1 => mcell m h1 ∧ Rn G M_mo_grant 1 0 0 [.ref m, .int i, .int y] h1 (ev_qi fun v2 h2 => v2 = v ∧ LV G h2 x m)) := by
  obtain ⟨τ, ru, w, t, l, rd, tx, ea, aa, pp, rv, q1, q2, q3, q4, q5, fa, fb, n, W, T, F, len, s, TX, tc, np, P, I, rs, K, D, c, ad, sc, A, Wd, H, MM, tg, R⟩ := V
  have hnp := H.1.2.2
  refine Rn_mono ?_ (r_lr_grant H)
  rintro _ h1 ⟨v, rfl, fo, hq⟩
  have M1 := MI_fo MM tg fo
  obtain ⟨r1, r2, r3, ⟨r4, r4a, r4b⟩, r5, r6⟩ := id R
  refine ⟨v, rfl, ⟨_, M1.1⟩, Rn_mono ?_ (r_mo_grant M1 r4 hnp)⟩
  rintro _ h2 ⟨v2, rfl, hq2⟩
  refine ⟨v2, rfl, ?_⟩
  rcases hq with ⟨p, hp, e1, e2, e, H1⟩ | ⟨e1, e, H1⟩
  · rcases hq2 with ⟨p', d1, d2, d6, M2⟩ | ⟨d1, d6, M2⟩
    · rw [e1] at d1
      obtain rfl := Option.some.inj d1
      refine ⟨d6.trans e.symm, LV_end H1 M2 tg ⟨r1, r2, r3, ⟨r4, fun p0 hp0 => ?_, fun p0 hp0 hp1 => ?_⟩, r5, r6⟩⟩
      · by_cases ep : p0 = p
        · subst ep
          rw [va_up_self]
          obtain ⟨hP, hu, u3⟩ := r4a p0 hp0
          exact ⟨hP, hu, pk_us⟩
        · rw [va_up_ne _ _ ep]
          obtain ⟨hP, hu, u3⟩ := r4a p0 hp0
          refine ⟨hP, hu, ?_⟩
          show upd (A 17) p y p0 = _
          rw [upd_ne ep]; exact u3
      · obtain ⟨z1, z2, z3, z4⟩ := r4b p0 hp0 hp1
        refine ⟨z1, z2, z3, ?_⟩
        show upd (A 17) p y p0 = _
        rw [upd_ne (by omega)]; exact z4
    · exfalso
      rcases d1 with d1 | d1
      · rw [e1] at d1; cases d1
      · exact absurd e2 (Int32.not_le.mpr d1)
  · rcases hq2 with ⟨p', d1, d2, d6, M2⟩ | ⟨d1, d6, M2⟩
    · exfalso
      rcases e1 with e1 | e1
      · rw [e1] at d1; cases d1
      · exact absurd d2 (Int32.not_le.mpr e1)
    · exact ⟨d6.trans e.symm, LV_end H1 M2 tg (Rl_0 R)⟩
theorem two_tick {y : Int32} (V : LV G h x m) : Rn G M_lr_tick 0 0 0 [.ref x, .int y] h (ev_qi fun v h1 => mcell m h1 ∧ Rn G M_mo_tick 0 0 0 [.ref m, .int y] h1 (ev_qi fun v2 h2 => v2 = v ∧ LV G h2 x m)) := by
  obtain ⟨τ, ru, w, t, l, rd, tx, ea, aa, pp, rv, q1, q2, q3, q4, q5, fa, fb, n, W, T, F, len, s, TX, tc, np, P, I, rs, K, D, c, ad, sc, A, Wd, H, MM, tg, R⟩ := V
  have hc := H.1.2.1
  refine Rn_mono ?_ (r_lr_tick H)
  rintro _ h1 ⟨v, rfl, fo, hq⟩
  have M1 := MI_fo MM tg fo
  obtain ⟨r1, r2, r3, r4, r5, r6⟩ := id R
  refine ⟨v, rfl, ⟨_, M1.1⟩, Rn_mono ?_ (r_mo_tick M1 r5 hc)⟩
  rintro _ h2 ⟨v2, rfl, hq2⟩
  refine ⟨v2, rfl, ?_⟩
  rcases hq with ⟨k, e1, e, H1⟩ | ⟨e1, e, H1⟩
  · rcases hq2 with ⟨k', d1, d6, M2⟩ | ⟨d1, d6, M2⟩
    · rw [e1] at d1
      obtain rfl := Option.some.inj d1
      exact ⟨d6.trans e.symm, LV_end H1 M2 tg ⟨r1, r2, r3, r4, rfl, r6⟩⟩
    · rw [e1] at d1; cases d1
  · rcases hq2 with ⟨k', d1, d6, M2⟩ | ⟨d1, d6, M2⟩
    · rw [e1] at d1; cases d1
    · exact ⟨d6.trans e.symm, LV_end H1 M2 tg (Rl_0 R)⟩
theorem two_entry {i what : Int32} (V : LV G h x m) : Rn G M_lr_entry 1 0 0 [.ref x, .int i, .int what] h (ev_qi fun v h1 => mcell m h1 ∧ Rn G M_mo_entry 0 0 0 [.ref m, .int i, .int what] h1 (ev_qi fun v2 h2 => v2 = v ∧ LV G h2 x m)) := by
  obtain ⟨τ, ru, w, t, l, rd, tx, ea, aa, pp, rv, q1, q2, q3, q4, q5, fa, fb, n, W, T, F, len, s, TX, tc, np, P, I, rs, K, D, c, ad, sc, A, Wd, H, MM, tg, R⟩ := V
  have hrs := H.2.2.2.2.1.2.2.2.2.2.2.2
  refine Rn_mono ?_ (r_lr_entry H)
  rintro _ h1 ⟨v, rfl, rfl, hq⟩
  obtain ⟨r1, r2, r3, r4, r5, r6, r7, r8, r9, r10⟩ := id R
  refine ⟨v, rfl, ⟨_, MM.1⟩, Rn_mono ?_ (r_mo_entry MM r6 hrs.1)⟩
  rintro _ h2 ⟨v2, rfl, M2, hq2⟩
  refine ⟨v2, rfl, ?_, LV_end H M2 tg (Rl_0 R)⟩
  have h48 := hrs.1
  rcases hq with ⟨j, e1, e2, e⟩ | ⟨e1, e⟩
  · rcases hq2 with ⟨j', d1, d2, d⟩ | ⟨d1, d⟩
    · rw [e1, nI_eq (by omega) (by omega)] at d1
      subst d1
      rw [r7, r8, r9, (r10 j e2).1, (r10 j e2).2] at d
      have w4 : ∀ q : Nat, q ≤ 4 → ¬ (nI q < 0 ∨ 4 < nI q) := fun q hq z => z.elim (nI_pos (by omega)) (fun y => by
        have : nI 4 < nI q := y
        rw [nI_ltI (by omega) (by omega)] at this
        omega)
      rcases e with ⟨a, b⟩ | ⟨a, b⟩ | ⟨a, b⟩ | ⟨a, b⟩ | ⟨a, b⟩ | ⟨a, b⟩ <;> rcases d with ⟨a', b'⟩ | ⟨a', b'⟩ | ⟨a', b'⟩ | ⟨a', b'⟩ | ⟨a', b'⟩ | ⟨a', b'⟩
      all_goals first
        | exact b'.trans b.symm
        | (exfalso; rw [a] at a'; exact absurd a' (by decide))
        | (exfalso; rw [a'] at a; exact absurd a (by decide))
    · exfalso
      rw [e1] at d1
      rcases d1 with d1 | d1
      · exact absurd d1 (nI_pos (by omega))
      · exact absurd d1 (nI_ge e2 (by omega))
  · rcases hq2 with ⟨j', d1, d2, d⟩ | ⟨d1, d⟩
    · exfalso
      rw [d1] at e1
      rcases e1 with e1 | e1
      · exact absurd e1 (nI_pos (by omega))
      · exact absurd e1 (nI_ge d2 (by omega))
    · exact d.trans e.symm
theorem orf_cg {D D' : Nat → Int32} : ∀ n, (∀ q, q < n → D q = D' q) → orf D n = orf D' n := by
  intro n
  induction n with
  | zero => exact fun _ => rfl
  | succ n ih =>
    intro hh
    show orf D n ||| D n = orf D' n ||| D' n
    rw [ih (fun q hq => hh q (by omega)), hh n (by omega)]
theorem two_all (V : LV G h x m) : Rn G M_lr_all 1 0 0 [.ref x] h (ev_qi fun v h1 => mcell m h1 ∧ Rn G M_mo_all 0 0 0 [.ref m] h1 (ev_qi fun v2 h2 => v2 = v ∧ LV G h2 x m)) := by
  obtain ⟨τ, ru, w, t, l, rd, tx, ea, aa, pp, rv, q1, q2, q3, q4, q5, fa, fb, n, W, T, F, len, s, TX, tc, np, P, I, rs, K, D, c, ad, sc, A, Wd, H, MM, tg, R⟩ := V
  have hrs := H.2.2.2.2.1.2.2.2.2.2.2.2
  refine Rn_mono ?_ (r_lr_all H)
  rintro _ h1 ⟨v, rfl, rfl, hq⟩
  obtain ⟨r1, r2, r3, r4, r5, r6, r7, r8, r9, r10⟩ := id R
  refine ⟨v, rfl, ⟨_, MM.1⟩, Rn_mono ?_ (r_mo_all MM r6 hrs.1)⟩
  rintro _ h2 ⟨v2, rfl, M2, hq2⟩
  refine ⟨v2, rfl, ?_, LV_end H M2 tg (Rl_0 R)⟩
  rw [hq2, hq]
  exact orf_cg _ (fun q hq => (r10 q hq).2)
theorem two_material {i : Int32} (V : LV G h x m) : Rn G M_lr_material 2 0 0 [.ref x, .int i] h (ev_qi fun v h1 => mcell m h1 ∧ Rn G M_mo_material 0 0 0 [.ref m, .int i] h1 (ev_qi fun v2 h2 => v2 = v ∧ LV G h2 x m)) := by
  obtain ⟨τ, ru, w, t, l, rd, tx, ea, aa, pp, rv, q1, q2, q3, q4, q5, fa, fb, n, W, T, F, len, s, TX, tc, np, P, I, rs, K, D, c, ad, sc, A, Wd, H, MM, tg, R⟩ := V
  have hrs := H.2.2.2.2.1.2.2.2.2.2.2.2
  refine Rn_mono ?_ (r_lr_material H)
  rintro _ h1 ⟨v, rfl, rfl, hq⟩
  obtain ⟨r1, r2, r3, r4, r5, r6, r7, r8, r9, r10⟩ := id R
  refine ⟨v, rfl, ⟨_, MM.1⟩, Rn_mono ?_ (r_mo_material MM r6 hrs.1)⟩
  rintro _ h2 ⟨v2, rfl, M2, hq2⟩
  refine ⟨v2, rfl, ?_, LV_end H M2 tg (Rl_0 R)⟩
  rw [hq2, hq, r7]
theorem two_found {y : Int64} {o : Int32} (V : LV G h x m) : Rn G M_lr_found 2 0 0 [.ref x, .long y, .int o] h (ev_qi fun v h1 => mcell m h1 ∧ Rn G M_mo_found 1 0 0 [.ref m, .long y, .int o] h1 (ev_qi fun v2 h2 => v2 = v ∧ LV G h2 x m)) := by
  obtain ⟨τ, ru, w, t, l, rd, tx, ea, aa, pp, rv, q1, q2, q3, q4, q5, fa, fb, n, W, T, F, len, s, TX, tc, np, P, I, rs, K, D, c, ad, sc, A, Wd, H, MM, tg, R⟩ := V
  have u5 := H.2.1.2.2.2.2
  refine Rn_mono ?_ (r_lr_found H)
  rintro _ h1 ⟨v, rfl, rfl, hq⟩
  obtain ⟨⟨a1, a2⟩, -⟩ := id R
  refine ⟨v, rfl, ⟨_, MM.1⟩, Rn_mono ?_ (r_mo_found MM a1 u5)⟩
  rintro _ h2 ⟨v2, rfl, M2, hq2⟩
  refine ⟨v2, rfl, ?_, LV_end H M2 tg (Rl_0 R)⟩
  obtain ⟨e1, e2⟩ := fnd_eq W y u5
  rw [hq2, hq, a2, e1, e2]
theorem two_score {y : Int64} {i : Int32} (V : LV G h x m) : Rn G M_lr_score 2 0 0 [.ref x, .long y, .int i] h (ev_qi fun v h1 => mcell m h1 ∧ Rn G M_mo_score 1 0 0 [.ref m, .long y, .int i] h1 (ev_qi fun v2 h2 => v2 = v ∧ LV G h2 x m)) := by
  obtain ⟨τ, ru, w, t, l, rd, tx, ea, aa, pp, rv, q1, q2, q3, q4, q5, fa, fb, n, W, T, F, len, s, TX, tc, np, P, I, rs, K, D, c, ad, sc, A, Wd, H, MM, tg, R⟩ := V
  have u5 := H.2.1.2.2.2.2
  refine Rn_mono ?_ (r_lr_score H)
  rintro _ h1 ⟨v, rfl, rfl, hq⟩
  obtain ⟨⟨a1, a2⟩, -⟩ := id R
  refine ⟨v, rfl, ⟨_, MM.1⟩, Rn_mono ?_ (r_mo_score MM a1 u5)⟩
  rintro _ h2 ⟨v2, rfl, M2, hq2⟩
  refine ⟨v2, rfl, ?_, LV_end H M2 tg (Rl_0 R)⟩
  rcases hq with ⟨j, hj, e1, e⟩ | ⟨e1, e⟩
  · rcases hq2 with ⟨j', d1, d⟩ | ⟨d1, d⟩
    · rw [e1] at d1
      obtain rfl := Option.some.inj d1
      rw [d, e, a2, msc_eq]
    · rw [e1] at d1; cases d1
  · rcases hq2 with ⟨j', d1, d⟩ | ⟨d1, d⟩
    · rw [e1] at d1; cases d1
    · exact d.trans e.symm
theorem ix_lt {i : Int32} {n j : Nat} (hn : n < 2 ^ 31) (h : ixv i n = some j) : j < n := by
  rcases ix_cases i hn with ⟨j', hj, -, e⟩ | ⟨-, e⟩
  · rw [h] at e; obtain rfl := Option.some.inj e; exact hj
  · rw [h] at e; cases e
theorem two_review {i y : Int32} (V : LV G h x m) : Rn G M_lr_review 5 0 0 [.ref x, .int i, .int y] h (ev_qi fun v h1 => mcell m h1 ∧ Rn G M_mo_review 5 0 0 [.ref m, .int i, .int y] h1 (ev_qi fun v2 h2 => v2 = v ∧ LV G h2 x m)) := by
  obtain ⟨τ, ru, w, t, l, rd, tx, ea, aa, pp, rv, q1, q2, q3, q4, q5, fa, fb, n, W, T, F, len, s, TX, tc, np, P, I, rs, K, D, c, ad, sc, A, Wd, H, MM, tg, R⟩ := V
  have hnp := H.1.2.2
  have hpk := H.2.2.2.1.2
  refine Rn_mono ?_ (r_lr_review H)
  rintro _ h1 ⟨v, rfl, fo, hq⟩
  have M1 := MI_fo MM tg fo
  obtain ⟨hMU, hum⟩ := Rl_MU H R
  obtain ⟨r1, r2, r3, ⟨r4, r4a, r4b⟩, r5, r6, r7, r8, r9, r10⟩ := id R
  refine ⟨v, rfl, ⟨_, M1.1⟩, Rn_mono ?_ (r_mo_review M1 r4 hnp (Rl_MP R) hMU)⟩
  rintro _ h2 ⟨v2, rfl, hq2⟩
  refine ⟨v2, rfl, ?_⟩
  rcases hq with ⟨p, k, rs', hp, hk, e1, e2, e3, e4, H1⟩ | ⟨e1, e, H1⟩
  · rcases hq2 with ⟨p', k', rs2, A', d1, d2, d3, M2, d4, d5, d6, d7, d8, d9⟩ | ⟨d1, -, -⟩
    · rw [e1] at d1
      rw [e2] at d2
      obtain rfl := Option.some.inj d1
      obtain rfl := Option.some.inj d2
      have ok0 : rv_ok np (rv_add (0, rs.2.1, rs.2.2.1, rs.2.2.2) (nI p) (nI k) (-1)) := rv_add_ok ⟨Nat.zero_le _, fun i hi => absurd hi (Nat.not_lt_zero _)⟩ hp hk
      have ers : rs' = rs2 := by
        rw [e3, d3, r7, r8, r9]
        refine (rv_out_cg ok0 hnp (fun q hq => ?_) (fun q hq k hk => ?_) 48).1
        · obtain ⟨-, ⟨u1, u2⟩, -⟩ := r4a q hq
          refine ⟨(hum q hq).symm, fun k hk => ⟨(u2 k hk).1.symm, (u2 k hk).2.symm⟩⟩
        · exact (hpk q hq).2.2.2.2.2.2.2.2.2 k hk
      subst ers
      have eent : ∀ q, q < rs'.1 → ent I rs' T F (nI c) q = mk2 A (sc 1) (pmf A) (cmf A) (rs'.2.1 q).toNatClampNeg (rs'.2.2.1 q).toNatClampNeg := by
        intro q hq
        obtain ⟨a, b, g1, g2, g3, g4⟩ := d7.2 q hq
        unfold ent
        rw [g3, g4, nI_clamp (by omega), nI_clamp (by omega), r5]
        obtain ⟨⟨C, N, RR, hP⟩, -, hge⟩ := r4a a g1
        obtain ⟨n1, n2⟩ := PF_n hP
        exact jk_eq r2 g2 hP n1 n2 hge
      obtain ⟨f1, f2, f3, -⟩ := mrv_29 d4
      have ek : ∀ q, q < rs'.1 → A' 31 q = (ent I rs' T F (nI c) q).1 ∧ A' 32 q = (ent I rs' T F (nI c) q).2 := by
        intro q hq
        rw [eent q hq]
        have := d6 q hq
        rw [f1, f2] at this
        exact this
      refine ⟨?_, LV_end H1 M2 tg ⟨r1, ?_, ⟨r3.1, ?_⟩, ⟨r4, fun p hp => PK_cg (r4a p hp) (fun k _ hk => d5 k (by omega)), fun p hp hp2 => PZ_cg (r4b p hp hp2) (fun k _ hk => d5 k (by omega))⟩, r5, rfl, f1, f2, f3, fun q hq => ?_⟩⟩
      · rw [d9, e4]
        congr 1
        exact sumb_cg _ (fun q hq => by rw [(ek q hq).1])
      · unfold RuR
        rw [d5 5 (by omega), d5 6 (by omega), d5 7 (by omega)]
        exact r2
      · unfold mtx
        rw [d5 8 (by omega)]
        exact r3.2
      · rw [kf_at _ _ hq, kf_at _ _ hq]
        exact ek q hq
    · exfalso
      rcases d1 with d1 | d1
      · rw [e1] at d1; cases d1
      · rw [e2] at d1; cases d1
  · rcases hq2 with ⟨p', k', rs2, A', d1, d2, -⟩ | ⟨d1, d, M2⟩
    · exfalso
      rcases e1 with e1 | e1
      · rw [e1] at d1; cases d1
      · rw [e1] at d2; cases d2
    · exact ⟨d.trans e.symm, LV_end H1 M2 tg (Rl_0 R)⟩
theorem two_express {i : Int32} (V : LV G h x m) : Rn G M_lr_express 7 0 0 [.ref x, .int i] h (ev_qi fun v h1 => mcell m h1 ∧ Rn G M_mo_express 3 0 0 [.ref m, .int i] h1 (ev_qi fun v2 h2 => v2 = v ∧ LV G h2 x m)) := by
  obtain ⟨τ, ru, w, t, l, rd, tx, ea, aa, pp, rv, q1, q2, q3, q4, q5, fa, fb, n, W, T, F, len, s, TX, tc, np, P, I, rs, K, D, c, ad, sc, A, Wd, H, MM, tg, R⟩ := V
  have hnp := H.1.2.2
  have hlen := H.2.2.1.2.2.1
  have u5 := H.2.1.2.2.2.2
  refine Rn_mono ?_ (r_lr_express H)
  rintro _ h1 ⟨v, rfl, fo, s', hq⟩
  have M1 := MI_fo MM tg fo
  obtain ⟨⟨a1, a2⟩, r2, ⟨b1, b2⟩, ⟨r4, r4a, r4b⟩, r5, r6, r7, r8, r9, r10⟩ := id R
  refine ⟨v, rfl, ⟨_, M1.1⟩, Rn_mono ?_ (r_mo_express (sx := s) M1 b1 hlen b2 a1 u5 r4 hnp)⟩
  rintro _ h2 ⟨v2, rfl, sc', A', M2, ⟨g9, g1, g2, g3, g28⟩, hq2⟩
  refine ⟨v2, rfl, ?_⟩
  have R0 : ag0 A A' → Rl n W T F 0 tc np I rs K D c sc' A' Wd := by
    intro hg
    have e : ∀ k, k < 18 ∨ 29 ≤ k → A' k = A k := fun k hk => hg k (by omega) (by omega) (by omega) (by omega) (by omega)
    have := Rl_A (A' := A') R (fun k hk => e k (by omega)) (fun k hk => e k (by omega))
    obtain ⟨⟨y1, y2⟩, y3, -, ⟨y4, y5⟩, y6, y7, y8⟩ := this
    exact ⟨⟨g2.trans y1, y2⟩, y3, ⟨g9, fun i hi => absurd hi (Nat.not_lt_zero _)⟩, ⟨g3.trans y4, y5⟩, g1.trans y6, g28.trans y7, y8⟩
  rcases hq with ⟨e1, e, H1⟩ | ⟨p, k, hp, e1, e2, e3, e, H1⟩ | ⟨p, hp, e1, e2, e3, e, H1⟩ | ⟨p, n', B, hp, e1, e2, e3, e4, e, H1⟩
  · rcases hq2 with ⟨d1, d, hg⟩ | ⟨p', k', d1, -⟩ | ⟨p', s2, d1, -⟩ | ⟨p', s2, cn, C, RR, d1, -⟩
    · exact ⟨d.trans e.symm, LV_end H1 M2 tg (R0 hg)⟩
    all_goals (rw [e1] at d1; cases d1)
  · rcases hq2 with ⟨d1, d, hg⟩ | ⟨p', k', d1, d2, d3, d, hg⟩ | ⟨p', s2, d1, d2, -⟩ | ⟨p', s2, cn, C, RR, d1, d2, -⟩
    · rw [e1] at d1; cases d1
    · rw [e2] at d2
      obtain rfl := Sum.inl.inj d2
      exact ⟨d.trans e.symm, LV_end H1 M2 tg (R0 hg)⟩
    all_goals (rw [e2] at d2; cases d2)
  · rcases hq2 with ⟨d1, d, hg⟩ | ⟨p', k', d1, d2, -⟩ | ⟨p', s2, d1, d2, d3, d, hg⟩ | ⟨p', s2, cn, C, RR, d1, d2, d3, -⟩
    · rw [e1] at d1; cases d1
    · rw [e2] at d2; cases d2
    · exact ⟨d.trans e.symm, LV_end H1 M2 tg (R0 hg)⟩
    · rw [e2] at d2
      obtain rfl := Sum.inr.inj d2
      exact absurd d3 e3
  · rcases hq2 with ⟨d1, d, hg⟩ | ⟨p', k', d1, d2, -⟩ | ⟨p', s2, d1, d2, d3, -⟩ | ⟨p', s2, cn, C, RR, d1, d2, d3, d4, d5, d6, d7, d8, d, f1, f2, f3, f4, f5, f6, f7, f8, f9⟩
    · rw [e1] at d1; cases d1
    · rw [e2] at d2; cases d2
    · rw [e2] at d2
      obtain rfl := Sum.inr.inj d2
      exact absurd e3 d3
    · rw [e2] at d2
      obtain rfl := Sum.inr.inj d2
      rw [e1] at d1
      obtain rfl := Option.some.inj d1
      have el : li n' B = mp C cn RR := by rw [e4, d4, List.take_of_length_le (by rw [List.length_map]; exact d5.1)]
      have en : n' = RR.length := by
        have := congrArg List.length el
        rw [li_len, List.length_map] at this
        exact this
      have ec : ∀ i, i < RR.length → c3 B i = ph C (gd RR i) cn := by
        intro i hi
        have := congrArg (fun L => L[i]?) el
        unfold li at this
        simp only [List.getElem?_map, List.getElem?_range (show i < n' by omega), List.getElem?_eq_getElem hi, Option.map_some, Option.some.injEq] at this
        rw [this, gd_at hi]
      have e30 : ∀ q k, k < 30 → q ≠ p → (30 * q + k < 30 * p ∨ 30 * p + 30 ≤ 30 * q + k) := fun q k hk hne => by omega
      have e20 : ∀ q k, k < 20 → q ≠ p → (20 * q + k < 20 * p ∨ 20 * p + 20 ≤ 20 * q + k) := fun q k hk hne => by omega
      refine ⟨by rw [d, e, en], LV_end H1 M2 tg ⟨⟨g2.trans a1, a2⟩, ?_, ⟨g9, fun i hi => absurd hi (Nat.not_lt_zero _)⟩, ⟨g3.trans r4, fun q hq => ?_, fun q hq hq2 => ?_⟩, g1.trans r5, g28.trans r6, ?_, ?_, ?_, ?_⟩⟩
      · unfold RuR
        rw [f1 5 (by omega), f1 6 (by omega), f1 7 (by omega)]
        exact r2
      · by_cases ep : q = p
        · subst ep
          rw [va_up_self]
          obtain ⟨-, ⟨u1, u2⟩, u3⟩ := r4a q hq
          refine ⟨⟨C, cn, RR, en, d5, d6, fun k hk => ⟨d7 k hk, f6 k hk⟩, d8, fun i hi => ⟨f8 i hi, ec i hi⟩, by rw [f4]; exact pk_us, by rw [f5]; exact pk_us⟩, ⟨by rw [f2 14 (by omega) (by omega)]; exact u1, fun k hk => ?_⟩, by rw [f2 17 (by omega) (by omega)]; exact u3⟩
          rw [f2 15 (by omega) (by omega), f2 16 (by omega) (by omega)]
          exact u2 k hk
        · rw [va_up_ne _ _ ep]
          obtain ⟨⟨C0, N0, R0', hP⟩, ⟨u1, u2⟩, u3⟩ := r4a q hq
          refine ⟨⟨C0, N0, R0', PF_cg hP (by rw [f4, upd_ne ep]) (by rw [f5, upd_ne ep]) (fun k hk => f7 _ (e30 q k hk ep)) (fun k hk => f9 _ (e20 q k hk ep))⟩, ⟨by rw [f2 14 (by omega) (by omega)]; exact u1, fun k hk => ?_⟩, by rw [f2 17 (by omega) (by omega)]; exact u3⟩
          rw [f2 15 (by omega) (by omega), f2 16 (by omega) (by omega)]
          exact u2 k hk
      · obtain ⟨z1, z2, z3, z4⟩ := r4b q hq hq2
        refine ⟨by rw [f4, upd_ne (by omega)]; exact z1, by rw [f5, upd_ne (by omega)]; exact z2, by rw [f2 14 (by omega) (by omega)]; exact z3, by rw [f2 17 (by omega) (by omega)]; exact z4⟩
      · rw [f3 29 (by omega)]; exact r7
      · rw [f3 30 (by omega)]; exact r8
      · rw [f3 33 (by omega)]; exact r9
      · rw [f3 31 (by omega), f3 32 (by omega)]; exact r10
end OPB

