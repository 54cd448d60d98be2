section OPA
variable {G : ev_G} {h : ev_H} {x m : Nat}
theorem LV_x (V : LV G h x m) : (∃ fs, h x = some (.inr (5, fs))) ∧ mcell m h := by
  obtain ⟨τ, ru, w, t, l, rd, tx, ea, aa, pp, rv, q1, q2, q3, q4, q5, fa, fb, n, W, T, F, len, s, TX, tc, np, P, I, rs, K, D, c, ad, sc, A, Wd, H, MM, tg, R⟩ := V
  exact ⟨⟨_, H.1.1⟩, ⟨_, MM.1⟩⟩
theorem two_licence {y : Int64} (V : LV G h x m) : Rn G M_lr_licence 1 0 0 [.ref x, .long y] h (ev_qi fun v h1 => mcell m h1 ∧ Rn G M_mo_licence 0 0 0 [.ref m, .long y] h1 (ev_qi fun v2 h2 => v2 = v ∧ LV G h2 x m)) := by
  obtain ⟨τ, ru, w, t, l, rd, tx, ea, aa, pp, rv, q1, q2, q3, q4, q5, fa, fb, n, W, T, F, len, s, TX, tc, np, P, I, rs, K, D, c, ad, sc, A, Wd, H, MM, tg, R⟩ := V
  have u5 := H.2.1.2.2.2.2
  refine Rn_mono ?_ (r_lr_licence H)
  rintro _ h1 ⟨v, rfl, fo, hq⟩
  have M1 := MI_fo MM tg fo
  obtain ⟨⟨a1, a2⟩, r2, r3, r4, r5, r6⟩ := id R
  refine ⟨v, rfl, ⟨_, M1.1⟩, Rn_mono ?_ (r_mo_licence M1 a1 u5)⟩
  rintro _ h2 ⟨v2, rfl, hq2⟩
  refine ⟨v2, rfl, ?_⟩
  rcases hq with ⟨z, e, H1⟩ | ⟨z, e, H1⟩
  · rcases hq2 with ⟨-, e2, M2⟩ | ⟨z2, -, -⟩
    · subst a2
      exact ⟨e2.trans e.symm, LV_end H1 M2 tg ⟨⟨rfl, rfl⟩, r2, r3, r4, r5, r6⟩⟩
    · exact absurd z z2
  · rcases hq2 with ⟨z2, -, -⟩ | ⟨-, e2, M2⟩
    · exact absurd z2 z
    · exact ⟨e2.trans e.symm, LV_end H1 M2 tg (Rl_0 R)⟩
theorem i32_3 {kd : Int32} (h1 : 0 ≤ kd) (h2 : kd ≤ 2) : kd = 0 ∨ kd = 1 ∨ kd = 2 := by
  obtain ⟨j, hj, rfl⟩ := nI_of2 (x := kd) (M := 2) (n := 2) (by decide) (Int32.not_lt.mpr h1) h2
  rcases (show j = 0 ∨ j = 1 ∨ j = 2 by omega) with rfl | rfl | rfl
  · exact Or.inl rfl
  · exact Or.inr (Or.inl rfl)
  · exact Or.inr (Or.inr rfl)
theorem ruleV_s {kd du z : Int32} (h : ruleV kd du = some z) : (0 ≤ kd ∧ kd ≤ 2 ∧ ¬ (kd = 1 ∧ du &&& 255 = 0)) ∧ rul kd (if kd = 1 then du &&& 255 else 0) z := by
  unfold ruleV at h
  by_cases h0 : kd = 0
  · subst h0
    rw [if_pos rfl] at h
    obtain rfl := Option.some.inj h
    exact ⟨⟨by decide, by decide, fun q => absurd q.1 (by decide)⟩, Or.inl ⟨rfl, by rw [if_neg (by decide)], rfl⟩⟩
  rw [if_neg h0] at h
  by_cases h1 : kd = 1
  · subst h1
    rw [if_pos rfl] at h
    by_cases hd : du &&& 255 = 0
    · rw [if_pos hd] at h; cases h
    · rw [if_neg hd] at h
      obtain rfl := Option.some.inj h
      obtain ⟨e, he, ee⟩ := pk_andE du (m := 255) 8 (by decide)
      refine ⟨⟨by decide, by decide, fun q => hd q.2⟩, Or.inr (Or.inl ⟨e, ?_, by omega, rfl, by rw [if_pos rfl]; exact ee, ee⟩)⟩
      rcases Nat.eq_zero_or_pos e with z | z
      · rw [z] at ee; exact absurd ee hd
      · omega
  rw [if_neg h1] at h
  by_cases h2 : kd = 2
  · subst h2
    rw [if_pos rfl] at h
    obtain rfl := Option.some.inj h
    exact ⟨⟨by decide, by decide, fun q => absurd q.1 (by decide)⟩, Or.inr (Or.inr ⟨rfl, by rw [if_neg (by decide)], rfl⟩)⟩
  · rw [if_neg h2] at h; cases h
theorem ruleV_n {kd du : Int32} (h : ruleV kd du = none) : ¬ (0 ≤ kd ∧ kd ≤ 2 ∧ ¬ (kd = 1 ∧ du &&& 255 = 0)) := by
  rintro ⟨a, b, c⟩
  unfold ruleV at h
  rcases i32_3 a b with rfl | rfl | rfl
  · rw [if_pos rfl] at h; cases h
  · rw [if_neg (by decide), if_pos rfl, if_neg (fun z => c ⟨rfl, z⟩)] at h; cases h
  · rw [if_neg (by decide), if_neg (by decide), if_pos rfl] at h; cases h
theorem two_rule {y1 y2 kd du : Int32} (V : LV G h x m) : Rn G M_lr_rule 1 0 0 [.ref x, .int y1, .int y2, .int kd, .int du] h (ev_qi fun v h1 => mcell m h1 ∧ Rn G M_mo_rule 1 0 0 [.ref m, .int y1, .int y2, .int kd, .int du] h1 (ev_qi fun v2 h2 => v2 = v ∧ LV G h2 x m)) := by
  obtain ⟨τ, ru, w, t, l, rd, tx, ea, aa, pp, rv, q1, q2, q3, q4, q5, fa, fb, n, W, T, F, len, s, TX, tc, np, P, I, rs, K, D, c, ad, sc, A, Wd, H, MM, tg, R⟩ := V
  have u5 := H.2.1.2.2.2.2
  refine Rn_mono ?_ (r_lr_rule H)
  rintro _ h1 ⟨v, rfl, fo, hq⟩
  have M1 := MI_fo MM tg fo
  obtain ⟨⟨a1, a2⟩, ⟨r2, r2'⟩, r3, ⟨r4, r4a, r4b⟩, r5, r6⟩ := id R
  refine ⟨v, rfl, ⟨_, M1.1⟩, Rn_mono ?_ (r_mo_rule M1 a1 u5)⟩
  rintro _ h2 ⟨v2, rfl, hq2⟩
  refine ⟨v2, rfl, ?_⟩
  rcases hq with ⟨j, k, z, e1, e2, e3, e, H1⟩ | ⟨e1, e, H1⟩
  · obtain ⟨f1, f2⟩ := ruleV_s e3
    rcases hq2 with ⟨j', k', d1, d2, d3, d4, d5, d6, M2⟩ | ⟨d1, -, -⟩
    · rw [e1] at d1
      rw [e2] at d2
      obtain rfl := Option.some.inj d1
      obtain rfl := Option.some.inj d2
      refine ⟨d6.trans e.symm, LV_end H1 M2 tg ⟨⟨a1, a2⟩, ⟨fun i hi => ?_, r2'⟩, r3, ⟨r4, fun p hp => PK_cg (r4a p hp) ?_, fun p hp hp2 => PZ_cg (r4b p hp hp2) ?_⟩, r5, r6⟩⟩
      · show rul (upd (A 5) (3 * j + k) kd i) (upd (A 6) (3 * j + k) (if kd = 1 then du &&& 255 else 0) i) (upd T (3 * j + k) z i)
        by_cases ei : i = 3 * j + k
        · subst ei; rw [pk_us, pk_us, pk_us]; exact f2
        · rw [upd_ne ei, upd_ne ei, upd_ne ei]; exact r2 i hi
      · intro k1 h1 h2
        unfold mrule
        rw [va_up_ne _ _ (by omega), va_up_ne _ _ (by omega)]
      · intro k1 h1 h2
        unfold mrule
        rw [va_up_ne _ _ (by omega), va_up_ne _ _ (by omega)]
    · rcases d1 with d1 | d1 | d1
      · rw [e1] at d1; cases d1
      · rw [e2] at d1; cases d1
      · exact absurd f1 d1
  · rcases hq2 with ⟨j', k', d1, d2, d3, d4, d5, d6, M2⟩ | ⟨d1, d6, M2⟩
    · rcases e1 with e1 | e1 | e1
      · rw [e1] at d1; cases d1
      · rw [e1] at d2; cases d2
      · exact absurd ⟨d3, d4, d5⟩ (ruleV_n e1)
    · exact ⟨d6.trans e.symm, LV_end H1 M2 tg (Rl_0 R)⟩
theorem slift_ib {f : Int32} {j e : Nat} (hj : j < 32) (he : e < 32) (b : Bool) : ib (slift f j b) e = if e = j then b else ib f e := by
  unfold slift
  cases b with
  | true =>
    rw [if_pos rfl, ib_or, ib_shl1 hj]
    by_cases z : e = j
    · rw [if_pos z, decide_eq_true z, Bool.or_true]
    · rw [if_neg z, decide_eq_false z, Bool.or_false]
  | false =>
    rw [if_neg (by simp), ib_and, ib_xor, ib_shl1 hj, ib_m1 e he]
    by_cases z : e = j
    · rw [if_pos z, decide_eq_true z]; simp
    · rw [if_neg z, decide_eq_false z]; simp
theorem two_lifts {y1 y2 on : Int32} (hon : on = 0 ∨ on = 1) (V : LV G h x m) : Rn G M_lr_lifts 1 0 0 [.ref x, .int y1, .int y2, .int on] h (ev_qi fun v h1 => mcell m h1 ∧ Rn G M_mo_lifts 1 0 0 [.ref m, .int y1, .int y2, .int on] h1 (ev_qi fun v2 h2 => v2 = v ∧ LV G h2 x m)) := by
  obtain ⟨τ, ru, w, t, l, rd, tx, ea, aa, pp, rv, q1, q2, q3, q4, q5, fa, fb, n, W, T, F, len, s, TX, tc, np, P, I, rs, K, D, c, ad, sc, A, Wd, H, MM, tg, R⟩ := V
  refine Rn_mono ?_ (r_lr_lifts H)
  rintro _ h1 ⟨v, rfl, fo, hq⟩
  have M1 := MI_fo MM tg fo
  obtain ⟨⟨a1, a2⟩, ⟨r2, r2'⟩, r3, ⟨r4, r4a, r4b⟩, r5, r6⟩ := id R
  refine ⟨v, rfl, ⟨_, M1.1⟩, Rn_mono ?_ (r_mo_lifts M1 hon)⟩
  rintro _ h2 ⟨v2, rfl, hq2⟩
  refine ⟨v2, rfl, ?_⟩
  rcases hq with ⟨j, k, e1, e2, e, H1⟩ | ⟨e1, e, H1⟩
  · rcases hq2 with ⟨j', k', d1, d2, d6, M2⟩ | ⟨d1, -, -⟩
    · rw [e1] at d1
      rw [e2] at d2
      obtain rfl := Option.some.inj d1
      obtain rfl := Option.some.inj d2
      have hj : j < 8 := by
        rcases ix_cases y1 (show 8 < 2 ^ 31 by omega) with ⟨j', hj', -, ej⟩ | ⟨-, ej⟩
        · rw [e1] at ej; obtain rfl := Option.some.inj ej; exact hj'
        · rw [e1] at ej; cases ej
      have hk : k < 3 := by
        rcases ix_cases y2 (show 3 < 2 ^ 31 by omega) with ⟨j', hj', -, ej⟩ | ⟨-, ej⟩
        · rw [e2] at ej; obtain rfl := Option.some.inj ej; exact hj'
        · rw [e2] at ej; cases ej
      refine ⟨d6.trans e.symm, LV_end H1 M2 tg ⟨⟨a1, a2⟩, ⟨r2, fun ex w' hex hw' => ?_⟩, r3, ⟨r4, fun p hp => PK_cg (r4a p hp) ?_, fun p hp hp2 => PZ_cg (r4b p hp hp2) ?_⟩, r5, r6⟩⟩
      · show (¬ upd (A 7) (3 * j + k) on (3 * ex + w') = 0 ↔ ib (upd F k (slift (F k) j (decide (¬ on = 0))) w') ex = true)
        by_cases ew : w' = k
        · subst ew
          rw [pk_us, slift_ib (by omega) (by omega)]
          by_cases ee : ex = j
          · subst ee
            rw [pk_us, if_pos rfl, decide_eq_true_eq]
          · rw [upd_ne (by omega), if_neg ee]
            exact r2' ex w' hex hw'
        · rw [upd_ne (by omega), upd_ne ew]
          exact r2' ex w' hex hw'
      · intro k1 h1 h2
        rw [va_up_ne _ _ (by omega)]
      · intro k1 h1 h2
        rw [va_up_ne _ _ (by omega)]
    · rcases d1 with d1 | d1
      · rw [e1] at d1; cases d1
      · rw [e2] at d1; cases d1
  · rcases hq2 with ⟨j', k', d1, d2, d6, M2⟩ | ⟨d1, d6, M2⟩
    · rcases e1 with e1 | e1
      · rw [e1] at d1; cases d1
      · rw [e1] at d2; cases d2
    · exact ⟨d6.trans e.symm, LV_end H1 M2 tg (Rl_0 R)⟩
theorem two_type {ch : Nat} (hc : ch < 65536) (V : LV G h x m) : Rn G M_lr_type 1 0 0 [.ref x, .int (nI ch)] h (ev_qi fun v h1 => mcell m h1 ∧ Rn G M_mo_type 0 0 0 [.ref m, .int (nI ch)] h1 (ev_qi fun v2 h2 => v2 = v ∧ LV G h2 x m)) := by
  obtain ⟨τ, ru, w, t, l, rd, tx, ea, aa, pp, rv, q1, q2, q3, q4, q5, fa, fb, n, W, T, F, len, s, TX, tc, np, P, I, rs, K, D, c, ad, sc, A, Wd, H, MM, tg, R⟩ := V
  have hlen := H.2.2.1.2.2.1
  refine Rn_mono ?_ (r_lr_type H hc)
  rintro _ h1 ⟨v, rfl, fo, hq⟩
  have M1 := MI_fo MM tg fo
  obtain ⟨r1, r2, ⟨a1, a2⟩, ⟨r4, r4a, r4b⟩, r5, r6⟩ := id R
  refine ⟨v, rfl, ⟨_, M1.1⟩, Rn_mono ?_ (r_mo_type M1 a1 hlen hc)⟩
  rintro _ h2 ⟨v2, rfl, hq2⟩
  refine ⟨v2, rfl, ?_⟩
  rcases hq with ⟨c1, c2, c3, e, H1⟩ | ⟨z, e, H1⟩
  · rcases hq2 with ⟨-, -, -, d6, M2⟩ | ⟨z2, -, -⟩
    · refine ⟨d6.trans e.symm, LV_end H1 M2 tg ⟨r1, r2, ⟨rfl, fun i hi => ?_⟩, ⟨r4, fun p hp => PK_cg (r4a p hp) ?_, fun p hp hp2 => PZ_cg (r4b p hp hp2) ?_⟩, r5, r6⟩⟩
      · show upd (A 8) len (nI ch) i = nI (va_up tc len ch i) ∧ 32 ≤ va_up tc len ch i ∧ va_up tc len ch i ≤ 126
        by_cases ei : i = len
        · subst ei; rw [pk_us, va_up_self]; exact ⟨rfl, c1, c2⟩
        · rw [upd_ne ei, va_up_ne _ _ ei]; exact a2 i (by omega)
      · intro k1 h1 h2
        rw [va_up_ne _ _ (by omega)]
      · intro k1 h1 h2
        rw [va_up_ne _ _ (by omega)]
    · exact absurd ⟨c1, c2, c3⟩ z2
  · rcases hq2 with ⟨c1, c2, c3, -, -⟩ | ⟨-, d6, M2⟩
    · exact absurd ⟨c1, c2, c3⟩ z
    · exact ⟨d6.trans e.symm, LV_end H1 M2 tg (Rl_0 R)⟩
theorem two_pack (V : LV G h x m) : Rn G M_lr_pack 3 5 80 [.ref x] h (ev_qi fun v h1 => mcell m h1 ∧ Rn G M_mo_pack 0 0 0 [.ref m] h1 (ev_qi fun v2 h2 => v2 = v ∧ LV G h2 x m)) := by
  obtain ⟨τ, ru, w, t, l, rd, tx, ea, aa, pp, rv, q1, q2, q3, q4, q5, fa, fb, n, W, T, F, len, s, TX, tc, np, P, I, rs, K, D, c, ad, sc, A, Wd, H, MM, tg, R⟩ := V
  have hnp := H.1.2.2
  refine Rn_mono ?_ (r_lr_pack H)
  rintro _ h1 ⟨v, rfl, hq⟩
  obtain ⟨r1, r2, r3, ⟨r4, r4a, r4b⟩, r5, r6⟩ := id R
  rcases hq with ⟨z, e, τ', P', B, H1, fo⟩ | ⟨z, e, rfl⟩
  · have g1 := fo m _ MM.1 tg.1
    have g2 : ∀ k, isR k = true → h1 (ad k) = h (ad k) ∧ τ' (ad k) = 99 := by
      intro k hk
      have : ∃ e, h (ad k) = some e := by
        by_cases hA : isA k = true
        · exact ⟨_, MM.2.1 k hA⟩
        · rcases isR_c hk with rfl | rfl | rfl | rfl | rfl | rfl | rfl | rfl | rfl | rfl | rfl | rfl | rfl | rfl | rfl | rfl | rfl | rfl | rfl | rfl | rfl | rfl | rfl
          · exact ⟨_, MM.2.2.1⟩
          · exact absurd rfl hA
          · exact absurd rfl hA
          · exact ⟨_, MM.2.2.2.1⟩
          all_goals exact absurd rfl hA
      obtain ⟨e, he⟩ := this
      have := fo _ e he (tg.2 k hk)
      exact ⟨this.1.trans he.symm, this.2⟩
    have M1 := MI_re MM (g1.1.trans MM.1.symm) (fun k hk => (g2 k hk).1)
    refine ⟨v, rfl, ⟨_, M1.1⟩, Rn_mono ?_ (r_mo_pack M1 r4 hnp)⟩
    rintro _ h2 ⟨v2, rfl, hq2⟩
    refine ⟨v2, rfl, ?_⟩
    rcases hq2 with ⟨-, e2, M2⟩ | ⟨z2, -, -⟩
    · refine ⟨e2.trans e.symm, LV_end H1 M2 ⟨g1.2, fun k hk => (g2 k hk).2⟩ ⟨r1, r2, r3, ⟨rfl, fun p hp => ?_, fun p hp hp2 => r4b p (by omega) hp2⟩, r5, r6⟩⟩
      by_cases ep : p = np
      · subst ep
        rw [va_up_self]
        obtain ⟨k1, k2, k3, k4⟩ := r4b p (Nat.le_refl _) z
        exact ⟨⟨fun _ => 0, 0, [], rfl, GR_nil, by omega, fun k hk => absurd hk (Nat.not_lt_zero _), fun i j hi => absurd hi (Nat.not_lt_zero _), fun i hi => absurd hi (Nat.not_lt_zero _), k1, k2⟩, ⟨k3, fun k hk => absurd hk (Nat.not_lt_zero _)⟩, k4⟩
      · rw [va_up_ne _ _ ep]
        exact r4a p (by omega)
    · exact absurd z z2
  · refine ⟨v, rfl, ⟨_, MM.1⟩, Rn_mono ?_ (r_mo_pack MM r4 hnp)⟩
    rintro _ h2 ⟨v2, rfl, hq2⟩
    refine ⟨v2, rfl, ?_⟩
    rcases hq2 with ⟨z2, -, -⟩ | ⟨-, e2, M2⟩
    · exact absurd z2 z
    · exact ⟨e2.trans e.symm, LV_end H M2 tg (Rl_0 R)⟩
theorem two_choices {i : Int32} (V : LV G h x m) : Rn G M_lr_choices 1 0 0 [.ref x, .int i] h (ev_qi fun v h1 => mcell m h1 ∧ Rn G M_mo_choices 1 0 0 [.ref m, .int i] h1 (ev_qi fun v2 h2 => v2 = v ∧ LV G h2 x m)) := by
  obtain ⟨τ, ru, w, t, l, rd, tx, ea, aa, pp, rv, q1, q2, q3, q4, q5, fa, fb, n, W, T, F, len, s, TX, tc, np, P, I, rs, K, D, c, ad, sc, A, Wd, H, MM, tg, R⟩ := V
  have hnp := H.1.2.2
  refine Rn_mono ?_ (r_lr_choices H)
  rintro _ h1 ⟨v, rfl, rfl, hq⟩
  obtain ⟨r1, r2, r3, ⟨r4, r4a, r4b⟩, r5, r6⟩ := id R
  refine ⟨v, rfl, ⟨_, MM.1⟩, Rn_mono ?_ (r_mo_choices MM r4 hnp)⟩
  rintro _ h2 ⟨v2, rfl, M2, hq2⟩
  refine ⟨v2, rfl, ?_, LV_end H M2 tg (Rl_0 R)⟩
  rcases hq with ⟨p, hp, e1, e⟩ | ⟨e1, e⟩
  · rcases hq2 with ⟨p', d1, d2⟩ | ⟨d1, -⟩
    · rw [e1] at d1
      obtain rfl := Option.some.inj d1
      obtain ⟨⟨C, N, RR, hP⟩, -⟩ := r4a p hp
      rw [d2, e, hP.1]
      exact hP.2.2.2.2.2.2.2
    · rw [e1] at d1; cases d1
  · rcases hq2 with ⟨p', d1, d2⟩ | ⟨d1, d2⟩
    · rw [e1] at d1; cases d1
    · exact d2.trans e.symm
theorem two_pair {i j k : Int32} (V : LV G h x m) : Rn G M_lr_pair 2 0 0 [.ref x, .int i, .int j, .int k] h (ev_qi fun v h1 => mcell m h1 ∧ Rn G M_mo_pair 1 0 0 [.ref m, .int i, .int j, .int k] h1 (ev_qi fun v2 h2 => v2 = v ∧ LV G h2 x m)) := by
  obtain ⟨τ, ru, w, t, l, rd, tx, ea, aa, pp, rv, q1, q2, q3, q4, q5, fa, fb, n, W, T, F, len, s, TX, tc, np, P, I, rs, K, D, c, ad, sc, A, Wd, H, MM, tg, R⟩ := V
  have hnp := H.1.2.2
  refine Rn_mono ?_ (r_lr_pair H)
  rintro _ h1 ⟨v, rfl, rfl, hq⟩
  obtain ⟨r1, r2, r3, ⟨r4, r4a, r4b⟩, r5, r6⟩ := id R
  refine ⟨v, rfl, ⟨_, MM.1⟩, Rn_mono ?_ (r_mo_pair MM r4 hnp (Rl_MP R))⟩
  rintro _ h2 ⟨v2, rfl, M2, hq2⟩
  refine ⟨v2, rfl, ?_, LV_end H M2 tg (Rl_0 R)⟩
  rcases hq with ⟨p, i', hp, e1, hi', e2, e⟩ | ⟨e1, e⟩
  · obtain ⟨⟨C, N, RR, hP⟩, -⟩ := r4a p hp
    obtain ⟨n1, n2⟩ := PF_n hP
    have hl := hP.1
    rw [hl] at hi' e2
    have pe := pair_eq hP hi' k
    rcases hq2 with ⟨p', j', d1, d2, d3, d4⟩ | ⟨d1, d4⟩
    · rw [e1] at d1
      obtain rfl := Option.some.inj d1
      rw [n2, e2] at d2
      obtain rfl := Option.some.inj d2
      rw [d4, e, pe, n1, (hP.2.2.2.2.2.1 i' hi').1]
    · rcases d1 with d1 | d1 | ⟨p', d1, d2⟩
      · rw [e1] at d1; cases d1
      · rw [d4, e]
        symm
        unfold codef
        have : (List.range 144).find? (fun c => cs (I p).2.1.2 i' c && decide (nI (sumb (cs (I p).2.1.2 i') c) = k)) = none := by
          refine List.find?_eq_none.mpr (fun c hc z => ?_)
          simp only [Bool.and_eq_true, decide_eq_true_eq] at z
          have hc := List.mem_range.mp hc
          have hs := sumb_le (cs (I p).2.1.2 i') c
          rw [← z.2] at d1
          exact absurd d1 (nI_pos (by omega))
        rw [this]
      · rw [e1] at d1
        obtain rfl := Option.some.inj d1
        rw [n2, e2] at d2
        cases d2
  · rcases hq2 with ⟨p', j', d1, d2, d3, d4⟩ | ⟨d1, d4⟩
    · rcases e1 with e1 | ⟨p, hp, e1, e2⟩
      · rw [e1] at d1; cases d1
      · obtain ⟨⟨C, N, RR, hP⟩, -⟩ := r4a p hp
        obtain ⟨n1, n2⟩ := PF_n hP
        rw [e1] at d1
        obtain rfl := Option.some.inj d1
        rw [n2, ← hP.1, e2] at d2
        cases d2
    · exact d4.trans e.symm
theorem two_best {i j : Int32} (V : LV G h x m) : Rn G M_lr_best 3 0 0 [.ref x, .int i, .int j] h (ev_qi fun v h1 => mcell m h1 ∧ Rn G M_mo_best 3 0 0 [.ref m, .int i, .int j] h1 (ev_qi fun v2 h2 => v2 = v ∧ LV G h2 x m)) := by
  obtain ⟨τ, ru, w, t, l, rd, tx, ea, aa, pp, rv, q1, q2, q3, q4, q5, fa, fb, n, W, T, F, len, s, TX, tc, np, P, I, rs, K, D, c, ad, sc, A, Wd, H, MM, tg, R⟩ := V
  have hnp := H.1.2.2
  refine Rn_mono ?_ (r_lr_best H)
  rintro _ h1 ⟨v, rfl, rfl, hq⟩
  obtain ⟨r1, r2, r3, ⟨r4, r4a, r4b⟩, r5, r6⟩ := id R
  refine ⟨v, rfl, ⟨_, MM.1⟩, Rn_mono ?_ (r_mo_best MM r4 hnp (Rl_MP R))⟩
  rintro _ h2 ⟨v2, rfl, M2, hq2⟩
  refine ⟨v2, rfl, ?_, LV_end H M2 tg (Rl_0 R)⟩
  rcases hq with ⟨p, k, hp, hk, e1, e2, e⟩ | ⟨e1, e⟩
  · rcases hq2 with ⟨p', k', d1, d2, d3⟩ | ⟨d1, d3⟩
    · rw [e1] at d1
      rw [e2] at d2
      obtain rfl := Option.some.inj d1
      obtain rfl := Option.some.inj d2
      obtain ⟨⟨C, N, RR, hP⟩, -⟩ := r4a p hp
      obtain ⟨n1, n2⟩ := PF_n hP
      rw [d3, e, n1, n2, hP.1]
      exact (best_eq r2 hk hP RR.length (Nat.le_refl _)).1.symm
    · rcases d1 with d1 | d1
      · rw [e1] at d1; cases d1
      · rw [e2] at d1; cases d1
  · rcases hq2 with ⟨p', k', d1, d2, d3⟩ | ⟨d1, d3⟩
    · rcases e1 with e1 | e1
      · rw [e1] at d1; cases d1
      · rw [e1] at d2; cases d2
    · exact d3.trans e.symm
theorem two_duties {i j : Int32} (V : LV G h x m) : Rn G M_lr_duties 4 0 0 [.ref x, .int i, .int j] h (ev_qi fun v h1 => mcell m h1 ∧ Rn G M_mo_duties 4 0 0 [.ref m, .int i, .int j] h1 (ev_qi fun v2 h2 => v2 = v ∧ LV G h2 x m)) := by
  obtain ⟨τ, ru, w, t, l, rd, tx, ea, aa, pp, rv, q1, q2, q3, q4, q5, fa, fb, n, W, T, F, len, s, TX, tc, np, P, I, rs, K, D, c, ad, sc, A, Wd, H, MM, tg, R⟩ := V
  have hnp := H.1.2.2
  refine Rn_mono ?_ (r_lr_duties H)
  rintro _ h1 ⟨v, rfl, rfl, hq⟩
  obtain ⟨r1, r2, r3, ⟨r4, r4a, r4b⟩, r5, r6⟩ := id R
  refine ⟨v, rfl, ⟨_, MM.1⟩, Rn_mono ?_ (r_mo_duties MM r4 hnp (Rl_MP R))⟩
  rintro _ h2 ⟨v2, rfl, M2, hq2⟩
  refine ⟨v2, rfl, ?_, LV_end H M2 tg (Rl_0 R)⟩
  rcases hq with ⟨p, k, hp, hk, e1, e2, e⟩ | ⟨e1, e⟩
  · rcases hq2 with ⟨p', k', d1, d2, d3⟩ | ⟨d1, d3⟩
    · rw [e1] at d1
      rw [e2] at d2
      obtain rfl := Option.some.inj d1
      obtain rfl := Option.some.inj d2
      obtain ⟨⟨C, N, RR, hP⟩, -⟩ := r4a p hp
      obtain ⟨n1, n2⟩ := PF_n hP
      rw [d3, e, n1, n2]
      exact (bdut_eq r2 hk hP).symm
    · rcases d1 with d1 | d1
      · rw [e1] at d1; cases d1
      · rw [e2] at d1; cases d1
  · rcases hq2 with ⟨p', k', d1, d2, d3⟩ | ⟨d1, d3⟩
    · rcases e1 with e1 | e1
      · rw [e1] at d1; cases d1
      · rw [e1] at d2; cases d2
    · exact d3.trans e.symm
end OPA

