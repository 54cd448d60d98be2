section RV4
variable {G : ev_G} {h : ev_H}
theorem upd_upd {f : Nat → Int32} {k : Nat} {x y : Int32} : upd (upd f k x) k y = upd f k y := by
  funext j
  by_cases e : j = k
  · subst e; rw [pk_us, pk_us]
  · rw [pk_un e, pk_un e, pk_un e]
theorem upd_self {f : Nat → Int32} {k : Nat} {x : Int32} (h : f k = x) : upd f k x = f := by
  funext j
  by_cases e : j = k
  · subst e; rw [pk_us, h]
  · rw [pk_un e]
theorem cbest_rng (B : Nat → Int64) (T F : Nat → Int32) (v : Nat) : ∀ n, (cbest B T F v n).1 = -1 ∨ ∃ i, i < n ∧ (cbest B T F v n).1 = nI i := by
  intro n
  induction n with
  | zero => exact Or.inl rfl
  | succ n ih =>
    rw [cbest_s]
    split
    · exact Or.inr ⟨n, by omega, rfl⟩
    · rcases ih with e | ⟨i, hi, e⟩
      · exact Or.inl e
      · exact Or.inr ⟨i, by omega, e⟩
theorem nI_nm1 {i : Nat} (h : i < 2 ^ 31) : ¬ nI i = -1 := fun e => by
  have := nI_toInt h
  rw [e] at this
  rw [show (-1 : Int32).toInt = -1 from by decide] at this
  omega
/-- what an entry is, and its duties -/
def jk (B : Nat → Int64) (n : Nat) (T F : Nat → Int32) (w : Nat) (ge clock : Int32) : Int32 × Int32 :=
  if (cbest B T F w n).1 = -1 then ((if clock < ge then 3 else 2), 0) else ((if tjoin (cs B (cbest B T F w n).1.toNatClampNeg) T F w 144 = 0 then 0 else 1), tjoin (cs B (cbest B T F w n).1.toNatClampNeg) T F w 144)
abbrev jh (G : ev_G) (h : ev_H) (q3 q4 : Nat) (K D : Nat → Int32) : ev_H := va_up (va_up h q4 (some (aI G 48 D))) q3 (some (aI G 48 K))
theorem r_rv_judgeOne {a q1 q2 q3 q4 q5 n i w ru rw rt rl rn : Nat} {W K D T F : Nat → Int32} {ja jf jb ju jv jn jun : Nat} {jB : Nat → Int64} {jge clock : Int32} (hd : rv_d q1 q2 q3 q4 q5) (ha : h a = some (rv_c q1 q2 q3 q4 q5 n)) (h2 : h q2 = some (aI G 48 W)) (h3 : h q3 = some (aI G 48 K)) (h4 : h q4 = some (aI G 48 D)) (hi : i < 48) (hw : w < 3) (hWi : W i = nI w) (hD : D i = 0)
    (hu : h ru = some (ru_c rw rt rl rn)) (ht : h rt = some (aI G 48 T)) (hf : h rl = some (aI G 3 F)) (h34 : rt ≠ q3 ∧ rt ≠ q4)
    (k1 : h ja = some (pk_c jf ju jv jun jge)) (k2 : h jf = some (fo_c jb 20 jn)) (k3 : h jb = some (fo_b G 20 jB)) (hjn : jn ≤ 20) :
    Rn G M_rv_judgeOne 3 0 0 [.ref a, .int (nI i), .ref ja, .ref ru, .int clock] h (ev_qv fun h' => h' = jh G h q3 q4 (upd K i (jk jB jn T F w jge clock).1) (upd D i (jk jB jn T F w jge clock).2)) := by
  have n34 : q3 ≠ q4 := hd.2.2.2.2.2.2.2.1
  have n23 : q2 ≠ q3 := hd.2.2.2.2.1
  have n24 : q2 ≠ q4 := hd.2.2.2.2.2.1
  have na3 : a ≠ q3 := by intro e; subst e; rw [ha] at h3; cases h3
  have na4 : a ≠ q4 := by intro e; subst e; rw [ha] at h4; cases h4
  refine Rn_of (ls := [some (.ref a), some (.int (nI i)), some (.ref ja), some (.ref ru), some (.int clock), none]) rfl rfl (Nat.le_of_ble_eq_true rfl) rfl ?_
  refine ev_aload_3 i_rv_judgeOne_0 ?_
  refine ev_aload_2 i_rv_judgeOne_1 ?_
  refine ev_get i_rv_judgeOne_2 fl_rv_52 (by repeat (first | assumption | exact va_up_self _ _ _ | refine hu_ne (by first | assumption | exact Ne.symm (by assumption)) ?_)) rfl ?_
  refine ev_aload_0 i_rv_judgeOne_5 ?_
  refine ev_get i_rv_judgeOne_6 fl_rv_15 (by repeat (first | assumption | exact va_up_self _ _ _ | refine hu_ne (by first | assumption | exact Ne.symm (by assumption)) ?_)) rfl ?_
  refine ev_iload_1 i_rv_judgeOne_9 ?_
  refine ev_iaload i_rv_judgeOne_10 ty_int (by repeat (first | assumption | exact va_up_self _ _ _ | refine hu_ne (by first | assumption | exact Ne.symm (by assumption)) ?_)) (j := i) rfl (by omega) (by omega) ?_
  rw [hWi]
  refine ev_vi2 i_rv_judgeOne_11 lk_rv_66 cb_ru_bestOf iv_ru_bestOf (r_ru_bestOf hu ht hf k2 k3 (by omega) hjn hw) (by repeat (first | assumption | exact va_up_self _ _ _ | refine hu_ne (by first | assumption | exact Ne.symm (by assumption)) ?_)) rfl (by decide) (Nat.le_of_ble_eq_true rfl) rfl rfl (fun x h' hq => ?_)
  obtain ⟨rfl, rfl⟩ := hq
  rcases cbest_rng jB T F w jn with e | ⟨p, hp, e⟩
  · have ej : jk jB jn T F w jge clock = ((if clock < jge then 3 else 2), 0) := by unfold jk; rw [if_pos e]
    rw [e]
    refine ev_istore_5 i_rv_judgeOne_14 rfl ?_
    refine ev_iload_5 i_rv_judgeOne_16 ?_
    refine ev_iconst (v := (-1)) i_rv_judgeOne_18 (by decide) ?_
    refine ev_icmp_ne i_rv_judgeOne_19 (fun c_19 => ?_) (fun c_19 => ?_)
    · exact absurd rfl c_19
    refine ev_aload_0 i_rv_judgeOne_22 ?_
    refine ev_get i_rv_judgeOne_23 fl_rv_18 (by repeat (first | assumption | exact va_up_self _ _ _ | refine hu_ne (by first | assumption | exact Ne.symm (by assumption)) ?_)) rfl ?_
    refine ev_iload_1 i_rv_judgeOne_26 ?_
    refine ev_iload_4 i_rv_judgeOne_27 ?_
    refine ev_aload_2 i_rv_judgeOne_29 ?_
    refine ev_get i_rv_judgeOne_30 fl_rv_72 (by repeat (first | assumption | exact va_up_self _ _ _ | refine hu_ne (by first | assumption | exact Ne.symm (by assumption)) ?_)) rfl ?_
    refine ev_icmp_ge i_rv_judgeOne_33 (fun c_33 => ?_) (fun c_33 => ?_)
    · refine ev_iconst (v := 2) i_rv_judgeOne_40 (by decide) ?_
      refine ev_iastore i_rv_judgeOne_41 ty_int (by repeat (first | assumption | exact va_up_self _ _ _ | refine hu_ne (by first | assumption | exact Ne.symm (by assumption)) ?_)) (j := i) rfl (by omega) (by omega) ?_
      refine ev_return i_rv_judgeOne_42 rfl ?_
      refine ⟨rfl, ?_⟩
      rw [ej, if_neg (Int32.not_lt.mpr c_33)]
      dsimp only
      rw [upd_self hD]
      unfold jh
      rw [hu_self h4]
    · refine ev_iconst (v := 3) i_rv_judgeOne_36 (by decide) ?_
      refine ev_goto i_rv_judgeOne_37 ?_
      refine ev_iastore i_rv_judgeOne_41 ty_int (by repeat (first | assumption | exact va_up_self _ _ _ | refine hu_ne (by first | assumption | exact Ne.symm (by assumption)) ?_)) (j := i) rfl (by omega) (by omega) ?_
      refine ev_return i_rv_judgeOne_42 rfl ?_
      refine ⟨rfl, ?_⟩
      rw [ej, if_pos (Int32.not_le.mp c_33)]
      dsimp only
      rw [upd_self hD]
      unfold jh
      rw [hu_self h4]
  · have ej : jk jB jn T F w jge clock = ((if tjoin (cs jB p) T F w 144 = 0 then 0 else 1), tjoin (cs jB p) T F w 144) := by unfold jk; rw [if_neg (by rw [e]; exact nI_nm1 (by omega)), e, nI_clamp (by omega)]
    rw [e]
    refine ev_istore_5 i_rv_judgeOne_14 rfl ?_
    refine ev_iload_5 i_rv_judgeOne_16 ?_
    refine ev_iconst (v := (-1)) i_rv_judgeOne_18 (by decide) ?_
    refine ev_icmp_ne i_rv_judgeOne_19 (fun c_19 => ?_) (fun c_19 => ?_)
    rotate_left
    · exact absurd c_19 (nI_nm1 (by omega))
    refine ev_aload_0 i_rv_judgeOne_43 ?_
    refine ev_get i_rv_judgeOne_44 fl_rv_21 (by repeat (first | assumption | exact va_up_self _ _ _ | refine hu_ne (by first | assumption | exact Ne.symm (by assumption)) ?_)) rfl ?_
    refine ev_iload_1 i_rv_judgeOne_47 ?_
    refine ev_aload_3 i_rv_judgeOne_48 ?_
    refine ev_aload_2 i_rv_judgeOne_49 ?_
    refine ev_get i_rv_judgeOne_50 fl_rv_52 (by repeat (first | assumption | exact va_up_self _ _ _ | refine hu_ne (by first | assumption | exact Ne.symm (by assumption)) ?_)) rfl ?_
    refine ev_iload_5 i_rv_judgeOne_53 ?_
    refine ev_aload_0 i_rv_judgeOne_55 ?_
    refine ev_get i_rv_judgeOne_56 fl_rv_15 (by repeat (first | assumption | exact va_up_self _ _ _ | refine hu_ne (by first | assumption | exact Ne.symm (by assumption)) ?_)) rfl ?_
    refine ev_iload_1 i_rv_judgeOne_59 ?_
    refine ev_iaload i_rv_judgeOne_60 ty_int (by repeat (first | assumption | exact va_up_self _ _ _ | refine hu_ne (by first | assumption | exact Ne.symm (by assumption)) ?_)) (j := i) rfl (by omega) (by omega) ?_
    rw [hWi]
    refine ev_vi3 i_rv_judgeOne_61 lk_rv_75 cb_ru_termsOf iv_ru_termsOf (r_ru_termsOf hu ht hf k2 k3 (by omega) hjn hp hw) (by repeat (first | assumption | exact va_up_self _ _ _ | refine hu_ne (by first | assumption | exact Ne.symm (by assumption)) ?_)) rfl (by decide) (Nat.le_of_ble_eq_true rfl) rfl rfl (fun x h2' hq => ?_)
    obtain ⟨rfl, rfl⟩ := hq
    refine ev_iastore i_rv_judgeOne_64 ty_int (by repeat (first | assumption | exact va_up_self _ _ _ | refine hu_ne (by first | assumption | exact Ne.symm (by assumption)) ?_)) (j := i) rfl (by omega) (by omega) ?_
    refine ev_aload_0 i_rv_judgeOne_65 ?_
    refine ev_get i_rv_judgeOne_66 fl_rv_18 (by repeat (first | assumption | exact va_up_self _ _ _ | refine hu_ne (by first | assumption | exact Ne.symm (by assumption)) ?_)) rfl ?_
    refine ev_iload_1 i_rv_judgeOne_69 ?_
    refine ev_aload_0 i_rv_judgeOne_70 ?_
    refine ev_get i_rv_judgeOne_71 fl_rv_21 (by repeat (first | assumption | exact va_up_self _ _ _ | refine hu_ne (by first | assumption | exact Ne.symm (by assumption)) ?_)) rfl ?_
    refine ev_iload_1 i_rv_judgeOne_74 ?_
    refine ev_iaload i_rv_judgeOne_75 ty_int (by repeat (first | assumption | exact va_up_self _ _ _ | refine hu_ne (by first | assumption | exact Ne.symm (by assumption)) ?_)) (j := i) rfl (by omega) (by omega) ?_
    rw [pk_us]
    refine ev_if_ne i_rv_judgeOne_76 (fun c_76 => ?_) (fun c_76 => ?_)
    · refine ev_iconst (v := 1) i_rv_judgeOne_83 (by decide) ?_
      refine ev_iastore i_rv_judgeOne_84 ty_int (by repeat (first | assumption | exact va_up_self _ _ _ | refine hu_ne (by first | assumption | exact Ne.symm (by assumption)) ?_)) (j := i) rfl (by omega) (by omega) ?_
      refine ev_return i_rv_judgeOne_85 rfl ?_
      refine ⟨rfl, ?_⟩
      rw [ej, if_neg c_76]
    · refine ev_iconst (v := 0) i_rv_judgeOne_79 (by decide) ?_
      refine ev_goto i_rv_judgeOne_80 ?_
      refine ev_iastore i_rv_judgeOne_84 ty_int (by repeat (first | assumption | exact va_up_self _ _ _ | refine hu_ne (by first | assumption | exact Ne.symm (by assumption)) ?_)) (j := i) rfl (by omega) (by omega) ?_
      refine ev_return i_rv_judgeOne_85 rfl ?_
      refine ⟨rfl, ?_⟩
      rw [ej, if_pos c_76]
/-- an entry's kind and duties, by the packages' own -/
def ent (I : Nat → pkT) (s : rvs) (T F : Nat → Int32) (clock : Int32) (i : Nat) : Int32 × Int32 :=
  if (I (s.2.1 i).toNatClampNeg).2.1.1 = 0 then (0, 0) else jk (I (s.2.1 i).toNatClampNeg).2.1.2 (I (s.2.1 i).toNatClampNeg).2.1.1 T F (s.2.2.1 i).toNatClampNeg (I (s.2.1 i).toNatClampNeg).2.2.2 clock
def kf (E : Nat → Int32) (K : Nat → Int32) : Nat → Nat → Int32
  | 0 => K
  | i + 1 => upd (kf E K i) i (E i)
theorem r_rv_judge {a q1 q2 q3 q4 q5 pp np ru rw rt rl rn : Nat} {s : rvs} {K D T F : Nat → Int32} {clock : Int32} {P : Nat → Option Nat} {I : Nat → pkT} (hd : rv_d q1 q2 q3 q4 q5) (ha : h a = some (rv_c q1 q2 q3 q4 q5 s.1)) (h1 : h q1 = some (aI G 48 s.2.1)) (h2 : h q2 = some (aI G 48 s.2.2.1)) (h3 : h q3 = some (aI G 48 K)) (h4 : h q4 = some (aI G 48 D)) (hs : rv_ok np s)
    (hP : h pp = some (aQ G 16 P)) (hI : ∀ p, p < np → P p = some (I p).1.1 ∧ pk_at G h np (I p)) (hnp : np ≤ 16) (hu : h ru = some (ru_c rw rt rl rn)) (ht : h rt = some (aI G 48 T)) (hf : h rl = some (aI G 3 F)) (h34 : rt ≠ q3 ∧ rt ≠ q4) :
    Rn G M_rv_judge 4 0 0 [.ref a, .ref pp, .ref ru, .int clock] h (ev_qi fun v h' => v = nI (sumb (fun i => decide ((ent I s T F clock i).1 = 2)) s.1) ∧ h' = jh G h q3 q4 (kf (fun i => (ent I s T F clock i).1) K s.1) (kf (fun i => (ent I s T F clock i).2) D s.1)) := by
  have n34 : q3 ≠ q4 := hd.2.2.2.2.2.2.2.1
  have n23 : q2 ≠ q3 := hd.2.2.2.2.1
  have n24 : q2 ≠ q4 := hd.2.2.2.2.2.1
  have n13 : q1 ≠ q3 := hd.2.1
  have n14 : q1 ≠ q4 := hd.2.2.1
  have na3 : a ≠ q3 := by intro e; subst e; rw [ha] at h3; cases h3
  have na4 : a ≠ q4 := by intro e; subst e; rw [ha] at h4; cases h4
  have hget : ∀ (K' D' : Nat → Int32) (q : Nat) (e : va_E), h q = some e → (∀ f, e ≠ aI G 48 f) → jh G h q3 q4 K' D' q = some e := fun K' D' q e hq k1 =>
    hu_ne (fun z => k1 K (by subst z; rw [h3] at hq; exact (Option.some.inj hq).symm)) (hu_ne (fun z => k1 D (by subst z; rw [h4] at hq; exact (Option.some.inj hq).symm)) hq)
  have gP : ∀ K' D', jh G h q3 q4 K' D' pp = some (aQ G 16 P) := fun K' D' => hget K' D' pp _ hP (fun f => al_ne (show (16 : Nat) ≠ 48 by decide))
  have ga : ∀ K' D', jh G h q3 q4 K' D' a = some (rv_c q1 q2 q3 q4 q5 s.1) := fun K' D' => hget K' D' a _ ha (fun f z => by cases z)
  have g1 : ∀ K' D', jh G h q3 q4 K' D' q1 = some (aI G 48 s.2.1) := fun K' D' => hu_ne n13 (hu_ne n14 h1)
  have g2 : ∀ K' D', jh G h q3 q4 K' D' q2 = some (aI G 48 s.2.2.1) := fun K' D' => hu_ne n23 (hu_ne n24 h2)
  have g3 : ∀ K' D', jh G h q3 q4 K' D' q3 = some (aI G 48 K') := fun K' D' => va_up_self _ _ _
  have g4 : ∀ K' D', jh G h q3 q4 K' D' q4 = some (aI G 48 D') := fun K' D' => hu_ne (Ne.symm n34) (va_up_self _ _ _)
  have gu : ∀ K' D', jh G h q3 q4 K' D' ru = some (ru_c rw rt rl rn) := fun K' D' => hget K' D' ru _ hu (fun f z => by cases z)
  have gt : ∀ K' D', jh G h q3 q4 K' D' rt = some (aI G 48 T) := fun K' D' => hu_ne h34.1 (hu_ne h34.2 ht)
  have gf : ∀ K' D', jh G h q3 q4 K' D' rl = some (aI G 3 F) := fun K' D' => hget K' D' rl _ hf (fun f => al_ne (show (3 : Nat) ≠ 48 by decide))
  have e3 : ∀ K' K2 D', va_up (jh G h q3 q4 K' D') q3 (some (aI G 48 K2)) = jh G h q3 q4 K2 D' := fun K' K2 D' => hu_uu
  have e4 : ∀ K' D' D2, va_up (jh G h q3 q4 K' D') q4 (some (aI G 48 D2)) = jh G h q3 q4 K' D2 := fun K' D' D2 => by
    unfold jh
    rw [hu_comm n34, hu_uu]
  have ej : ∀ K' D' K2 D2, jh G (jh G h q3 q4 K' D') q3 q4 K2 D2 = jh G h q3 q4 K2 D2 := fun K' D' K2 D2 => by
    show va_up (va_up (jh G h q3 q4 K' D') q4 (some (aI G 48 D2))) q3 (some (aI G 48 K2)) = _
    rw [e4, e3]
  have hs48 := hs.1
  refine Rn_of (ls := [some (.ref a), some (.ref pp), some (.ref ru), some (.int clock), none, none, none]) rfl rfl (Nat.le_of_ble_eq_true rfl) rfl ?_
  refine ev_iconst (v := 0) i_rv_judge_0 (by decide) ?_
  refine ev_istore_4 i_rv_judge_1 rfl ?_
  refine ev_iconst (v := 0) i_rv_judge_3 (by decide) ?_
  refine ev_istore_5 i_rv_judge_4 rfl ?_
  have loop : ∀ (m i : Nat) (w6 : Option Value), ev_nl w6 = true → i + m = s.1 → Ev G M_rv_judge 4 0 0 (ev_qi fun v h' => v = nI (sumb (fun i => decide ((ent I s T F clock i).1 = 2)) s.1) ∧ h' = jh G h q3 q4 (kf (fun i => (ent I s T F clock i).1) K s.1) (kf (fun i => (ent I s T F clock i).2) D s.1)) 6 [some (.ref a), some (.ref pp), some (.ref ru), some (.int clock), some (.int (nI (sumb (fun i => decide ((ent I s T F clock i).1 = 2)) i))), some (.int (nI i)), w6] [] (jh G h q3 q4 (kf (fun i => (ent I s T F clock i).1) K i) (kf (fun i => (ent I s T F clock i).2) D i)) := by
    intro m
    induction m with
    | zero =>
      intro i w6 hw6 hi
      obtain rfl : i = s.1 := by omega
      refine ev_iload_5 i_rv_judge_6 ?_
      refine ev_aload_0 i_rv_judge_8 ?_
      refine ev_get i_rv_judge_9 fl_rv_27 (ga _ _) rfl ?_
      refine ev_icmp_ge i_rv_judge_12 (fun c_12 => ?_) (fun c_12 => ?_)
      · refine ev_iload_4 i_rv_judge_88 ?_
        refine ev_ireturn i_rv_judge_90 rfl rfl ?_
        exact ⟨_, rfl, rfl, rfl⟩
      · exact absurd (nI_le (Nat.le_refl _) (by omega)) c_12
    | succ m ih =>
      intro i w6 hw6 hi
      have nxt := fun w6 hw6 => ih (i + 1) w6 hw6 (by omega)
      have sk : ∀ E (K0 : Nat → Int32), kf E K0 (i + 1) = upd (kf E K0 i) i (E i) := fun _ _ => rfl
      rw [sk, sk] at nxt
      have ss : sumb (fun i => decide ((ent I s T F clock i).1 = 2)) (i + 1) = sumb (fun i => decide ((ent I s T F clock i).1 = 2)) i + (if (decide ((ent I s T F clock i).1 = 2)) = true then 1 else 0) := rfl
      rw [ss] at nxt
      have tail : ∀ w6, ev_nl w6 = true → Ev G M_rv_judge 4 0 0 (ev_qi fun v h' => v = nI (sumb (fun i => decide ((ent I s T F clock i).1 = 2)) s.1) ∧ h' = jh G h q3 q4 (kf (fun i => (ent I s T F clock i).1) K s.1) (kf (fun i => (ent I s T F clock i).2) D s.1)) 68 [some (.ref a), some (.ref pp), some (.ref ru), some (.int clock), some (.int (nI (sumb (fun i => decide ((ent I s T F clock i).1 = 2)) i))), some (.int (nI i)), w6] [] (jh G h q3 q4 (upd (kf (fun i => (ent I s T F clock i).1) K i) i (ent I s T F clock i).1) (upd (kf (fun i => (ent I s T F clock i).2) D i) i (ent I s T F clock i).2)) := by
        intro w6 hw6
        have nx := nxt w6 hw6
        refine ev_aload_0 i_rv_judge_68 ?_
        refine ev_get i_rv_judge_69 fl_rv_18 (ga _ _) rfl ?_
        refine ev_iload_5 i_rv_judge_72 ?_
        refine ev_iaload i_rv_judge_74 ty_int (g3 _ _) (j := i) rfl (by omega) (by omega) ?_
        rw [pk_us]
        refine ev_iconst (v := 2) i_rv_judge_75 (by decide) ?_
        refine ev_icmp_ne i_rv_judge_76 (fun c_76 => ?_) (fun c_76 => ?_)
        · rw [if_neg (by simp only [decide_eq_true_eq]; exact c_76)] at nx
          refine ev_iinc_5 i_rv_judge_82 (nI_1 i) rfl ?_
          refine ev_goto i_rv_judge_85 ?_
          exact nx
        · rw [if_pos (by simp only [decide_eq_true_eq]; exact c_76)] at nx
          refine ev_iinc_4 i_rv_judge_79 (nI_1 _) rfl ?_
          refine ev_iinc_5 i_rv_judge_82 (nI_1 i) rfl ?_
          refine ev_goto i_rv_judge_85 ?_
          exact nx
      obtain ⟨p, w, hp, hw, eN, eW⟩ := hs.2 i (by omega)
      have eE : ent I s T F clock i = if (I p).2.1.1 = 0 then (0, 0) else jk (I p).2.1.2 (I p).2.1.1 T F w (I p).2.2.2 clock := by
        unfold ent
        rw [eN, eW, nI_clamp (by omega), nI_clamp (by omega)]
      obtain ⟨hPp, hpk⟩ := hI p hp
      obtain ⟨k1, k2, k3, k4, k5, k6, k7, k8, k9⟩ := hpk
      generalize I p = J at hPp k1 k2 k3 k4 k5 k6 k7 k8 k9 eE
      obtain ⟨⟨ja, jf, jb, ju, jv⟩, ⟨jn, jB⟩, ⟨jun, jU, jV⟩, jge⟩ := J
      dsimp only at hPp k1 k2 k3 k4 k5 k6 k7 k8 k9 eE
      have b1 : ∀ K' D', jh G h q3 q4 K' D' ja = some (pk_c jf ju jv jun jge) := fun K' D' => hget K' D' ja _ k1 (fun f z => by cases z)
      have b2 : ∀ K' D', jh G h q3 q4 K' D' jf = some (fo_c jb 20 jn) := fun K' D' => hget K' D' jf _ k2 (fun f z => by cases z)
      have b3 : ∀ K' D', jh G h q3 q4 K' D' jb = some (fo_b G 20 jB) := fun K' D' => hget K' D' jb _ k3 (fun f => al_ne (show (3 * 20 : Nat) ≠ 48 by decide))
      refine ev_iload_5 i_rv_judge_6 ?_
      refine ev_aload_0 i_rv_judge_8 ?_
      refine ev_get i_rv_judge_9 fl_rv_27 (ga _ _) rfl ?_
      refine ev_icmp_ge i_rv_judge_12 (fun c_12 => ?_) (fun c_12 => ?_)
      · exact absurd c_12 (nI_ge (by omega) (by omega))
      refine ev_aload_0 i_rv_judge_15 ?_
      refine ev_get i_rv_judge_16 fl_rv_18 (ga _ _) rfl ?_
      refine ev_iload_5 i_rv_judge_19 ?_
      refine ev_iconst (v := 0) i_rv_judge_21 (by decide) ?_
      refine ev_iastore i_rv_judge_22 ty_int (g3 _ _) (j := i) rfl (by omega) (by omega) ?_
      rw [e3]
      refine ev_aload_0 i_rv_judge_23 ?_
      refine ev_get i_rv_judge_24 fl_rv_21 (ga _ _) rfl ?_
      refine ev_iload_5 i_rv_judge_27 ?_
      refine ev_iconst (v := 0) i_rv_judge_29 (by decide) ?_
      refine ev_iastore i_rv_judge_30 ty_int (g4 _ _) (j := i) rfl (by omega) (by omega) ?_
      rw [e4]
      refine ev_aload_1 i_rv_judge_31 ?_
      refine ev_aload_0 i_rv_judge_32 ?_
      refine ev_get i_rv_judge_33 fl_rv_11 (ga _ _) rfl ?_
      refine ev_iload_5 i_rv_judge_36 ?_
      refine ev_iaload i_rv_judge_38 ty_int (g1 _ _) (j := i) rfl (by omega) (by omega) ?_
      refine ev_aaload i_rv_judge_39 ty_pack (gP _ _) (j := p) eN (by omega) (by omega) ?_
      rw [hPp]
      refine ev_astore_6 i_rv_judge_40 rfl ?_
      refine ev_aload_6 i_rv_judge_42 ?_
      refine ev_ifnull i_rv_judge_44 ?_
      refine ev_aload_6 i_rv_judge_47 ?_
      refine ev_get i_rv_judge_49 fl_rv_52 (b1 _ _) rfl ?_
      refine ev_vi0 i_rv_judge_52 lk_rv_56 cb_fo_size iv_fo_size (r_fo_size (b2 _ _)) (b2 _ _) rfl (by decide) (Nat.le_of_ble_eq_true rfl) rfl rfl (fun x h' hq => ?_)
      obtain ⟨rfl, rfl⟩ := hq
      refine ev_if_le i_rv_judge_55 (fun c_55 => ?_) (fun c_55 => ?_)
      · have z0 : jn = 0 := by
          rcases Nat.eq_zero_or_pos jn with z | z
          · exact z
          · exact absurd c_55 (nI_nle z (by omega))
        rw [if_pos z0] at eE
        have := tail (some (.ref ja)) rfl
        rw [eE] at this
        exact this
      · have z0 : ¬ jn = 0 := fun z => c_55 (by rw [z]; decide)
        rw [if_neg z0] at eE
        refine ev_aload_0 i_rv_judge_58 ?_
        refine ev_iload_5 i_rv_judge_59 ?_
        refine ev_aload_6 i_rv_judge_61 ?_
        refine ev_aload_2 i_rv_judge_63 ?_
        refine ev_iload_3 i_rv_judge_64 ?_
        refine ev_vv4 i_rv_judge_65 lk_rv_62 cb_rv_judgeOne iv_rv_judgeOne (r_rv_judgeOne (clock := clock) (D := upd (kf (fun i => (ent I s T F clock i).2) D i) i 0) hd (ga _ _) (g2 _ _) (g3 _ _) (g4 _ _) (show i < 48 by omega) hw eW pk_us (gu _ _) (gt _ _) (gf _ _) h34 (b1 _ _) (b2 _ _) (b3 _ _) k7) (ga _ _) rfl (by decide) (Nat.le_of_ble_eq_true rfl) rfl rfl (fun h' hq => ?_)
        subst hq
        rw [ej, upd_upd, upd_upd, ← eE]
        exact tail (some (.ref ja)) rfl
  have lp := loop s.1 0 none rfl (by omega)
  have e00 : jh G h q3 q4 (kf (fun i => (ent I s T F clock i).1) K 0) (kf (fun i => (ent I s T F clock i).2) D 0) = h := by
    show va_up (va_up h q4 (some (aI G 48 D))) q3 (some (aI G 48 K)) = h
    rw [hu_self h4, hu_self h3]
  rw [e00] at lp
  exact lp
end RV4
