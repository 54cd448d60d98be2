section RD2
variable {G : ev_G} {h : ev_H}
variable {a tx ea aa len opn nm : Nat} {fa fb : Nat → Nat} {st tm : Int32} {TX : Nat → Int32} {X : Nat → List T3}
theorem rm_0 : rm 0 = 1 := rfl
theorem rm_w : rm 1 = 400 := rfl
theorem rm_2 {t : Nat} (h : 2 ≤ t) : rm t = 20 := by unfold rm; rw [if_neg (by omega), if_neg (by omega)]
def mny (tm : Int32) (W : List T3) : Int32 := if 20 < W.length then 1 else tm
theorem r_rd_keepWork {t : Nat} (H : rd_at G h a tx ea aa fa fb len opn st nm tm TX X) (ht2 : 2 ≤ t) (ht : t < 24) :
    Rn G M_rd_keepWork 2 0 0 [.ref a, .ref (fa t)] h (ev_qv fun h' => rd_at G h' a tx ea aa fa fb len opn st nm (mny tm (X 1)) TX (va_up X t ((X 1).take 20)) ∧ rfr a fa fb h h') := by
  obtain ⟨h0, h1, ⟨f2, h2, e2⟩, ⟨f3, h3, e3⟩, h4, h5, h6⟩ := id H
  obtain ⟨n, B, g1, g2, g3, g4⟩ := h4 1 (by omega)
  rw [rm_w] at g1 g2 g3
  have hl1 : (X 1).length = n := by rw [← g4, li_len]
  have tail : ∀ (h' : ev_H) (tm' : Int32), rd_at G h' a tx ea aa fa fb len opn st nm tm' TX X → rfr a fa fb h h' → tm' = mny tm (X 1) → Ev G M_rd_keepWork 2 0 0 (ev_qv fun h' => rd_at G h' a tx ea aa fa fb len opn st nm (mny tm (X 1)) TX (va_up X t ((X 1).take 20)) ∧ rfr a fa fb h h') 17 [some (.ref a), some (.ref (fa t))] [] h' := by
    intro h' tm' H' R' etm
    obtain ⟨h0, h1, ⟨f2, h2, e2⟩, ⟨f3, h3, e3⟩, h4, h5, h6⟩ := id H'
    obtain ⟨n, B, g1, g2, g3, g4⟩ := h4 1 (by omega)
    obtain ⟨m, D, k1, k2, k3, k4⟩ := h4 t ht
    rw [rm_w] at g1 g2 g3
    rw [rm_2 ht2] at k1 k2 k3
    refine ev_aload_1 i_rd_keepWork_17 ?_
    refine ev_aload_0 i_rd_keepWork_18 ?_
    refine ev_get i_rd_keepWork_19 fl_rd_31 (by repeat (first | assumption | exact va_up_self _ _ _ | refine hu_ne (by first | assumption | exact Ne.symm (by assumption)) ?_)) rfl ?_
    refine ev_vv1 i_rd_keepWork_22 lk_rd_95 cb_fo_copyFrom iv_fo_copyFrom (r_fo_copyFrom k1 k2 (by omega) g1 g2 (by omega) g3 (fun z => absurd (h5 1 t (by omega) ht z) (by omega))) k1 rfl (by decide) (Nat.le_of_ble_eq_true rfl) rfl rfl (fun h2 hq => ?_)
    obtain ⟨C, rfl, hC⟩ := hq
    obtain ⟨H2, R2⟩ := rd_form (C := C) (q := min n 20) (Y := (X 1).take 20) H' ht (by rw [rm_2 ht2]; omega) (by rw [hC, g4])
    rw [rm_2 ht2] at H2 R2
    refine ev_return i_rd_keepWork_25 rfl ?_
    rw [etm] at H2
    exact ⟨rfl, H2, rfr_tr R' R2⟩
  refine Rn_of (ls := [some (.ref a), some (.ref (fa t))]) rfl rfl (Nat.le_of_ble_eq_true rfl) rfl ?_
  refine ev_aload_0 i_rd_keepWork_0 ?_
  refine ev_get i_rd_keepWork_1 fl_rd_31 (by repeat (first | assumption | exact va_up_self _ _ _ | refine hu_ne (by first | assumption | exact Ne.symm (by assumption)) ?_)) rfl ?_
  refine ev_vi0 i_rd_keepWork_4 lk_rd_91 cb_fo_size iv_fo_size (r_fo_size g1) g1 rfl (by decide) (Nat.le_of_ble_eq_true rfl) rfl rfl (fun x h' hq => ?_)
  obtain ⟨rfl, rfl⟩ := hq
  refine ev_bipush (v := 20) i_rd_keepWork_7 (by decide) ?_
  refine ev_icmp_le i_rd_keepWork_9 (fun c_9 => ?_) (fun c_9 => ?_)
  · have : ¬ 20 < (X 1).length := by
      rw [hl1]
      have := (nI_leI (by omega) (by omega)).mp (show nI n ≤ nI 20 from c_9)
      omega
    exact tail _ tm H rfr_rf (by unfold mny; rw [if_neg this])
  · have : 20 < (X 1).length := by
      rw [hl1]
      rcases Nat.lt_or_ge 20 n with z | z
      · exact z
      · exact absurd (show nI n ≤ nI 20 from nI_le z (by omega)) c_9
    refine ev_aload_0 i_rd_keepWork_12 ?_
    refine ev_iconst (v := 1) i_rd_keepWork_13 (by decide) ?_
    refine ev_put i_rd_keepWork_14 pl_rd_keepWork_47 (by repeat (first | assumption | exact va_up_self _ _ _ | refine hu_ne (by first | assumption | exact Ne.symm (by assumption)) ?_)) rfl rfl (Nat.le_of_ble_eq_true rfl) rfl ?_
    obtain ⟨H1, R1⟩ := rd_cell (len' := len) (opn' := opn) (nm' := nm) (st' := st) (tm' := 1) H
    exact tail _ 1 H1 R1 (by unfold mny; rw [if_pos this])
/-- every one of P with every one of Q -/
def jrow (p : T3) (acc : List T3) (Q : List T3) : List T3 := Q.foldl (fun acc q => ins3 400 acc (t3or p q)) acc
def jall (P Q : List T3) : List T3 := P.foldl (fun acc p => jrow p acc Q) []
def jone (E A : List T3) : List T3 := A.foldl (fun acc x => ins3 400 acc (t3or x x)) E
theorem jrow_s (p : T3) (acc : List T3) (B : Nat → Int64) (k : Nat) : jrow p acc (li (k + 1) B) = ins3 400 (jrow p acc (li k B)) (t3or p (c3 B k)) := by
  unfold jrow
  rw [li_succ, List.foldl_append]
  rfl
theorem jall_s (Q : List T3) (B : Nat → Int64) (i : Nat) : jall (li (i + 1) B) Q = jrow (c3 B i) (jall (li i B) Q) Q := by
  unfold jall
  rw [li_succ, List.foldl_append]
  rfl
theorem jone_s (E : List T3) (B : Nat → Int64) (i : Nat) : jone E (li (i + 1) B) = ins3 400 (jone E (li i B)) (t3or (c3 B i) (c3 B i)) := by
  unfold jone
  rw [li_succ, List.foldl_append]
  rfl
/-- what endAtom makes of the rows: t the also, w the atom's row -/
def xAtom (X : Nat → List T3) (t w : Nat) : Nat → List T3 := if (X t).length = 0 then va_up X t ((X w).take 20) else va_up (va_up X 1 (jall (X t) (X w))) t ((jall (X t) (X w)).take 20)
def mAtom (tm : Int32) (X : Nat → List T3) (t w : Nat) : Int32 := if (X t).length = 0 then tm else mny tm (jall (X t) (X w))
theorem r_rd_endAtom {w : Nat} (H : rd_at G h a tx ea aa fa fb len opn st nm tm TX X) (ho : opn ≤ 10) (hw : w < 24) (hw1 : w ≠ 1) (hwt : w ≠ 13 + opn) :
    Rn G M_rd_endAtom 3 0 0 [.ref a, .ref (fa w)] h (ev_qv fun h' => rd_at G h' a tx ea aa fa fb len opn 3 nm (mAtom tm X (13 + opn) w) TX (xAtom X (13 + opn) w) ∧ rfr a fa fb h h') := by
  obtain ⟨H1, R1⟩ := rd_cell (len' := len) (opn' := opn) (nm' := nm) (st' := 3) (tm' := tm) H
  obtain ⟨h0, h1, ⟨f2, h2, e2⟩, ⟨f3, h3, e3⟩, -⟩ := id H
  refine Rn_of (ls := [some (.ref a), some (.ref (fa w)), none, none, none]) rfl rfl (Nat.le_of_ble_eq_true rfl) rfl ?_
  refine ev_aload_0 i_rd_endAtom_0 ?_
  refine ev_get i_rd_endAtom_1 fl_rd_21 (by repeat (first | assumption | exact va_up_self _ _ _ | refine hu_ne (by first | assumption | exact Ne.symm (by assumption)) ?_)) rfl ?_
  refine ev_aload_0 i_rd_endAtom_4 ?_
  refine ev_get i_rd_endAtom_5 fl_rd_38 (by repeat (first | assumption | exact va_up_self _ _ _ | refine hu_ne (by first | assumption | exact Ne.symm (by assumption)) ?_)) rfl ?_
  refine ev_aaload i_rd_endAtom_8 ty_form (by repeat (first | assumption | exact va_up_self _ _ _ | refine hu_ne (by first | assumption | exact Ne.symm (by assumption)) ?_)) (j := opn) rfl (by omega) (by omega) ?_
  rw [e3 opn (by omega)]
  refine ev_astore_2 i_rd_endAtom_9 rfl ?_
  refine ev_aload_0 i_rd_endAtom_10 ?_
  refine ev_iconst (v := 3) i_rd_endAtom_11 (by decide) ?_
  refine ev_put i_rd_endAtom_12 pl_rd_endAtom_41 (by repeat (first | assumption | exact va_up_self _ _ _ | refine hu_ne (by first | assumption | exact Ne.symm (by assumption)) ?_)) rfl rfl (Nat.le_of_ble_eq_true rfl) rfl ?_
  refine ev_aload_2 i_rd_endAtom_15 ?_
  show Ev G M_rd_endAtom 3 0 0 _ _ _ _ (va_up h a (some (rd_c tx ea aa (fa 0) (fa 1) len opn 3 nm tm)))
  clear h0 h1 h2 e2 h3 e3
  generalize va_up h a (some (rd_c tx ea aa (fa 0) (fa 1) len opn 3 nm tm)) = g at H1 R1 ⊢
  obtain ⟨h0, h1, ⟨f2, h2, e2⟩, ⟨f3, h3, e3⟩, h4, h5, h6⟩ := id H1
  obtain ⟨n0, B0, w1, w2, w3, w4⟩ := h4 1 (by omega)
  obtain ⟨n1, B1, t1, t2, t3, t4⟩ := h4 (13 + opn) (by omega)
  obtain ⟨n2, B2, u1, u2, u3, u4⟩ := h4 w hw
  rw [rm_w] at w1 w2 w3
  rw [rm_2 (by omega)] at t1 t2 t3
  have hrw := rm_1 w
  have ht1 : fa (13 + opn) ≠ fa 1 := fun z => absurd (h5 _ _ (by omega) (by omega) z) (by omega)
  have hu1 : fa w ≠ fa 1 := fun z => hw1 (h5 _ _ hw (by omega) z)
  have hut : fa w ≠ fa (13 + opn) := fun z => hwt (h5 _ _ hw (by omega) z)
  have ht1b : fb (13 + opn) ≠ fb 1 := fun z => absurd (h6 _ _ (by omega) (by omega) z) (by omega)
  have hu1b : fb w ≠ fb 1 := fun z => hw1 (h6 _ _ hw (by omega) z)
  have lt : (X (13 + opn)).length = n1 := by rw [← t4, li_len]
  refine ev_vi0 i_rd_endAtom_16 lk_rd_91 cb_fo_size iv_fo_size (r_fo_size t1) t1 rfl (by decide) (Nat.le_of_ble_eq_true rfl) rfl rfl (fun x h' hq => ?_)
  obtain ⟨rfl, rfl⟩ := hq
  refine ev_if_ne i_rd_endAtom_19 (fun c_19 => ?_) (fun c_19 => ?_)
  rotate_left
  · have hz : n1 = 0 := by
      rcases Nat.eq_zero_or_pos n1 with z | z
      · exact z
      · exact absurd c_19 (nI_ne0 z (by omega))
    refine ev_aload_2 i_rd_endAtom_22 ?_
    refine ev_aload_1 i_rd_endAtom_23 ?_
    refine ev_vv1 i_rd_endAtom_24 lk_rd_95 cb_fo_copyFrom iv_fo_copyFrom (r_fo_copyFrom t1 t2 (by omega) u1 u2 (by omega) u3 hut) t1 rfl (by decide) (Nat.le_of_ble_eq_true rfl) rfl rfl (fun h2 hq => ?_)
    obtain ⟨C, rfl, hC⟩ := hq
    obtain ⟨H2, R2⟩ := rd_form (C := C) (q := min n2 20) (Y := (X w).take 20) H1 (show 13 + opn < 24 by omega) (by rw [rm_2 (by omega)]; omega) (by rw [hC, u4])
    rw [rm_2 (by omega)] at H2 R2
    refine ev_return i_rd_endAtom_27 rfl ?_
    unfold mAtom xAtom
    rw [if_pos (by rw [lt]; exact hz), if_pos (by rw [lt]; exact hz)]
    exact ⟨rfl, H2, rfr_tr R1 R2⟩
  have hz : ¬ (X (13 + opn)).length = 0 := by
    rw [lt]
    intro z
    exact c_19 (by rw [z]; rfl)
  have hab1 : fa 1 ≠ fb 1 := hne_of w1 w2 (fun z => by cases z)
  have keep : ∀ (C : Nat → Int64) (q p : Nat) (e : va_E), h' p = some e → p ≠ fa 1 → p ≠ fb 1 → va_up (va_up h' (fb 1) (some (fo_b G 400 C))) (fa 1) (some (fo_c (fb 1) 400 q)) p = some e := fun C q p e hp k1 k2 => hu_ne k1 (hu_ne k2 hp)
  have k0 := fun C q => keep C q _ _ h0 (hne_of h0 w1 (fun z => by cases z)) (hne_of h0 w2 (fun z => by cases z))
  have kw1 : ∀ C q, va_up (va_up h' (fb 1) (some (fo_b G 400 C))) (fa 1) (some (fo_c (fb 1) 400 q)) (fa 1) = some (fo_c (fb 1) 400 q) := fun C q => va_up_self _ _ _
  have kw2 : ∀ C q, va_up (va_up h' (fb 1) (some (fo_b G 400 C))) (fa 1) (some (fo_c (fb 1) 400 q)) (fb 1) = some (fo_b G 400 C) := fun C q => hu_ne (Ne.symm hab1) (va_up_self _ _ _)
  have kt1 := fun C q => keep C q _ _ t1 ht1 (hne_of t1 w2 (fun z => by cases z))
  have kt2 := fun C q => keep C q _ _ t2 (Ne.symm (hne_of w1 t2 (fun z => by cases z))) ht1b
  have ku1 := fun C q => keep C q _ _ u1 hu1 (hne_of u1 w2 (fun z => by cases z))
  have ku2 := fun C q => keep C q _ _ u2 (Ne.symm (hne_of w1 u2 (fun z => by cases z))) hu1b
  have kk : ∀ C q C' q', va_up (va_up (va_up (va_up h' (fb 1) (some (fo_b G 400 C))) (fa 1) (some (fo_c (fb 1) 400 q))) (fb 1) (some (fo_b G 400 C'))) (fa 1) (some (fo_c (fb 1) 400 q')) = va_up (va_up h' (fb 1) (some (fo_b G 400 C'))) (fa 1) (some (fo_c (fb 1) 400 q')) := fun C q C' q' => by
    rw [hu_comm hab1, hu_uu, hu_uu]
  refine ev_aload_0 i_rd_endAtom_28 ?_
  refine ev_get i_rd_endAtom_29 fl_rd_31 (by repeat (first | assumption | exact va_up_self _ _ _ | refine hu_ne (by first | assumption | exact Ne.symm (by assumption)) ?_)) rfl ?_
  refine ev_vv0 i_rd_endAtom_32 lk_rd_88 cb_fo_clear iv_fo_clear (r_fo_clear w1) w1 rfl (by decide) (Nat.le_of_ble_eq_true rfl) rfl rfl (fun h2 hq => ?_)
  have hq' : h2 = va_up (va_up h' (fb 1) (some (fo_b G 400 B0))) (fa 1) (some (fo_c (fb 1) 400 0)) := by rw [hu_self w2]; exact hq
  subst hq'
  refine ev_iconst (v := 0) i_rd_endAtom_35 (by decide) ?_
  refine ev_istore_3 i_rd_endAtom_36 rfl ?_
  have outer : ∀ (m i : Nat) (C : Nat → Int64) (q : Nat) (w4 : Option Value), ev_nl w4 = true → i + m = n1 → q ≤ 400 → li q C = jall (li i B1) (X w) → Ev G M_rd_endAtom 3 0 0 (ev_qv fun h' => rd_at G h' a tx ea aa fa fb len opn 3 nm (mAtom tm X (13 + opn) w) TX (xAtom X (13 + opn) w) ∧ rfr a fa fb h h') 37 [some (.ref a), some (.ref (fa w)), some (.ref (fa (13 + opn))), some (.int (nI i)), w4] [] (va_up (va_up h' (fb 1) (some (fo_b G 400 C))) (fa 1) (some (fo_c (fb 1) 400 q))) := by
    intro m
    induction m with
    | zero =>
      intro i C q w4 hw4 hi hq hl
      obtain rfl : i = n1 := by omega
      rw [t4] at hl
      refine ev_iload_3 i_rd_endAtom_37 ?_
      refine ev_aload_2 i_rd_endAtom_38 ?_
      refine ev_vi0 i_rd_endAtom_39 lk_rd_91 cb_fo_size iv_fo_size (r_fo_size (kt1 C q)) (kt1 C q) rfl (by decide) (Nat.le_of_ble_eq_true rfl) rfl rfl (fun x h3 hx => ?_)
      obtain ⟨rfl, rfl⟩ := hx
      refine ev_icmp_ge i_rd_endAtom_42 (fun c_42 => ?_) (fun c_42 => ?_)
      rotate_left
      · exact absurd (nI_le (Nat.le_refl _) (by omega)) c_42
      obtain ⟨H2, R2⟩ := rd_form (C := C) (q := q) (Y := jall (X (13 + opn)) (X w)) H1 (show 1 < 24 by omega) (by rw [rm_w]; exact hq) hl
      rw [rm_w] at H2 R2
      refine ev_aload_0 i_rd_endAtom_81 ?_
      refine ev_aload_2 i_rd_endAtom_82 ?_
      refine ev_vv1 i_rd_endAtom_83 lk_rd_102 cb_rd_keepWork iv_rd_keepWork (r_rd_keepWork H2 (show 2 ≤ 13 + opn by omega) (by omega)) (k0 C q) rfl (by decide) (Nat.le_of_ble_eq_true rfl) rfl rfl (fun h3 hx => ?_)
      obtain ⟨H3, R3⟩ := hx
      refine ev_return i_rd_endAtom_86 rfl ?_
      rw [va_up_self] at H3
      unfold mAtom xAtom
      rw [if_neg hz, if_neg hz]
      exact ⟨rfl, H3, rfr_tr R1 (rfr_tr R2 R3)⟩
    | succ m ih =>
      intro i C q w4 hw4 hi hq hl
      refine ev_iload_3 i_rd_endAtom_37 ?_
      refine ev_aload_2 i_rd_endAtom_38 ?_
      refine ev_vi0 i_rd_endAtom_39 lk_rd_91 cb_fo_size iv_fo_size (r_fo_size (kt1 C q)) (kt1 C q) rfl (by decide) (Nat.le_of_ble_eq_true rfl) rfl rfl (fun x h3 hx => ?_)
      obtain ⟨rfl, rfl⟩ := hx
      refine ev_icmp_ge i_rd_endAtom_42 (fun c_42 => ?_) (fun c_42 => ?_)
      · exact absurd c_42 (nI_ge (by omega) (by omega))
      refine ev_iconst (v := 0) i_rd_endAtom_45 (by decide) ?_
      refine ev_istore_4 i_rd_endAtom_46 rfl ?_
      have inner : ∀ (mm k : Nat) (C : Nat → Int64) (q : Nat), k + mm = n2 → q ≤ 400 → li q C = jrow (c3 B1 i) (jall (li i B1) (X w)) (li k B2) → Ev G M_rd_endAtom 3 0 0 (ev_qv fun h' => rd_at G h' a tx ea aa fa fb len opn 3 nm (mAtom tm X (13 + opn) w) TX (xAtom X (13 + opn) w) ∧ rfr a fa fb h h') 48 [some (.ref a), some (.ref (fa w)), some (.ref (fa (13 + opn))), some (.int (nI i)), some (.int (nI k))] [] (va_up (va_up h' (fb 1) (some (fo_b G 400 C))) (fa 1) (some (fo_c (fb 1) 400 q))) := by
        intro mm
        induction mm with
        | zero =>
          intro k C q hk hq hl
          obtain rfl : k = n2 := by omega
          refine ev_iload_4 i_rd_endAtom_48 ?_
          refine ev_aload_1 i_rd_endAtom_50 ?_
          refine ev_vi0 i_rd_endAtom_51 lk_rd_91 cb_fo_size iv_fo_size (r_fo_size (ku1 C q)) (ku1 C q) rfl (by decide) (Nat.le_of_ble_eq_true rfl) rfl rfl (fun x h3 hx => ?_)
          obtain ⟨rfl, rfl⟩ := hx
          refine ev_icmp_ge i_rd_endAtom_54 (fun c_54 => ?_) (fun c_54 => ?_)
          rotate_left
          · exact absurd (nI_le (Nat.le_refl _) (by omega)) c_54
          refine ev_iinc_3 i_rd_endAtom_75 (nI_1 i) rfl ?_
          refine ev_goto i_rd_endAtom_78 ?_
          exact ih (i + 1) C q _ rfl (by omega) hq (by rw [hl, u4, jall_s])
        | succ mm ihh =>
          intro k C q hk hq hl
          refine ev_iload_4 i_rd_endAtom_48 ?_
          refine ev_aload_1 i_rd_endAtom_50 ?_
          refine ev_vi0 i_rd_endAtom_51 lk_rd_91 cb_fo_size iv_fo_size (r_fo_size (ku1 C q)) (ku1 C q) rfl (by decide) (Nat.le_of_ble_eq_true rfl) rfl rfl (fun x h3 hx => ?_)
          obtain ⟨rfl, rfl⟩ := hx
          refine ev_icmp_ge i_rd_endAtom_54 (fun c_54 => ?_) (fun c_54 => ?_)
          · exact absurd c_54 (nI_ge (by omega) (by omega))
          refine ev_aload_0 i_rd_endAtom_57 ?_
          refine ev_get i_rd_endAtom_58 fl_rd_31 (k0 C q) rfl ?_
          refine ev_aload_2 i_rd_endAtom_61 ?_
          refine ev_iload_3 i_rd_endAtom_62 ?_
          refine ev_aload_1 i_rd_endAtom_63 ?_
          refine ev_iload_4 i_rd_endAtom_64 ?_
          refine ev_vv4 i_rd_endAtom_66 lk_rd_98 cb_fo_addJoined iv_fo_addJoined (r_fo_addJoined (kw1 C q) (kw2 C q) (by omega) hq (kt1 C q) (kt2 C q) (by omega) t3 (show i < n1 by omega) (ku1 C q) (ku2 C q) (by omega) u3 (show k < n2 by omega)) (kw1 C q) rfl (by decide) (Nat.le_of_ble_eq_true rfl) rfl rfl (fun h3 hx => ?_)
          obtain ⟨C', q', rfl, hq', hl'⟩ := hx
          rw [kk]
          refine ev_iinc_4 i_rd_endAtom_69 (nI_1 k) rfl ?_
          refine ev_goto i_rd_endAtom_72 ?_
          exact ihh (k + 1) C' q' (by omega) hq' (by rw [hl', hl, jrow_s])
      exact inner n2 0 C q (by omega) hq hl
  exact outer n1 0 B0 0 none rfl (by omega) (by omega) rfl
end RD2
