section ALK
variable {A : Nat → Nat → Int32} {C : Nat → Nat} {n p n' : Nat} {B : Nat → Int64} {R : List Int32}
theorem sumb_inj {f : Nat → Bool} {a b : Nat} (ha : f a = true) (hb : f b = true) (e : sumb f a = sumb f b) : a = b := by
  rcases Nat.lt_trichotomy a b with z | z | z
  · have := sumb_lt z ha; omega
  · exact z
  · have := sumb_lt z hb; omega
theorem pair_eq (hP : PF A p n' B C n R) {i : Nat} (hi : i < R.length) (k : Int32) : codef (cs B i) k = mpairf (gd R i) (fun a => A 11 (30 * p + a)) n k := by
  obtain ⟨h1, h2, h3, h4, h5, h6, -⟩ := id hP
  have hC : ∀ k, k < n → C k < 192 := fun k hk => by have := (h4 k hk).1; omega
  have rank : ∀ a, a < n → sumb (mbel (gd R i) (fun a => A 11 (30 * p + a)) a) n = sumb (cs B i) (C a) := by
    intro a ha
    rw [sumb_cg (f := cs B i) (g := t3b (ph C (gd R i) n)) (C a) (fun c hc => by rw [cs_t3b _ _ (by have := hC a ha; omega), (h6 i hi).2]), ph_cnt (C a) (by have := hC a ha; omega) n hC h5]
    refine sumb_cg n (fun b hb => ?_)
    unfold mbel
    rw [mb_ib (by omega)]
    show (ib (gd R i) b && decide (A 11 (30 * p + b) < A 11 (30 * p + a))) = _
    rw [(h4 b hb).2, (h4 a ha).2]
    congr 1
    exact decide_eq_decide.mpr (nI_ltI (by have := hC b hb; omega) (by have := hC a ha; omega))
  have sl := sumb_le (cs B i)
  unfold codef mpairf
  cases hc : (List.range 144).find? (fun c => cs B i c && decide (nI (sumb (cs B i) c) = k)) with
  | none =>
    cases ha : (List.range n).find? (fun a => mb (gd R i) a && decide (nI (sumb (mbel (gd R i) (fun a => A 11 (30 * p + a)) a) n) = k)) with
    | none => rfl
    | some a =>
      exfalso
      have hm := List.mem_range.mp (List.mem_of_find?_eq_some ha)
      have hp := List.find?_some ha
      simp only [Bool.and_eq_true, decide_eq_true_eq] at hp
      rw [rank a hm, mb_ib (by omega)] at hp
      have := List.find?_eq_none.mp hc (C a) (List.mem_range.mpr (h4 a hm).1)
      apply this
      simp only [Bool.and_eq_true, decide_eq_true_eq]
      exact ⟨(PF_S hP hi (hC a hm)).mpr ⟨a, hm, hp.1, rfl⟩, hp.2⟩
  | some c =>
    have hm := List.mem_range.mp (List.mem_of_find?_eq_some hc)
    have hp := List.find?_some hc
    simp only [Bool.and_eq_true, decide_eq_true_eq] at hp
    obtain ⟨a, a1, a2, a3⟩ := (PF_S hP hi (by omega)).mp hp.1
    cases ha : (List.range n).find? (fun a => mb (gd R i) a && decide (nI (sumb (mbel (gd R i) (fun a => A 11 (30 * p + a)) a) n) = k)) with
    | none =>
      exfalso
      apply List.find?_eq_none.mp ha a (List.mem_range.mpr a1)
      simp only [Bool.and_eq_true, decide_eq_true_eq]
      rw [rank a a1, mb_ib (by omega), a3]
      exact ⟨a2, hp.2⟩
    | some a' =>
      have hm' := List.mem_range.mp (List.mem_of_find?_eq_some ha)
      have hp' := List.find?_some ha
      simp only [Bool.and_eq_true, decide_eq_true_eq] at hp'
      rw [rank a' hm', mb_ib (by omega)] at hp'
      show nI c = A 11 (30 * p + a')
      rw [(h4 a' hm').2]
      have e : nI (sumb (cs B i) c) = nI (sumb (cs B i) (C a')) := hp.2.trans hp'.2.symm
      rw [nI_eq (by have := sl c; omega) (by have := sl (C a'); have := hC a' hm'; omega)] at e
      rw [sumb_inj hp.1 ((PF_S hP hi (hC a' hm')).mpr ⟨a', hm', hp'.1, rfl⟩) e]
/-- the licences found -/
theorem i32_lt {x y : Int32} : x < y ↔ x.toInt < y.toInt := Int32.lt_iff_toInt_lt
theorem i32_eq {x y : Int32} : x = y ↔ x.toInt = y.toInt := Int32.toInt_inj.symm
def fdP (W : Nat → Int64) (y : Int64) (n : Nat) : Prop :=
  (fnd W y n = (-1, -1, 59) ∧ mtop W y n = 60 ∧ ∀ l, l < n → msc y (W l) < 60) ∨
  (∃ l1, l1 < n ∧ msc y (W l1) = mtop W y n ∧ (∀ l, l < l1 → ¬ msc y (W l) = mtop W y n) ∧ (60 : Int32) ≤ mtop W y n ∧ (fnd W y n).1 = nI l1 ∧ (fnd W y n).2.2 = mtop W y n ∧ (∀ l, l < n → msc y (W l) ≤ mtop W y n) ∧
    (((fnd W y n).2.1 = -1 ∧ ∀ l, l1 < l → l < n → ¬ msc y (W l) = mtop W y n) ∨ (∃ l2, l1 < l2 ∧ l2 < n ∧ msc y (W l2) = mtop W y n ∧ (∀ l, l1 < l → l < l2 → ¬ msc y (W l) = mtop W y n) ∧ (fnd W y n).2.1 = nI l2)))
theorem fdP_all (W : Nat → Int64) (y : Int64) : ∀ n, n ≤ 16 → fdP W y n := by
  intro n
  induction n with
  | zero => intro _; exact Or.inl ⟨rfl, rfl, fun l hl => by omega⟩
  | succ n ih =>
    intro hn
    have es : mtop W y (n + 1) = if mtop W y n < msc y (W n) then msc y (W n) else mtop W y n := rfl
    unfold fdP
    rw [fnd_s, es, msc_eq]
    rcases ih (by omega) with ⟨a1, a2, a3⟩ | ⟨l1, b1, b2, b3, b4, b5, b6, b7, b8⟩
    · rw [a1, a2]
      by_cases hs : (59 : Int32) < msc y (W n)
      · have e60 : (if (60 : Int32) < msc y (W n) then msc y (W n) else 60) = msc y (W n) := by
          split
          · rfl
          · rename_i z
            rw [i32_lt] at z hs
            rw [i32_eq]
            have e1 : (59 : Int32).toInt = 59 := by decide
            have e2 : (60 : Int32).toInt = 60 := by decide
            omega
        rw [if_pos hs, e60]
        have h60 : (60 : Int32) ≤ msc y (W n) := by
          rw [Int32.le_iff_toInt_le]
          rw [i32_lt] at hs
          have e1 : (59 : Int32).toInt = 59 := by decide
          have e2 : (60 : Int32).toInt = 60 := by decide
          omega
        have hlt : ∀ l, l < n → msc y (W l) < msc y (W n) := fun l hl => by
          have := a3 l hl
          rw [i32_lt] at this ⊢
          rw [Int32.le_iff_toInt_le] at h60
          omega
        refine Or.inr ⟨n, by omega, rfl, fun l hl e => ?_, h60, rfl, rfl, fun l hl => ?_, Or.inl ⟨rfl, fun l h1 h2 => by omega⟩⟩
        · have := hlt l hl
          rw [e] at this
          rw [i32_lt] at this
          omega
        · by_cases e : l = n
          · rw [e, Int32.le_iff_toInt_le]; omega
          · have := hlt l (by omega)
            rw [i32_lt] at this
            rw [Int32.le_iff_toInt_le]
            omega
      · have e60 : (if (60 : Int32) < msc y (W n) then msc y (W n) else 60) = 60 := if_neg (fun z => hs (by
          rw [i32_lt] at z ⊢
          have e1 : (59 : Int32).toInt = 59 := by decide
          have e2 : (60 : Int32).toInt = 60 := by decide
          omega))
        rw [if_neg hs, e60, if_neg (fun z => z.2.1 rfl)]
        refine Or.inl ⟨rfl, rfl, fun l hl => ?_⟩
        by_cases e : l = n
        · rw [e]
          rw [i32_lt] at hs ⊢
          have e1 : (59 : Int32).toInt = 59 := by decide
          have e2 : (60 : Int32).toInt = 60 := by decide
          omega
        · exact a3 l (by omega)
    · rw [b6]
      have nm1 : ∀ j, j < 20 → ¬ nI j = -1 := fun j hj => nI_nm1 (by omega)
      by_cases hs : mtop W y n < msc y (W n)
      · rw [if_pos hs, if_pos hs]
        refine Or.inr ⟨n, by omega, rfl, fun l hl e => ?_, ?_, rfl, rfl, fun l hl => ?_, Or.inl ⟨rfl, fun l h1 h2 => by omega⟩⟩
        · have := b7 l hl
          rw [e, Int32.le_iff_toInt_le] at this
          rw [i32_lt] at hs
          omega
        · rw [Int32.le_iff_toInt_le] at b4 ⊢
          rw [i32_lt] at hs
          omega
        · by_cases e : l = n
          · rw [e, Int32.le_iff_toInt_le]; omega
          · have := b7 l (by omega)
            rw [Int32.le_iff_toInt_le] at this ⊢
            rw [i32_lt] at hs
            omega
      · rw [if_neg hs, if_neg hs]
        have ble : msc y (W n) ≤ mtop W y n := Int32.not_lt.mp hs
        have b7' : ∀ l, l < n + 1 → msc y (W l) ≤ mtop W y n := fun l hl => by
          by_cases e : l = n
          · rw [e]; exact ble
          · exact b7 l (by omega)
        by_cases heq : msc y (W n) = mtop W y n
        · rcases b8 with ⟨c1, c2⟩ | ⟨l2, c1, c2, c3, c4, c5⟩
          · rw [if_pos ⟨heq, by rw [b5]; exact nm1 l1 (by omega), c1⟩]
            refine Or.inr ⟨l1, by omega, b2, b3, b4, b5, rfl, b7', Or.inr ⟨n, b1, by omega, heq, fun l h1 h2 => c2 l h1 h2, rfl⟩⟩
          · rw [if_neg (fun z => absurd (c5.symm.trans z.2.2) (nm1 l2 (by omega)))]
            exact Or.inr ⟨l1, by omega, b2, b3, b4, b5, b6, b7', Or.inr ⟨l2, c1, by omega, c3, c4, c5⟩⟩
        · rw [if_neg (fun z => heq z.1)]
          refine Or.inr ⟨l1, by omega, b2, b3, b4, b5, b6, b7', ?_⟩
          rcases b8 with ⟨c1, c2⟩ | ⟨l2, c1, c2, c3, c4, c5⟩
          · refine Or.inl ⟨c1, fun l h1 h2 => ?_⟩
            by_cases e : l = n
            · rw [e]; exact heq
            · exact c2 l h1 (by omega)
          · exact Or.inr ⟨l2, c1, by omega, c3, c4, c5⟩
theorem fnd_eq (W : Nat → Int64) (y : Int64) {n : Nat} (hn : n ≤ 16) : (fnd W y n).1 = mfnd W y n 0 ∧ (fnd W y n).2.1 = mfnd W y n 1 := by
  unfold mfnd
  have hf : ∀ l, ¬ msc y (W l) = mtop W y n → mhit W y (mtop W y n) l = false := fun l h => decide_eq_false h
  have ht : ∀ l, msc y (W l) = mtop W y n → mhit W y (mtop W y n) l = true := fun l h => decide_eq_true h
  have none_of : ∀ (o j : Nat), (∀ l, l < j → (mhit W y (mtop W y n) l && decide (sumb (mhit W y (mtop W y n)) l = o)) = false) → (List.range j).find? (fun l => mhit W y (mtop W y n) l && decide (sumb (mhit W y (mtop W y n)) l = o)) = none := by
    intro o j h
    exact List.find?_eq_none.mpr (fun l hl z => by rw [h l (List.mem_range.mp hl)] at z; cases z)
  rcases fdP_all W y n hn with ⟨a1, a2, a3⟩ | ⟨l1, b1, b2, b3, b4, b5, b6, b7, b8⟩
  · have hno : ∀ l, l < n → mhit W y (mtop W y n) l = false := fun l hl => hf l (fun e => by
      have := a3 l hl
      rw [e, a2, i32_lt] at this
      omega)
    rw [none_of 0 n (fun l hl => by rw [hno l hl]; rfl), none_of 1 n (fun l hl => by rw [hno l hl]; rfl), a1]
    exact ⟨rfl, rfl⟩
  · have z1 : sumb (mhit W y (mtop W y n)) l1 = 0 := sumb_z l1 (fun l hl => hf l (b3 l hl))
    rw [fd_h (j := l1) (none_of 0 l1 (fun l hl => by rw [hf l (b3 l hl)]; rfl)) b1 (by rw [ht l1 b2, z1]; rfl)]
    refine ⟨b5, ?_⟩
    have s1 : ∀ l, l1 < l → (∀ j, l1 < j → j < l → ¬ msc y (W j) = mtop W y n) → sumb (mhit W y (mtop W y n)) l = 1 := by
      intro l hl h
      obtain ⟨k, rfl⟩ : ∃ k, l = l1 + 1 + k := ⟨l - l1 - 1, by omega⟩
      rw [sumb_add (l1 + 1) k, sumb_z (f := fun i => mhit W y (mtop W y n) (l1 + 1 + i)) k (fun i hi => hf _ (h _ (by omega) (by omega)))]
      show sumb _ l1 + (if mhit W y (mtop W y n) l1 then 1 else 0) + 0 = 1
      rw [z1, ht l1 b2]
      rfl
    have low : ∀ l, l ≤ l1 → (mhit W y (mtop W y n) l && decide (sumb (mhit W y (mtop W y n)) l = 1)) = false := by
      intro l hl
      by_cases e : l = l1
      · subst e; rw [z1]; simp
      · rw [hf l (b3 l (by omega))]; rfl
    rcases b8 with ⟨c1, c2⟩ | ⟨l2, c1, c2, c3, c4, c5⟩
    · rw [none_of 1 n (fun l hl => by
        rcases Nat.lt_or_ge l1 l with z | z
        · rw [hf l (c2 l z hl)]; rfl
        · exact low l z)]
      exact c1
    · rw [fd_h (j := l2) (none_of 1 l2 (fun l hl => by
        rcases Nat.lt_or_ge l1 l with z | z
        · rw [hf l (c4 l z hl)]; rfl
        · exact low l z)) c2 (by rw [ht l2 c3, s1 l2 c1 c4]; rfl)]
      exact c5
theorem rv_in_cg {U V U' V' : Nat → Int32} {at_ : Nat} {s : rvs} : ∀ k, (∀ i, i < k → U i = U' i ∧ V i = V' i) → rv_in U V at_ s k = rv_in U' V' at_ s k := by
  intro k
  induction k with
  | zero => exact fun _ => rfl
  | succ k ih =>
    intro h
    show rv_add (rv_in U V at_ s k) (U k) (if (rv_in U V at_ s k).2.2.1 at_ < V k then V k else (rv_in U V at_ s k).2.2.1 at_) (nI at_) = rv_add (rv_in U' V' at_ s k) (U' k) (if (rv_in U' V' at_ s k).2.2.1 at_ < V' k then V' k else (rv_in U' V' at_ s k).2.2.1 at_) (nI at_)
    rw [ih (fun i hi => h i (by omega)), (h k (by omega)).1, (h k (by omega)).2]
theorem rv_out_cg {US US' : Nat → Nat × (Nat → Int32) × (Nat → Int32)} {np : Nat} {s : rvs} (hs : rv_ok np s) (hnp : np ≤ 16) (h1 : ∀ p, p < np → (US p).1 = (US' p).1 ∧ ∀ k, k < (US p).1 → (US p).2.1 k = (US' p).2.1 k ∧ (US p).2.2 k = (US' p).2.2 k) (h2 : ∀ p, p < np → ∀ k, k < (US p).1 → ∃ a b : Nat, a < np ∧ b < 3 ∧ (US p).2.1 k = nI a ∧ (US p).2.2 k = nI b) : ∀ i, rv_out US s i = rv_out US' s i ∧ rv_ok np (rv_out US s i) := by
  intro i
  induction i with
  | zero => exact ⟨rfl, hs⟩
  | succ i ih =>
    obtain ⟨e, ok⟩ := ih
    show (if i < (rv_out US s i).1 then rv_in (US ((rv_out US s i).2.1 i).toNatClampNeg).2.1 (US ((rv_out US s i).2.1 i).toNatClampNeg).2.2 i (rv_out US s i) (US ((rv_out US s i).2.1 i).toNatClampNeg).1 else rv_out US s i) = (if i < (rv_out US' s i).1 then rv_in (US' ((rv_out US' s i).2.1 i).toNatClampNeg).2.1 (US' ((rv_out US' s i).2.1 i).toNatClampNeg).2.2 i (rv_out US' s i) (US' ((rv_out US' s i).2.1 i).toNatClampNeg).1 else rv_out US' s i) ∧ rv_ok np (if i < (rv_out US s i).1 then rv_in (US ((rv_out US s i).2.1 i).toNatClampNeg).2.1 (US ((rv_out US s i).2.1 i).toNatClampNeg).2.2 i (rv_out US s i) (US ((rv_out US s i).2.1 i).toNatClampNeg).1 else rv_out US s i)
    rw [← e]
    by_cases hi : i < (rv_out US s i).1
    · rw [if_pos hi, if_pos hi]
      obtain ⟨a, b, a1, a2, a3, a4⟩ := ok.2 i hi
      rw [a3, nI_clamp (by omega)]
      obtain ⟨u1, u2⟩ := h1 a a1
      refine ⟨?_, (rv_in_ok ok hi _ (h2 a a1)).1⟩
      rw [← u1]
      exact rv_in_cg _ u2
    · rw [if_neg hi, if_neg hi]
      exact ⟨rfl, ok⟩
theorem kf_at {E K : Nat → Int32} : ∀ (n q : Nat), q < n → kf E K n q = E q := by
  intro n
  induction n with
  | zero => intro q h; omega
  | succ n ih =>
    intro q h
    show upd (kf E K n) n (E n) q = E q
    by_cases e : q = n
    · subst e; rw [pk_us]
    · rw [upd_ne e]; exact ih q (by omega)
end ALK
