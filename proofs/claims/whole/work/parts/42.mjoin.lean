section MR2
variable {G : ev_G} {h h0 : ev_H} {m : Nat} {ad : Nat → Nat} {sc : Nat → Int32} {A : Nat → Nat → Int32} {Wd : Nat → Int64}
/-- a row of choices in the reference -/
def rowAt (A : Nat → Nat → Int32) (r : Nat) (R : List Int32) : Prop := A 20 r = nI R.length ∧ R.length ≤ 20 ∧ ∀ i, i < R.length → A 19 (20 * r + i) = gd R i
def wkf (f : Nat → Int32) (W : List Int32) : Prop := ∀ i, i < W.length → f i = gd W i
theorem wkf_s {f : Nat → Int32} {W : List Int32} {v : Int32} (h : wkf f W) : wkf (upd f W.length v) (W ++ [v]) := by
  intro i hi
  by_cases e : i = W.length
  · subst e; rw [pk_us, gd_e]
  · have : i < W.length := by simp at hi; omega
    rw [upd_ne e, gd_l this, h i this]
def andL (X Y : List Int32) : List Int32 := X.flatMap (fun a => Y.map (fun b => a ||| b))
def cutM (W : List Int32) : List Int32 := (redM W).take 20
def ovM (W : List Int32) (f : Int32) : Int32 := if 20 < (redM W).length then 1 else f
def jfr (A A' : Nat → Nat → Int32) (a : Nat) : Prop := (∀ k, k ≠ 19 → k ≠ 20 → k ≠ 21 → A' k = A k) ∧ (∀ j, j < 20 * a → A' 19 j = A 19 j) ∧ (∀ r, r ≠ a → A' 20 r = A 20 r)
theorem mkeep_s (f : Nat → Int32) (n i : Nat) : mkeep f n (i + 1) = mkeep f n i ++ (if (List.range n).any (mout f i) then [] else [f i]) := by
  unfold mkeep
  rw [List.range_succ, List.filter_append, List.map_append]
  congr 1
  rw [List.filter_cons]
  cases (List.range n).any (mout f i) <;> rfl
theorem mkeep_le (f : Nat → Int32) (n i : Nat) : (mkeep f n i).length ≤ i := by
  unfold mkeep
  rw [List.length_map]
  have := List.length_filter_le (fun j => !(List.range n).any (mout f j)) (List.range i)
  rw [List.length_range] at this
  exact this
theorem mkeep_pre (f : Nat → Int32) (n i : Nat) : ∀ q, ∃ V, mkeep f n (i + q) = mkeep f n i ++ V := by
  intro q
  induction q with
  | zero => exact ⟨[], by simp⟩
  | succ q ih =>
    obtain ⟨V, e⟩ := ih
    refine ⟨V ++ (if (List.range n).any (mout f (i + q)) then [] else [f (i + q)]), ?_⟩
    rw [show i + (q + 1) = i + q + 1 by omega, mkeep_s, e, List.append_assoc]
theorem take_s {X : List Int32} {i : Nat} (h : i < X.length) : X.take (i + 1) = X.take i ++ [gd X i] := by rw [gd_at h, List.take_succ_eq_append_getElem h]
theorem andL_s {X Y : List Int32} {i : Nat} (h : i < X.length) : andL (X.take (i + 1)) Y = andL (X.take i) Y ++ Y.map (fun b => gd X i ||| b) := by
  rw [take_s h]
  unfold andL
  rw [List.flatMap_append]
  simp
theorem andL_len (X Y : List Int32) : (andL X Y).length = X.length * Y.length := by
  unfold andL
  induction X with
  | nil => simp
  | cons x X ih => rw [List.flatMap_cons, List.length_append, ih, List.length_map, List.length_cons, Nat.succ_mul, Nat.add_comm]
theorem r_mo_join2 {a : Nat} {its : Int32} {W : List Int32} {f : Nat → Int32} {w5 w6 w7 : Option Value} (H : MI G h0 h m ad sc (va_up A 21 f) Wd) (hs : sc 24 = nI (a + 2)) (ha : a < 40) (hW : wkf f W) (hWl : W.length ≤ 400) (n5 : ev_nl w5 = true) (n6 : ev_nl w6 = true) (n7 : ev_nl w7 = true) :
    Ev G M_mo_join 0 0 0 (ev_qv fun h' => ∃ A', MI G h0 h' m ad (va_up (va_up sc 24 (nI (a + 1))) 27 (ovM W (sc 27))) A' Wd ∧ rowAt A' a (cutM W) ∧ jfr A A' a) 174 [some (.ref m), some (.int its), some (.int (nI a)), some (.int (nI (a + 1))), some (.int (nI W.length)), w5, w6, w7] [] h := by
  refine ev_aload_0 i_mo_join_174 ?_
  refine ev_dup i_mo_join_175 rfl ?_
  refine ev_get i_mo_join_176 fl_mo_104 H.1 rfl ?_
  refine ev_iconst (v := 1) i_mo_join_179 (by decide) ?_
  refine ev_isub i_mo_join_180 ?_
  refine ev_top (y := nI (a + 1)) (by rw [hs]; exact nI_pred (a + 1)) ?_
  refine ev_p24 i_mo_join_181 pl_mo_join_104 H (fun h H => ?_)
  refine ev_aload_0 i_mo_join_184 ?_
  refine ev_get i_mo_join_185 fl_mo_57 H.1 rfl ?_
  refine ev_iload_2 i_mo_join_188 ?_
  refine ev_iconst (v := 0) i_mo_join_189 (by decide) ?_
  refine ev_is (L := 40) i_mo_join_190 H rfl rfl (j := a) rfl (by omega) (by omega) (fun h H => ?_)
  refine ev_iconst (v := 0) i_mo_join_191 (by decide) ?_
  refine ev_istore_5 i_mo_join_192 rfl ?_
  have e20 : ∀ k : Nat, (20 : Int32) * nI a + nI k = nI (20 * a + k) := fun k => by rw [show (20 : Int32) = nI 20 from rfl, pk_mul, nI_add]
  have loop : ∀ (q i : Nat) (h' : ev_H) (A' : Nat → Nat → Int32) (w6 w7 : Option Value), ev_nl w6 = true → ev_nl w7 = true → i + q = W.length → (mkeep (gd W) W.length i).length ≤ 20 → MI G h0 h' m ad (va_up sc 24 (nI (a + 1))) A' Wd → A' 21 = f → rowAt A' a (mkeep (gd W) W.length i) → jfr A A' a → Ev G M_mo_join 0 0 0 (ev_qv fun h' => ∃ A', MI G h0 h' m ad (va_up (va_up sc 24 (nI (a + 1))) 27 (ovM W (sc 27))) A' Wd ∧ rowAt A' a (cutM W) ∧ jfr A A' a) 194 [some (.ref m), some (.int its), some (.int (nI a)), some (.int (nI (a + 1))), some (.int (nI W.length)), some (.int (nI i)), w6, w7] [] h' := by
    intro q
    induction q with
    | zero =>
      intro i h' A' w6 w7 n6 n7 hi hl H g1 g2 g3
      obtain rfl : i = W.length := by omega
      rw [mkeep_red] at g2 hl
      refine ev_iload_5 i_mo_join_194 ?_
      refine ev_iload_4 i_mo_join_196 ?_
      refine ev_icmp_ge i_mo_join_198 (fun c_198 => ?_) (fun c_198 => ?_)
      rotate_left
      · exact absurd (nI_le (Nat.le_refl _) (by omega)) c_198
      refine ev_return i_mo_join_347 rfl ?_
      refine ⟨rfl, A', ?_, ?_, g3⟩
      · unfold ovM
        rw [if_neg (by omega), hu_self (f := va_up sc 24 (nI (a + 1))) (a := 27) (v := sc 27) rfl]
        exact H
      · unfold cutM
        rw [List.take_of_length_le hl]
        exact g2
    | succ q ih =>
      intro i h' A' w6 w7 n6 n7 hi hl H g1 g2 g3
      have nx := ih (i + 1)
      rw [mkeep_s] at nx
      refine ev_iload_5 i_mo_join_194 ?_
      refine ev_iload_4 i_mo_join_196 ?_
      refine ev_icmp_ge i_mo_join_198 (fun c_198 => ?_) (fun c_198 => ?_)
      · exact absurd c_198 (nI_ge (by omega) (by omega))
      refine ev_iconst (v := 0) i_mo_join_201 (by decide) ?_
      refine ev_istore_6 i_mo_join_202 rfl ?_
      refine ev_iconst (v := 0) i_mo_join_204 (by decide) ?_
      refine ev_istore_7 i_mo_join_205 rfl ?_
      have inner : ∀ (q2 k : Nat), k + q2 = W.length → Ev G M_mo_join 0 0 0 (ev_qv fun h' => ∃ A', MI G h0 h' m ad (va_up (va_up sc 24 (nI (a + 1))) 27 (ovM W (sc 27))) A' Wd ∧ rowAt A' a (cutM W) ∧ jfr A A' a) 207 [some (.ref m), some (.int its), some (.int (nI a)), some (.int (nI (a + 1))), some (.int (nI W.length)), some (.int (nI i)), some (.int (if (List.range k).any (mout (gd W) i) then 1 else 0)), some (.int (nI k))] [] h' := by
        intro q2
        induction q2 with
        | zero =>
          intro k hk
          obtain rfl : k = W.length := by omega
          refine ev_iload_7 i_mo_join_207 ?_
          refine ev_iload_4 i_mo_join_209 ?_
          refine ev_icmp_ge i_mo_join_211 (fun c_211 => ?_) (fun c_211 => ?_)
          rotate_left
          · exact absurd (nI_le (Nat.le_refl _) (by omega)) c_211
          cases ho : (List.range W.length).any (mout (gd W) i) with
          | true =>
            rw [ho] at nx
            rw [if_pos rfl]
            refine ev_iload_6 i_mo_join_283 ?_
            refine ev_if_eq i_mo_join_285 (fun c_285 => ?_) (fun c_285 => ?_)
            · exact absurd c_285 (by decide)
            refine ev_goto i_mo_join_288 ?_
            refine ev_iinc_5 i_mo_join_341 (nI_1 i) rfl ?_
            refine ev_goto i_mo_join_344 ?_
            refine nx h' A' _ _ rfl rfl (by omega) ?_ H g1 ?_ g3
            · rw [if_pos rfl, List.append_nil]; exact hl
            · rw [if_pos rfl, List.append_nil]; exact g2
          | false =>
            rw [ho] at nx
            rw [if_neg (by simp)]
            rw [if_neg (by simp)] at nx
            refine ev_iload_6 i_mo_join_283 ?_
            refine ev_if_eq i_mo_join_285 (fun c_285 => ?_) (fun c_285 => ?_)
            rotate_left
            · exact absurd rfl c_285
            refine ev_aload_0 i_mo_join_291 ?_
            refine ev_get i_mo_join_292 fl_mo_57 H.1 rfl ?_
            refine ev_iload_2 i_mo_join_295 ?_
            refine ev_ia (L := 40) i_mo_join_296 H rfl rfl (j := a) rfl (by omega) (by omega) ?_
            refine ev_top (y := nI (mkeep (gd W) W.length i).length) g2.1 ?_
            refine ev_bipush (v := 20) i_mo_join_297 (by decide) ?_
            refine ev_icmp_ne i_mo_join_299 (fun c_299 => ?_) (fun c_299 => ?_)
            rotate_left
            · -- too many
              have e : (mkeep (gd W) W.length i).length = 20 := (nI_eq (by omega) (by omega)).mp (show nI _ = nI 20 from c_299)
              obtain ⟨V, eV⟩ := mkeep_pre (gd W) W.length (i + 1) (W.length - (i + 1))
              rw [show i + 1 + (W.length - (i + 1)) = W.length by omega, mkeep_red, mkeep_s, ho, if_neg (by simp)] at eV
              refine ev_aload_0 i_mo_join_302 ?_
              refine ev_iconst (v := 1) i_mo_join_303 (by decide) ?_
              refine ev_p27 i_mo_join_304 pl_mo_join_107 (Or.inr rfl) H (fun h H => ?_)
              refine ev_return i_mo_join_307 rfl ?_
              refine ⟨rfl, A', ?_, ?_, g3⟩
              · unfold ovM
                rw [if_pos (by rw [eV]; simp; omega)]
                exact H
              · unfold cutM
                rw [eV, List.append_assoc, List.take_append_of_le_length (by omega), List.take_of_length_le (by omega)]
                exact g2
            · have hlt : (mkeep (gd W) W.length i).length < 20 := by
                rcases Nat.lt_or_ge (mkeep (gd W) W.length i).length 20 with z | z
                · exact z
                · exact absurd (show nI (mkeep (gd W) W.length i).length = 20 by rw [show (mkeep (gd W) W.length i).length = 20 by omega]; rfl) c_299
              generalize hK : mkeep (gd W) W.length i = K at *
              refine ev_aload_0 i_mo_join_308 ?_
              refine ev_get i_mo_join_309 fl_mo_54 H.1 rfl ?_
              refine ev_bipush (v := 20) i_mo_join_312 (by decide) ?_
              refine ev_iload_2 i_mo_join_314 ?_
              refine ev_imul i_mo_join_315 ?_
              refine ev_aload_0 i_mo_join_316 ?_
              refine ev_get i_mo_join_317 fl_mo_57 H.1 rfl ?_
              refine ev_iload_2 i_mo_join_320 ?_
              refine ev_ia (L := 40) i_mo_join_321 H rfl rfl (j := a) rfl (by omega) (by omega) ?_
              refine ev_top (y := nI K.length) g2.1 ?_
              refine ev_iadd i_mo_join_322 ?_
              refine ev_aload_0 i_mo_join_323 ?_
              refine ev_get i_mo_join_324 fl_mo_60 H.1 rfl ?_
              refine ev_iload_5 i_mo_join_327 ?_
              refine ev_ia (L := 400) i_mo_join_329 H rfl rfl (j := i) rfl (by omega) (by omega) ?_
              refine ev_top (y := gd W i) (by rw [g1]; exact hW i (by omega)) ?_
              refine ev_is (L := 800) i_mo_join_330 H rfl rfl (j := 20 * a + K.length) (e20 _) (by omega) (by omega) (fun h H => ?_)
              refine ev_aload_0 i_mo_join_331 ?_
              refine ev_get i_mo_join_332 fl_mo_57 H.1 rfl ?_
              refine ev_iload_2 i_mo_join_335 ?_
              refine ev_dup2 i_mo_join_336 rfl rfl ?_
              refine ev_ia (L := 40) i_mo_join_337 H rfl rfl (j := a) rfl (by omega) (by omega) ?_
              refine ev_iconst (v := 1) i_mo_join_338 (by decide) ?_
              refine ev_iadd i_mo_join_339 ?_
              refine ev_top (y := nI (K.length + 1)) (show A' 20 a + 1 = _ by rw [g2.1]; exact nI_1 _) ?_
              refine ev_is (L := 40) i_mo_join_340 H rfl rfl (j := a) rfl (by omega) (by omega) (fun h H => ?_)
              refine ev_iinc_5 i_mo_join_341 (nI_1 i) rfl ?_
              refine ev_goto i_mo_join_344 ?_
              refine nx _ _ _ _ rfl rfl (by omega) (by simp; omega) H g1 ?_ ?_
              · refine ⟨?_, by simp; omega, ?_⟩
                · show upd (A' 20) a (nI (K.length + 1)) a = _
                  rw [pk_us, List.length_append]; rfl
                · intro t ht
                  show upd (A' 19) (20 * a + K.length) (gd W i) (20 * a + t) = _
                  by_cases e : t = K.length
                  · subst e; rw [pk_us, gd_e]
                  · have : t < K.length := by simp at ht; omega
                    rw [upd_ne (by omega), gd_l this]
                    exact g2.2.2 t this
              · refine ⟨fun k k1 k2 k3 => ?_, fun j hj => ?_, fun r hr => ?_⟩
                · rw [va_up_ne _ _ k2, va_up_ne _ _ k1]; exact g3.1 k k1 k2 k3
                · show upd (A' 19) (20 * a + K.length) (gd W i) j = _
                  rw [upd_ne (by omega)]; exact g3.2.1 j hj
                · show upd (A' 20) a (nI (K.length + 1)) r = _
                  rw [upd_ne hr]; exact g3.2.2 r hr
        | succ q2 ih2 =>
          intro k hk
          have nx2 := ih2 (k + 1) (by omega)
          rw [any_s] at nx2
          refine ev_iload_7 i_mo_join_207 ?_
          refine ev_iload_4 i_mo_join_209 ?_
          refine ev_icmp_ge i_mo_join_211 (fun c_211 => ?_) (fun c_211 => ?_)
          · exact absurd c_211 (nI_ge (by omega) (by omega))
          cases ho : (List.range k).any (mout (gd W) i) with
          | true =>
            rw [ho, Bool.true_or, if_pos rfl] at nx2
            rw [if_pos rfl]
            refine ev_iload_6 i_mo_join_214 ?_
            refine ev_if_ne i_mo_join_216 (fun c_216 => ?_) (fun c_216 => ?_)
            rotate_left
            · exact absurd c_216 (by decide)
            refine ev_iconst (v := 1) i_mo_join_270 (by decide) ?_
            refine ev_goto i_mo_join_271 ?_
            refine ev_istore_6 i_mo_join_275 rfl ?_
            refine ev_iinc_7 i_mo_join_277 (nI_1 k) rfl ?_
            refine ev_goto i_mo_join_280 ?_
            exact nx2
          | false =>
            rw [ho, Bool.false_or] at nx2
            rw [if_neg (by simp)]
            refine ev_iload_6 i_mo_join_214 ?_
            refine ev_if_ne i_mo_join_216 (fun c_216 => ?_) (fun c_216 => ?_)
            · exact absurd rfl c_216
            refine ev_iload_7 i_mo_join_219 ?_
            refine ev_iload_5 i_mo_join_221 ?_
            refine ev_icmp_eq i_mo_join_223 (fun c_223 => ?_) (fun c_223 => ?_)
            · have e : k = i := (nI_eq (by omega) (by omega)).mp c_223
              rw [show mout (gd W) i k = false by unfold mout; rw [e]; simp, if_neg (by simp)] at nx2
              refine ev_iconst (v := 0) i_mo_join_274 (by decide) ?_
              refine ev_istore_6 i_mo_join_275 rfl ?_
              refine ev_iinc_7 i_mo_join_277 (nI_1 k) rfl ?_
              refine ev_goto i_mo_join_280 ?_
              exact nx2
            have hne : ¬ k = i := fun z => c_223 (by rw [z])
            refine ev_aload_0 i_mo_join_226 ?_
            refine ev_get i_mo_join_227 fl_mo_60 H.1 rfl ?_
            refine ev_iload_7 i_mo_join_230 ?_
            refine ev_ia (L := 400) i_mo_join_232 H rfl rfl (j := k) rfl (by omega) (by omega) ?_
            refine ev_top (y := gd W k) (by rw [g1]; exact hW k (by omega)) ?_
            refine ev_aload_0 i_mo_join_233 ?_
            refine ev_get i_mo_join_234 fl_mo_60 H.1 rfl ?_
            refine ev_iload_5 i_mo_join_237 ?_
            refine ev_ia (L := 400) i_mo_join_239 H rfl rfl (j := i) rfl (by omega) (by omega) ?_
            refine ev_top (y := gd W i) (by rw [g1]; exact hW i (by omega)) ?_
            refine ev_iconst (v := (-1)) i_mo_join_240 (by decide) ?_
            refine ev_ixor i_mo_join_241 ?_
            refine ev_iand i_mo_join_242 ?_
            refine ev_if_ne i_mo_join_243 (fun c_243 => ?_) (fun c_243 => ?_)
            · rw [show mout (gd W) i k = false by unfold mout mle; rw [decide_eq_false c_243, Bool.false_and, Bool.and_false], if_neg (by simp)] at nx2
              refine ev_iconst (v := 0) i_mo_join_274 (by decide) ?_
              refine ev_istore_6 i_mo_join_275 rfl ?_
              refine ev_iinc_7 i_mo_join_277 (nI_1 k) rfl ?_
              refine ev_goto i_mo_join_280 ?_
              exact nx2
            refine ev_aload_0 i_mo_join_246 ?_
            refine ev_get i_mo_join_247 fl_mo_60 H.1 rfl ?_
            refine ev_iload_7 i_mo_join_250 ?_
            refine ev_ia (L := 400) i_mo_join_252 H rfl rfl (j := k) rfl (by omega) (by omega) ?_
            refine ev_top (y := gd W k) (by rw [g1]; exact hW k (by omega)) ?_
            refine ev_aload_0 i_mo_join_253 ?_
            refine ev_get i_mo_join_254 fl_mo_60 H.1 rfl ?_
            refine ev_iload_5 i_mo_join_257 ?_
            refine ev_ia (L := 400) i_mo_join_259 H rfl rfl (j := i) rfl (by omega) (by omega) ?_
            refine ev_top (y := gd W i) (by rw [g1]; exact hW i (by omega)) ?_
            refine ev_icmp_ne i_mo_join_260 (fun c_260 => ?_) (fun c_260 => ?_)
            · rw [show mout (gd W) i k = true by unfold mout mle; rw [decide_eq_true c_243, decide_eq_true hne, decide_eq_true c_260]; rfl, if_pos rfl] at nx2
              refine ev_iconst (v := 1) i_mo_join_270 (by decide) ?_
              refine ev_goto i_mo_join_271 ?_
              refine ev_istore_6 i_mo_join_275 rfl ?_
              refine ev_iinc_7 i_mo_join_277 (nI_1 k) rfl ?_
              refine ev_goto i_mo_join_280 ?_
              exact nx2
            refine ev_iload_7 i_mo_join_263 ?_
            refine ev_iload_5 i_mo_join_265 ?_
            refine ev_icmp_ge i_mo_join_267 (fun c_267 => ?_) (fun c_267 => ?_)
            · rw [show mout (gd W) i k = false by unfold mout; rw [decide_eq_false (not_not_intro c_260), decide_eq_false (show ¬ k < i from fun z => absurd c_267 (nI_ge z (by omega))), Bool.or_false, Bool.and_false, Bool.and_false], if_neg (by simp)] at nx2
              refine ev_iconst (v := 0) i_mo_join_274 (by decide) ?_
              refine ev_istore_6 i_mo_join_275 rfl ?_
              refine ev_iinc_7 i_mo_join_277 (nI_1 k) rfl ?_
              refine ev_goto i_mo_join_280 ?_
              exact nx2
            · have hki : k < i := by
                rcases Nat.lt_or_ge k i with z | z
                · exact z
                · exact absurd (nI_le z (by omega)) c_267
              rw [show mout (gd W) i k = true by unfold mout mle; rw [decide_eq_true c_243, decide_eq_true hne, decide_eq_true hki, Bool.or_true]; rfl, if_pos rfl] at nx2
              refine ev_iconst (v := 1) i_mo_join_270 (by decide) ?_
              refine ev_goto i_mo_join_271 ?_
              refine ev_istore_6 i_mo_join_275 rfl ?_
              refine ev_iinc_7 i_mo_join_277 (nI_1 k) rfl ?_
              refine ev_goto i_mo_join_280 ?_
              exact nx2
      exact inner W.length 0 (by omega)
  refine loop W.length 0 _ _ _ _ n6 n7 (by omega) (Nat.zero_le _) H rfl ⟨?_, Nat.zero_le _, fun i hi => absurd hi (Nat.not_lt_zero _)⟩ ⟨fun k k1 k2 k3 => ?_, fun j hj => rfl, fun r hr => ?_⟩
  · exact pk_us
  · rw [va_up_ne _ _ k2, va_up_ne _ _ k3]
  · exact upd_ne hr
end MR2
