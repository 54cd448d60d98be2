section LAW
variable {G : ev_G} {h : ev_H}
theorem ev_fit {M : ev_M} {d kc ks kc' ks' : Nat} {Q : Option Value → ev_H → Prop} {pc : Nat} {ls : List (Option Value)} {st : List Value} (h1 : kc ≤ kc') (h2 : ks ≤ ks') (k : Ev G M d kc ks Q pc ls st h) : Ev G M d kc' ks' Q pc ls st h := by
  intro p l e R s m args below meth c A H locs cells slots lsA Qf hc g1 g2
  exact k p l e R s m args below meth c A H locs cells slots lsA Qf hc (by omega) (by omega)
theorem law_and (x : Int32) : ∃ v, v < 32 ∧ x &&& 31 = nI v := by
  refine ⟨x.toBitVec.toNat % 32, Nat.mod_lt _ (by decide), ?_⟩
  apply Int32.toBitVec_inj.mp
  apply BitVec.eq_of_toNat_eq
  rw [Int32.toBitVec_and, BitVec.toNat_and]
  show x.toBitVec.toNat &&& 31 = (BitVec.ofNat 32 (x.toBitVec.toNat % 32)).toNat
  rw [BitVec.toNat_ofNat, Nat.mod_eq_of_lt (a := x.toBitVec.toNat % 32) (by omega)]
  exact Nat.and_two_pow_sub_one_eq_mod _ 5
theorem law_char (x : Int32) : (x.toUInt32 % 65536).toInt32 = nI (x.toUInt32.toNat % 65536) := by
  have e : x.toUInt32 % 65536 = UInt32.ofNat (x.toUInt32.toNat % 65536) := by
    apply UInt32.toNat_inj.mp
    rw [UInt32.toNat_mod, UInt32.toNat_ofNat']
    show x.toUInt32.toNat % 65536 = _
    rw [Nat.mod_eq_of_lt (a := x.toUInt32.toNat % 65536) (by omega)]
  rw [e]; rfl
theorem law_gt {L i : Nat} (hL : L ≤ 4000) (hi : i ≤ 4000) : nI L - 5 < nI i ↔ L < i + 5 := by
  rw [Int32.lt_iff_toInt_lt, Int32.toInt_sub, nI_toInt (by omega), nI_toInt (by omega)]
  show ((L : Int) - 5).bmod (2 ^ 32) < (i : Int) ↔ _
  rw [Int.bmod_eq_of_le (by omega) (by omega)]
  omega
theorem law_licence {b L x m n i : Nat} {xs : Nat → Int32} {Q : Option Value → ev_H → Prop} (hL : L ≤ 2560) (hi5 : i + 5 ≤ L) (V : LV G h x m) (stp : ∀ h', LV G h' x m → Ev G (M_law (some (b, L, xs))) 8 (5 * n) (80 * n) Q 809 [some (.ref b), some (.ref x), some (.ref m), some (.int (nI i))] [] h') : Ev G (M_law (some (b, L, xs))) 8 (5 * n + 0 + 0) (80 * n + 0 + 0) Q 124 [some (.ref b), some (.ref x), some (.ref m), some (.int (nI i))] [] h := by
  obtain ⟨⟨fx, hx⟩, -⟩ := LV_x V
  refine ev_aload_1 i_law_124 ?_
  refine ev_aload_0 i_law_125 ?_
  refine ev_iload_3 i_law_126 ?_
  refine ev_iconst (v := 1) i_law_127 (by decide) ?_
  refine ev_iadd i_law_128 ?_
  refine ev_sld (j := i + 1) rfl i_law_129 (nI_add i 1) (by omega) (by omega) ?_
  refine ev_i2l i_law_130 ?_
  refine ev_bipush (v := 32) i_law_131 (by decide) ?_
  refine ev_lshl i_law_133 ?_
  refine ev_aload_0 i_law_134 ?_
  refine ev_iload_3 i_law_135 ?_
  refine ev_iconst (v := 2) i_law_136 (by decide) ?_
  refine ev_iadd i_law_137 ?_
  refine ev_sld (j := i + 2) rfl i_law_138 (nI_add i 2) (by omega) (by omega) ?_
  refine ev_i2l i_law_139 ?_
  refine ev_ldc2 i_law_140 kc_law_13 ?_
  refine ev_land i_law_143 ?_
  refine ev_lor i_law_144 ?_
  refine ev_vi1 i_law_145 lk_law_15 cb_lr_licence iv_lr_licence (two_licence V) (by repeat (first | assumption | exact va_up_self _ _ _ | refine hu_ne (by first | assumption | exact Ne.symm (by assumption)) ?_)) rfl (by decide) (Nat.le_of_ble_eq_true rfl) rfl rfl (fun v h1 hq => ?_)
  obtain ⟨⟨gs, hm⟩, hR⟩ := hq
  refine ev_aload_2 i_law_148 ?_
  refine ev_aload_0 i_law_149 ?_
  refine ev_iload_3 i_law_150 ?_
  refine ev_iconst (v := 1) i_law_151 (by decide) ?_
  refine ev_iadd i_law_152 ?_
  refine ev_sld (j := i + 1) rfl i_law_153 (nI_add i 1) (by omega) (by omega) ?_
  refine ev_i2l i_law_154 ?_
  refine ev_bipush (v := 32) i_law_155 (by decide) ?_
  refine ev_lshl i_law_157 ?_
  refine ev_aload_0 i_law_158 ?_
  refine ev_iload_3 i_law_159 ?_
  refine ev_iconst (v := 2) i_law_160 (by decide) ?_
  refine ev_iadd i_law_161 ?_
  refine ev_sld (j := i + 2) rfl i_law_162 (nI_add i 2) (by omega) (by omega) ?_
  refine ev_i2l i_law_163 ?_
  refine ev_ldc2 i_law_164 kc_law_13 ?_
  refine ev_land i_law_167 ?_
  refine ev_lor i_law_168 ?_
  refine ev_vi1 i_law_169 lk_law_19 cb_mo_licence iv_mo_licence (hR) (by repeat (first | assumption | exact va_up_self _ _ _ | refine hu_ne (by first | assumption | exact Ne.symm (by assumption)) ?_)) rfl (by decide) (Nat.le_of_ble_eq_true rfl) rfl rfl (fun v2 h2 hq2 => ?_)
  obtain ⟨rfl, V2⟩ := hq2
  exact ev_icmp_eq i_law_172 (fun _ => stp h2 V2) (fun z => absurd rfl z)
theorem law_rule {b L x m n i : Nat} {xs : Nat → Int32} {Q : Option Value → ev_H → Prop} (hL : L ≤ 2560) (hi5 : i + 5 ≤ L) (V : LV G h x m) (stp : ∀ h', LV G h' x m → Ev G (M_law (some (b, L, xs))) 8 (5 * n) (80 * n) Q 809 [some (.ref b), some (.ref x), some (.ref m), some (.int (nI i))] [] h') : Ev G (M_law (some (b, L, xs))) 8 (5 * n + 0 + 0) (80 * n + 0 + 0) Q 177 [some (.ref b), some (.ref x), some (.ref m), some (.int (nI i))] [] h := by
  obtain ⟨⟨fx, hx⟩, -⟩ := LV_x V
  refine ev_aload_1 i_law_177 ?_
  refine ev_aload_0 i_law_178 ?_
  refine ev_iload_3 i_law_179 ?_
  refine ev_iconst (v := 1) i_law_180 (by decide) ?_
  refine ev_iadd i_law_181 ?_
  refine ev_sld (j := i + 1) rfl i_law_182 (nI_add i 1) (by omega) (by omega) ?_
  refine ev_aload_0 i_law_183 ?_
  refine ev_iload_3 i_law_184 ?_
  refine ev_iconst (v := 2) i_law_185 (by decide) ?_
  refine ev_iadd i_law_186 ?_
  refine ev_sld (j := i + 2) rfl i_law_187 (nI_add i 2) (by omega) (by omega) ?_
  refine ev_aload_0 i_law_188 ?_
  refine ev_iload_3 i_law_189 ?_
  refine ev_iconst (v := 3) i_law_190 (by decide) ?_
  refine ev_iadd i_law_191 ?_
  refine ev_sld (j := i + 3) rfl i_law_192 (nI_add i 3) (by omega) (by omega) ?_
  refine ev_aload_0 i_law_193 ?_
  refine ev_iload_3 i_law_194 ?_
  refine ev_iconst (v := 4) i_law_195 (by decide) ?_
  refine ev_iadd i_law_196 ?_
  refine ev_sld (j := i + 4) rfl i_law_197 (nI_add i 4) (by omega) (by omega) ?_
  refine ev_vi4 i_law_198 lk_law_20 cb_lr_rule iv_lr_rule (two_rule V) (by repeat (first | assumption | exact va_up_self _ _ _ | refine hu_ne (by first | assumption | exact Ne.symm (by assumption)) ?_)) rfl (by decide) (Nat.le_of_ble_eq_true rfl) rfl rfl (fun v h1 hq => ?_)
  obtain ⟨⟨gs, hm⟩, hR⟩ := hq
  refine ev_aload_2 i_law_201 ?_
  refine ev_aload_0 i_law_202 ?_
  refine ev_iload_3 i_law_203 ?_
  refine ev_iconst (v := 1) i_law_204 (by decide) ?_
  refine ev_iadd i_law_205 ?_
  refine ev_sld (j := i + 1) rfl i_law_206 (nI_add i 1) (by omega) (by omega) ?_
  refine ev_aload_0 i_law_207 ?_
  refine ev_iload_3 i_law_208 ?_
  refine ev_iconst (v := 2) i_law_209 (by decide) ?_
  refine ev_iadd i_law_210 ?_
  refine ev_sld (j := i + 2) rfl i_law_211 (nI_add i 2) (by omega) (by omega) ?_
  refine ev_aload_0 i_law_212 ?_
  refine ev_iload_3 i_law_213 ?_
  refine ev_iconst (v := 3) i_law_214 (by decide) ?_
  refine ev_iadd i_law_215 ?_
  refine ev_sld (j := i + 3) rfl i_law_216 (nI_add i 3) (by omega) (by omega) ?_
  refine ev_aload_0 i_law_217 ?_
  refine ev_iload_3 i_law_218 ?_
  refine ev_iconst (v := 4) i_law_219 (by decide) ?_
  refine ev_iadd i_law_220 ?_
  refine ev_sld (j := i + 4) rfl i_law_221 (nI_add i 4) (by omega) (by omega) ?_
  refine ev_vi4 i_law_222 lk_law_24 cb_mo_rule iv_mo_rule (hR) (by repeat (first | assumption | exact va_up_self _ _ _ | refine hu_ne (by first | assumption | exact Ne.symm (by assumption)) ?_)) rfl (by decide) (Nat.le_of_ble_eq_true rfl) rfl rfl (fun v2 h2 hq2 => ?_)
  obtain ⟨rfl, V2⟩ := hq2
  exact ev_icmp_eq i_law_225 (fun _ => stp h2 V2) (fun z => absurd rfl z)
theorem law_lifts {b L x m n i : Nat} {xs : Nat → Int32} {Q : Option Value → ev_H → Prop} (hL : L ≤ 2560) (hi5 : i + 5 ≤ L) (V : LV G h x m) (stp : ∀ h', LV G h' x m → Ev G (M_law (some (b, L, xs))) 8 (5 * n) (80 * n) Q 809 [some (.ref b), some (.ref x), some (.ref m), some (.int (nI i))] [] h') : Ev G (M_law (some (b, L, xs))) 8 (5 * n + 0 + 0) (80 * n + 0 + 0) Q 230 [some (.ref b), some (.ref x), some (.ref m), some (.int (nI i))] [] h := by
  obtain ⟨⟨fx, hx⟩, -⟩ := LV_x V
  by_cases c0 : xs (i + 3) = 0
  · refine ev_aload_1 i_law_230 ?_
    refine ev_aload_0 i_law_231 ?_
    refine ev_iload_3 i_law_232 ?_
    refine ev_iconst (v := 1) i_law_233 (by decide) ?_
    refine ev_iadd i_law_234 ?_
    refine ev_sld (j := i + 1) rfl i_law_235 (nI_add i 1) (by omega) (by omega) ?_
    refine ev_aload_0 i_law_236 ?_
    refine ev_iload_3 i_law_237 ?_
    refine ev_iconst (v := 2) i_law_238 (by decide) ?_
    refine ev_iadd i_law_239 ?_
    refine ev_sld (j := i + 2) rfl i_law_240 (nI_add i 2) (by omega) (by omega) ?_
    refine ev_aload_0 i_law_241 ?_
    refine ev_iload_3 i_law_242 ?_
    refine ev_iconst (v := 3) i_law_243 (by decide) ?_
    refine ev_iadd i_law_244 ?_
    refine ev_sld (j := i + 3) rfl i_law_245 (nI_add i 3) (by omega) (by omega) ?_
    refine ev_if_eq i_law_246 (fun c_246 => ?_) (fun c_246 => ?_)
    rotate_left
    · exact absurd c0 c_246
    refine ev_iconst (v := 0) i_law_253 (by decide) ?_
    refine ev_vi3 i_law_254 lk_law_25 cb_lr_lifts iv_lr_lifts (two_lifts (Or.inl rfl) V) (by repeat (first | assumption | exact va_up_self _ _ _ | refine hu_ne (by first | assumption | exact Ne.symm (by assumption)) ?_)) rfl (by decide) (Nat.le_of_ble_eq_true rfl) rfl rfl (fun v h1 hq => ?_)
    obtain ⟨⟨gs, hm⟩, hR⟩ := hq
    refine ev_aload_2 i_law_257 ?_
    refine ev_aload_0 i_law_258 ?_
    refine ev_iload_3 i_law_259 ?_
    refine ev_iconst (v := 1) i_law_260 (by decide) ?_
    refine ev_iadd i_law_261 ?_
    refine ev_sld (j := i + 1) rfl i_law_262 (nI_add i 1) (by omega) (by omega) ?_
    refine ev_aload_0 i_law_263 ?_
    refine ev_iload_3 i_law_264 ?_
    refine ev_iconst (v := 2) i_law_265 (by decide) ?_
    refine ev_iadd i_law_266 ?_
    refine ev_sld (j := i + 2) rfl i_law_267 (nI_add i 2) (by omega) (by omega) ?_
    refine ev_aload_0 i_law_268 ?_
    refine ev_iload_3 i_law_269 ?_
    refine ev_iconst (v := 3) i_law_270 (by decide) ?_
    refine ev_iadd i_law_271 ?_
    refine ev_sld (j := i + 3) rfl i_law_272 (nI_add i 3) (by omega) (by omega) ?_
    refine ev_if_eq i_law_273 (fun c_273 => ?_) (fun c_273 => ?_)
    rotate_left
    · exact absurd c0 c_273
    refine ev_iconst (v := 0) i_law_280 (by decide) ?_
    refine ev_vi3 i_law_281 lk_law_29 cb_mo_lifts iv_mo_lifts (hR) (by repeat (first | assumption | exact va_up_self _ _ _ | refine hu_ne (by first | assumption | exact Ne.symm (by assumption)) ?_)) rfl (by decide) (Nat.le_of_ble_eq_true rfl) rfl rfl (fun v2 h2 hq2 => ?_)
    obtain ⟨rfl, V2⟩ := hq2
    exact ev_icmp_eq i_law_284 (fun _ => stp h2 V2) (fun z => absurd rfl z)
  · refine ev_aload_1 i_law_230 ?_
    refine ev_aload_0 i_law_231 ?_
    refine ev_iload_3 i_law_232 ?_
    refine ev_iconst (v := 1) i_law_233 (by decide) ?_
    refine ev_iadd i_law_234 ?_
    refine ev_sld (j := i + 1) rfl i_law_235 (nI_add i 1) (by omega) (by omega) ?_
    refine ev_aload_0 i_law_236 ?_
    refine ev_iload_3 i_law_237 ?_
    refine ev_iconst (v := 2) i_law_238 (by decide) ?_
    refine ev_iadd i_law_239 ?_
    refine ev_sld (j := i + 2) rfl i_law_240 (nI_add i 2) (by omega) (by omega) ?_
    refine ev_aload_0 i_law_241 ?_
    refine ev_iload_3 i_law_242 ?_
    refine ev_iconst (v := 3) i_law_243 (by decide) ?_
    refine ev_iadd i_law_244 ?_
    refine ev_sld (j := i + 3) rfl i_law_245 (nI_add i 3) (by omega) (by omega) ?_
    refine ev_if_eq i_law_246 (fun c_246 => ?_) (fun c_246 => ?_)
    · exact absurd c_246 c0
    refine ev_iconst (v := 1) i_law_249 (by decide) ?_
    refine ev_goto i_law_250 ?_
    refine ev_vi3 i_law_254 lk_law_25 cb_lr_lifts iv_lr_lifts (two_lifts (Or.inr rfl) V) (by repeat (first | assumption | exact va_up_self _ _ _ | refine hu_ne (by first | assumption | exact Ne.symm (by assumption)) ?_)) rfl (by decide) (Nat.le_of_ble_eq_true rfl) rfl rfl (fun v h1 hq => ?_)
    obtain ⟨⟨gs, hm⟩, hR⟩ := hq
    refine ev_aload_2 i_law_257 ?_
    refine ev_aload_0 i_law_258 ?_
    refine ev_iload_3 i_law_259 ?_
    refine ev_iconst (v := 1) i_law_260 (by decide) ?_
    refine ev_iadd i_law_261 ?_
    refine ev_sld (j := i + 1) rfl i_law_262 (nI_add i 1) (by omega) (by omega) ?_
    refine ev_aload_0 i_law_263 ?_
    refine ev_iload_3 i_law_264 ?_
    refine ev_iconst (v := 2) i_law_265 (by decide) ?_
    refine ev_iadd i_law_266 ?_
    refine ev_sld (j := i + 2) rfl i_law_267 (nI_add i 2) (by omega) (by omega) ?_
    refine ev_aload_0 i_law_268 ?_
    refine ev_iload_3 i_law_269 ?_
    refine ev_iconst (v := 3) i_law_270 (by decide) ?_
    refine ev_iadd i_law_271 ?_
    refine ev_sld (j := i + 3) rfl i_law_272 (nI_add i 3) (by omega) (by omega) ?_
    refine ev_if_eq i_law_273 (fun c_273 => ?_) (fun c_273 => ?_)
    · exact absurd c_273 c0
    refine ev_iconst (v := 1) i_law_276 (by decide) ?_
    refine ev_goto i_law_277 ?_
    refine ev_vi3 i_law_281 lk_law_29 cb_mo_lifts iv_mo_lifts (hR) (by repeat (first | assumption | exact va_up_self _ _ _ | refine hu_ne (by first | assumption | exact Ne.symm (by assumption)) ?_)) rfl (by decide) (Nat.le_of_ble_eq_true rfl) rfl rfl (fun v2 h2 hq2 => ?_)
    obtain ⟨rfl, V2⟩ := hq2
    exact ev_icmp_eq i_law_284 (fun _ => stp h2 V2) (fun z => absurd rfl z)
theorem law_type {b L x m n i : Nat} {xs : Nat → Int32} {Q : Option Value → ev_H → Prop} (hL : L ≤ 2560) (hi5 : i + 5 ≤ L) (V : LV G h x m) (stp : ∀ h', LV G h' x m → Ev G (M_law (some (b, L, xs))) 8 (5 * n) (80 * n) Q 809 [some (.ref b), some (.ref x), some (.ref m), some (.int (nI i))] [] h') : Ev G (M_law (some (b, L, xs))) 8 (5 * n + 0 + 0) (80 * n + 0 + 0) Q 289 [some (.ref b), some (.ref x), some (.ref m), some (.int (nI i))] [] h := by
  obtain ⟨⟨fx, hx⟩, -⟩ := LV_x V
  refine ev_aload_1 i_law_289 ?_
  refine ev_aload_0 i_law_290 ?_
  refine ev_iload_3 i_law_291 ?_
  refine ev_iconst (v := 1) i_law_292 (by decide) ?_
  refine ev_iadd i_law_293 ?_
  refine ev_sld (j := i + 1) rfl i_law_294 (nI_add i 1) (by omega) (by omega) ?_
  refine ev_i2c i_law_295 ?_
  refine ev_top (law_char _) ?_
  refine ev_vi1 i_law_296 lk_law_30 cb_lr_type iv_lr_type (two_type (Nat.mod_lt _ (by decide)) V) (by repeat (first | assumption | exact va_up_self _ _ _ | refine hu_ne (by first | assumption | exact Ne.symm (by assumption)) ?_)) rfl (by decide) (Nat.le_of_ble_eq_true rfl) rfl rfl (fun v h1 hq => ?_)
  obtain ⟨⟨gs, hm⟩, hR⟩ := hq
  refine ev_aload_2 i_law_299 ?_
  refine ev_aload_0 i_law_300 ?_
  refine ev_iload_3 i_law_301 ?_
  refine ev_iconst (v := 1) i_law_302 (by decide) ?_
  refine ev_iadd i_law_303 ?_
  refine ev_sld (j := i + 1) rfl i_law_304 (nI_add i 1) (by omega) (by omega) ?_
  refine ev_i2c i_law_305 ?_
  refine ev_top (law_char _) ?_
  refine ev_vi1 i_law_306 lk_law_34 cb_mo_type iv_mo_type (hR) (by repeat (first | assumption | exact va_up_self _ _ _ | refine hu_ne (by first | assumption | exact Ne.symm (by assumption)) ?_)) rfl (by decide) (Nat.le_of_ble_eq_true rfl) rfl rfl (fun v2 h2 hq2 => ?_)
  obtain ⟨rfl, V2⟩ := hq2
  exact ev_icmp_eq i_law_309 (fun _ => stp h2 V2) (fun z => absurd rfl z)
theorem law_pack {b L x m n i : Nat} {xs : Nat → Int32} {Q : Option Value → ev_H → Prop} (hL : L ≤ 2560) (hi5 : i + 5 ≤ L) (V : LV G h x m) (stp : ∀ h', LV G h' x m → Ev G (M_law (some (b, L, xs))) 8 (5 * n) (80 * n) Q 809 [some (.ref b), some (.ref x), some (.ref m), some (.int (nI i))] [] h') : Ev G (M_law (some (b, L, xs))) 8 (5 * n + 0 + 5) (80 * n + 0 + 80) Q 314 [some (.ref b), some (.ref x), some (.ref m), some (.int (nI i))] [] h := by
  obtain ⟨⟨fx, hx⟩, -⟩ := LV_x V
  refine ev_aload_1 i_law_314 ?_
  refine ev_vi0 i_law_315 lk_law_35 cb_lr_pack iv_lr_pack (two_pack V) (by repeat (first | assumption | exact va_up_self _ _ _ | refine hu_ne (by first | assumption | exact Ne.symm (by assumption)) ?_)) rfl (by decide) (Nat.le_of_ble_eq_true rfl) rfl rfl (fun v h1 hq => ?_)
  obtain ⟨⟨gs, hm⟩, hR⟩ := hq
  refine ev_aload_2 i_law_318 ?_
  refine ev_vi0 i_law_319 lk_law_39 cb_mo_pack iv_mo_pack (hR) (by repeat (first | assumption | exact va_up_self _ _ _ | refine hu_ne (by first | assumption | exact Ne.symm (by assumption)) ?_)) rfl (by decide) (Nat.le_of_ble_eq_true rfl) rfl rfl (fun v2 h2 hq2 => ?_)
  obtain ⟨rfl, V2⟩ := hq2
  exact ev_icmp_eq i_law_322 (fun _ => stp h2 V2) (fun z => absurd rfl z)
theorem law_express {b L x m n i : Nat} {xs : Nat → Int32} {Q : Option Value → ev_H → Prop} (hL : L ≤ 2560) (hi5 : i + 5 ≤ L) (V : LV G h x m) (stp : ∀ h', LV G h' x m → Ev G (M_law (some (b, L, xs))) 8 (5 * n) (80 * n) Q 809 [some (.ref b), some (.ref x), some (.ref m), some (.int (nI i))] [] h') : Ev G (M_law (some (b, L, xs))) 8 (5 * n + 0 + 0) (80 * n + 0 + 0) Q 327 [some (.ref b), some (.ref x), some (.ref m), some (.int (nI i))] [] h := by
  obtain ⟨⟨fx, hx⟩, -⟩ := LV_x V
  refine ev_aload_1 i_law_327 ?_
  refine ev_aload_0 i_law_328 ?_
  refine ev_iload_3 i_law_329 ?_
  refine ev_iconst (v := 1) i_law_330 (by decide) ?_
  refine ev_iadd i_law_331 ?_
  refine ev_sld (j := i + 1) rfl i_law_332 (nI_add i 1) (by omega) (by omega) ?_
  refine ev_vi1 i_law_333 lk_law_40 cb_lr_express iv_lr_express (two_express V) (by repeat (first | assumption | exact va_up_self _ _ _ | refine hu_ne (by first | assumption | exact Ne.symm (by assumption)) ?_)) rfl (by decide) (Nat.le_of_ble_eq_true rfl) rfl rfl (fun v h1 hq => ?_)
  obtain ⟨⟨gs, hm⟩, hR⟩ := hq
  refine ev_aload_2 i_law_336 ?_
  refine ev_aload_0 i_law_337 ?_
  refine ev_iload_3 i_law_338 ?_
  refine ev_iconst (v := 1) i_law_339 (by decide) ?_
  refine ev_iadd i_law_340 ?_
  refine ev_sld (j := i + 1) rfl i_law_341 (nI_add i 1) (by omega) (by omega) ?_
  refine ev_vi1 i_law_342 lk_law_44 cb_mo_express iv_mo_express (hR) (by repeat (first | assumption | exact va_up_self _ _ _ | refine hu_ne (by first | assumption | exact Ne.symm (by assumption)) ?_)) rfl (by decide) (Nat.le_of_ble_eq_true rfl) rfl rfl (fun v2 h2 hq2 => ?_)
  obtain ⟨rfl, V2⟩ := hq2
  exact ev_icmp_eq i_law_345 (fun _ => stp h2 V2) (fun z => absurd rfl z)
theorem law_choices {b L x m n i : Nat} {xs : Nat → Int32} {Q : Option Value → ev_H → Prop} (hL : L ≤ 2560) (hi5 : i + 5 ≤ L) (V : LV G h x m) (stp : ∀ h', LV G h' x m → Ev G (M_law (some (b, L, xs))) 8 (5 * n) (80 * n) Q 809 [some (.ref b), some (.ref x), some (.ref m), some (.int (nI i))] [] h') : Ev G (M_law (some (b, L, xs))) 8 (5 * n + 0 + 0) (80 * n + 0 + 0) Q 350 [some (.ref b), some (.ref x), some (.ref m), some (.int (nI i))] [] h := by
  obtain ⟨⟨fx, hx⟩, -⟩ := LV_x V
  refine ev_aload_1 i_law_350 ?_
  refine ev_aload_0 i_law_351 ?_
  refine ev_iload_3 i_law_352 ?_
  refine ev_iconst (v := 1) i_law_353 (by decide) ?_
  refine ev_iadd i_law_354 ?_
  refine ev_sld (j := i + 1) rfl i_law_355 (nI_add i 1) (by omega) (by omega) ?_
  refine ev_vi1 i_law_356 lk_law_45 cb_lr_choices iv_lr_choices (two_choices V) (by repeat (first | assumption | exact va_up_self _ _ _ | refine hu_ne (by first | assumption | exact Ne.symm (by assumption)) ?_)) rfl (by decide) (Nat.le_of_ble_eq_true rfl) rfl rfl (fun v h1 hq => ?_)
  obtain ⟨⟨gs, hm⟩, hR⟩ := hq
  refine ev_aload_2 i_law_359 ?_
  refine ev_aload_0 i_law_360 ?_
  refine ev_iload_3 i_law_361 ?_
  refine ev_iconst (v := 1) i_law_362 (by decide) ?_
  refine ev_iadd i_law_363 ?_
  refine ev_sld (j := i + 1) rfl i_law_364 (nI_add i 1) (by omega) (by omega) ?_
  refine ev_vi1 i_law_365 lk_law_48 cb_mo_choices iv_mo_choices (hR) (by repeat (first | assumption | exact va_up_self _ _ _ | refine hu_ne (by first | assumption | exact Ne.symm (by assumption)) ?_)) rfl (by decide) (Nat.le_of_ble_eq_true rfl) rfl rfl (fun v2 h2 hq2 => ?_)
  obtain ⟨rfl, V2⟩ := hq2
  exact ev_icmp_eq i_law_368 (fun _ => stp h2 V2) (fun z => absurd rfl z)
theorem law_pair {b L x m n i : Nat} {xs : Nat → Int32} {Q : Option Value → ev_H → Prop} (hL : L ≤ 2560) (hi5 : i + 5 ≤ L) (V : LV G h x m) (stp : ∀ h', LV G h' x m → Ev G (M_law (some (b, L, xs))) 8 (5 * n) (80 * n) Q 809 [some (.ref b), some (.ref x), some (.ref m), some (.int (nI i))] [] h') : Ev G (M_law (some (b, L, xs))) 8 (5 * n + 0 + 0) (80 * n + 0 + 0) Q 373 [some (.ref b), some (.ref x), some (.ref m), some (.int (nI i))] [] h := by
  obtain ⟨⟨fx, hx⟩, -⟩ := LV_x V
  refine ev_aload_1 i_law_373 ?_
  refine ev_aload_0 i_law_374 ?_
  refine ev_iload_3 i_law_375 ?_
  refine ev_iconst (v := 1) i_law_376 (by decide) ?_
  refine ev_iadd i_law_377 ?_
  refine ev_sld (j := i + 1) rfl i_law_378 (nI_add i 1) (by omega) (by omega) ?_
  refine ev_aload_0 i_law_379 ?_
  refine ev_iload_3 i_law_380 ?_
  refine ev_iconst (v := 2) i_law_381 (by decide) ?_
  refine ev_iadd i_law_382 ?_
  refine ev_sld (j := i + 2) rfl i_law_383 (nI_add i 2) (by omega) (by omega) ?_
  refine ev_aload_0 i_law_384 ?_
  refine ev_iload_3 i_law_385 ?_
  refine ev_iconst (v := 3) i_law_386 (by decide) ?_
  refine ev_iadd i_law_387 ?_
  refine ev_sld (j := i + 3) rfl i_law_388 (nI_add i 3) (by omega) (by omega) ?_
  refine ev_vi3 i_law_389 lk_law_49 cb_lr_pair iv_lr_pair (two_pair V) (by repeat (first | assumption | exact va_up_self _ _ _ | refine hu_ne (by first | assumption | exact Ne.symm (by assumption)) ?_)) rfl (by decide) (Nat.le_of_ble_eq_true rfl) rfl rfl (fun v h1 hq => ?_)
  obtain ⟨⟨gs, hm⟩, hR⟩ := hq
  refine ev_aload_2 i_law_392 ?_
  refine ev_aload_0 i_law_393 ?_
  refine ev_iload_3 i_law_394 ?_
  refine ev_iconst (v := 1) i_law_395 (by decide) ?_
  refine ev_iadd i_law_396 ?_
  refine ev_sld (j := i + 1) rfl i_law_397 (nI_add i 1) (by omega) (by omega) ?_
  refine ev_aload_0 i_law_398 ?_
  refine ev_iload_3 i_law_399 ?_
  refine ev_iconst (v := 2) i_law_400 (by decide) ?_
  refine ev_iadd i_law_401 ?_
  refine ev_sld (j := i + 2) rfl i_law_402 (nI_add i 2) (by omega) (by omega) ?_
  refine ev_aload_0 i_law_403 ?_
  refine ev_iload_3 i_law_404 ?_
  refine ev_iconst (v := 3) i_law_405 (by decide) ?_
  refine ev_iadd i_law_406 ?_
  refine ev_sld (j := i + 3) rfl i_law_407 (nI_add i 3) (by omega) (by omega) ?_
  refine ev_vi3 i_law_408 lk_law_53 cb_mo_pair iv_mo_pair (hR) (by repeat (first | assumption | exact va_up_self _ _ _ | refine hu_ne (by first | assumption | exact Ne.symm (by assumption)) ?_)) rfl (by decide) (Nat.le_of_ble_eq_true rfl) rfl rfl (fun v2 h2 hq2 => ?_)
  obtain ⟨rfl, V2⟩ := hq2
  exact ev_icmp_eq i_law_411 (fun _ => stp h2 V2) (fun z => absurd rfl z)
theorem law_best {b L x m n i : Nat} {xs : Nat → Int32} {Q : Option Value → ev_H → Prop} (hL : L ≤ 2560) (hi5 : i + 5 ≤ L) (V : LV G h x m) (stp : ∀ h', LV G h' x m → Ev G (M_law (some (b, L, xs))) 8 (5 * n) (80 * n) Q 809 [some (.ref b), some (.ref x), some (.ref m), some (.int (nI i))] [] h') : Ev G (M_law (some (b, L, xs))) 8 (5 * n + 0 + 0) (80 * n + 0 + 0) Q 416 [some (.ref b), some (.ref x), some (.ref m), some (.int (nI i))] [] h := by
  obtain ⟨⟨fx, hx⟩, -⟩ := LV_x V
  refine ev_aload_1 i_law_416 ?_
  refine ev_aload_0 i_law_417 ?_
  refine ev_iload_3 i_law_418 ?_
  refine ev_iconst (v := 1) i_law_419 (by decide) ?_
  refine ev_iadd i_law_420 ?_
  refine ev_sld (j := i + 1) rfl i_law_421 (nI_add i 1) (by omega) (by omega) ?_
  refine ev_aload_0 i_law_422 ?_
  refine ev_iload_3 i_law_423 ?_
  refine ev_iconst (v := 2) i_law_424 (by decide) ?_
  refine ev_iadd i_law_425 ?_
  refine ev_sld (j := i + 2) rfl i_law_426 (nI_add i 2) (by omega) (by omega) ?_
  refine ev_vi2 i_law_427 lk_law_54 cb_lr_best iv_lr_best (two_best V) (by repeat (first | assumption | exact va_up_self _ _ _ | refine hu_ne (by first | assumption | exact Ne.symm (by assumption)) ?_)) rfl (by decide) (Nat.le_of_ble_eq_true rfl) rfl rfl (fun v h1 hq => ?_)
  obtain ⟨⟨gs, hm⟩, hR⟩ := hq
  refine ev_aload_2 i_law_430 ?_
  refine ev_aload_0 i_law_431 ?_
  refine ev_iload_3 i_law_432 ?_
  refine ev_iconst (v := 1) i_law_433 (by decide) ?_
  refine ev_iadd i_law_434 ?_
  refine ev_sld (j := i + 1) rfl i_law_435 (nI_add i 1) (by omega) (by omega) ?_
  refine ev_aload_0 i_law_436 ?_
  refine ev_iload_3 i_law_437 ?_
  refine ev_iconst (v := 2) i_law_438 (by decide) ?_
  refine ev_iadd i_law_439 ?_
  refine ev_sld (j := i + 2) rfl i_law_440 (nI_add i 2) (by omega) (by omega) ?_
  refine ev_vi2 i_law_441 lk_law_58 cb_mo_best iv_mo_best (hR) (by repeat (first | assumption | exact va_up_self _ _ _ | refine hu_ne (by first | assumption | exact Ne.symm (by assumption)) ?_)) rfl (by decide) (Nat.le_of_ble_eq_true rfl) rfl rfl (fun v2 h2 hq2 => ?_)
  obtain ⟨rfl, V2⟩ := hq2
  exact ev_icmp_eq i_law_444 (fun _ => stp h2 V2) (fun z => absurd rfl z)
theorem law_duties {b L x m n i : Nat} {xs : Nat → Int32} {Q : Option Value → ev_H → Prop} (hL : L ≤ 2560) (hi5 : i + 5 ≤ L) (V : LV G h x m) (stp : ∀ h', LV G h' x m → Ev G (M_law (some (b, L, xs))) 8 (5 * n) (80 * n) Q 809 [some (.ref b), some (.ref x), some (.ref m), some (.int (nI i))] [] h') : Ev G (M_law (some (b, L, xs))) 8 (5 * n + 0 + 0) (80 * n + 0 + 0) Q 449 [some (.ref b), some (.ref x), some (.ref m), some (.int (nI i))] [] h := by
  obtain ⟨⟨fx, hx⟩, -⟩ := LV_x V
  refine ev_aload_1 i_law_449 ?_
  refine ev_aload_0 i_law_450 ?_
  refine ev_iload_3 i_law_451 ?_
  refine ev_iconst (v := 1) i_law_452 (by decide) ?_
  refine ev_iadd i_law_453 ?_
  refine ev_sld (j := i + 1) rfl i_law_454 (nI_add i 1) (by omega) (by omega) ?_
  refine ev_aload_0 i_law_455 ?_
  refine ev_iload_3 i_law_456 ?_
  refine ev_iconst (v := 2) i_law_457 (by decide) ?_
  refine ev_iadd i_law_458 ?_
  refine ev_sld (j := i + 2) rfl i_law_459 (nI_add i 2) (by omega) (by omega) ?_
  refine ev_vi2 i_law_460 lk_law_59 cb_lr_duties iv_lr_duties (two_duties V) (by repeat (first | assumption | exact va_up_self _ _ _ | refine hu_ne (by first | assumption | exact Ne.symm (by assumption)) ?_)) rfl (by decide) (Nat.le_of_ble_eq_true rfl) rfl rfl (fun v h1 hq => ?_)
  obtain ⟨⟨gs, hm⟩, hR⟩ := hq
  refine ev_aload_2 i_law_463 ?_
  refine ev_aload_0 i_law_464 ?_
  refine ev_iload_3 i_law_465 ?_
  refine ev_iconst (v := 1) i_law_466 (by decide) ?_
  refine ev_iadd i_law_467 ?_
  refine ev_sld (j := i + 1) rfl i_law_468 (nI_add i 1) (by omega) (by omega) ?_
  refine ev_aload_0 i_law_469 ?_
  refine ev_iload_3 i_law_470 ?_
  refine ev_iconst (v := 2) i_law_471 (by decide) ?_
  refine ev_iadd i_law_472 ?_
  refine ev_sld (j := i + 2) rfl i_law_473 (nI_add i 2) (by omega) (by omega) ?_
  refine ev_vi2 i_law_474 lk_law_62 cb_mo_duties iv_mo_duties (hR) (by repeat (first | assumption | exact va_up_self _ _ _ | refine hu_ne (by first | assumption | exact Ne.symm (by assumption)) ?_)) rfl (by decide) (Nat.le_of_ble_eq_true rfl) rfl rfl (fun v2 h2 hq2 => ?_)
  obtain ⟨rfl, V2⟩ := hq2
  exact ev_icmp_eq i_law_477 (fun _ => stp h2 V2) (fun z => absurd rfl z)
theorem law_uses {b L x m n i : Nat} {xs : Nat → Int32} {Q : Option Value → ev_H → Prop} (hL : L ≤ 2560) (hi5 : i + 5 ≤ L) (V : LV G h x m) (stp : ∀ h', LV G h' x m → Ev G (M_law (some (b, L, xs))) 8 (5 * n) (80 * n) Q 809 [some (.ref b), some (.ref x), some (.ref m), some (.int (nI i))] [] h') : Ev G (M_law (some (b, L, xs))) 8 (5 * n + 0 + 0) (80 * n + 0 + 0) Q 482 [some (.ref b), some (.ref x), some (.ref m), some (.int (nI i))] [] h := by
  obtain ⟨⟨fx, hx⟩, -⟩ := LV_x V
  refine ev_aload_1 i_law_482 ?_
  refine ev_aload_0 i_law_483 ?_
  refine ev_iload_3 i_law_484 ?_
  refine ev_iconst (v := 1) i_law_485 (by decide) ?_
  refine ev_iadd i_law_486 ?_
  refine ev_sld (j := i + 1) rfl i_law_487 (nI_add i 1) (by omega) (by omega) ?_
  refine ev_aload_0 i_law_488 ?_
  refine ev_iload_3 i_law_489 ?_
  refine ev_iconst (v := 2) i_law_490 (by decide) ?_
  refine ev_iadd i_law_491 ?_
  refine ev_sld (j := i + 2) rfl i_law_492 (nI_add i 2) (by omega) (by omega) ?_
  refine ev_aload_0 i_law_493 ?_
  refine ev_iload_3 i_law_494 ?_
  refine ev_iconst (v := 3) i_law_495 (by decide) ?_
  refine ev_iadd i_law_496 ?_
  refine ev_sld (j := i + 3) rfl i_law_497 (nI_add i 3) (by omega) (by omega) ?_
  refine ev_vi3 i_law_498 lk_law_63 cb_lr_uses iv_lr_uses (two_uses V) (by repeat (first | assumption | exact va_up_self _ _ _ | refine hu_ne (by first | assumption | exact Ne.symm (by assumption)) ?_)) rfl (by decide) (Nat.le_of_ble_eq_true rfl) rfl rfl (fun v h1 hq => ?_)
  obtain ⟨⟨gs, hm⟩, hR⟩ := hq
  refine ev_aload_2 i_law_501 ?_
  refine ev_aload_0 i_law_502 ?_
  refine ev_iload_3 i_law_503 ?_
  refine ev_iconst (v := 1) i_law_504 (by decide) ?_
  refine ev_iadd i_law_505 ?_
  refine ev_sld (j := i + 1) rfl i_law_506 (nI_add i 1) (by omega) (by omega) ?_
  refine ev_aload_0 i_law_507 ?_
  refine ev_iload_3 i_law_508 ?_
  refine ev_iconst (v := 2) i_law_509 (by decide) ?_
  refine ev_iadd i_law_510 ?_
  refine ev_sld (j := i + 2) rfl i_law_511 (nI_add i 2) (by omega) (by omega) ?_
  refine ev_aload_0 i_law_512 ?_
  refine ev_iload_3 i_law_513 ?_
  refine ev_iconst (v := 3) i_law_514 (by decide) ?_
  refine ev_iadd i_law_515 ?_
  refine ev_sld (j := i + 3) rfl i_law_516 (nI_add i 3) (by omega) (by omega) ?_
  refine ev_vi3 i_law_517 lk_law_67 cb_mo_uses iv_mo_uses (hR) (by repeat (first | assumption | exact va_up_self _ _ _ | refine hu_ne (by first | assumption | exact Ne.symm (by assumption)) ?_)) rfl (by decide) (Nat.le_of_ble_eq_true rfl) rfl rfl (fun v2 h2 hq2 => ?_)
  obtain ⟨rfl, V2⟩ := hq2
  exact ev_icmp_eq i_law_520 (fun _ => stp h2 V2) (fun z => absurd rfl z)
theorem law_grant {b L x m n i : Nat} {xs : Nat → Int32} {Q : Option Value → ev_H → Prop} (hL : L ≤ 2560) (hi5 : i + 5 ≤ L) (V : LV G h x m) (stp : ∀ h', LV G h' x m → Ev G (M_law (some (b, L, xs))) 8 (5 * n) (80 * n) Q 809 [some (.ref b), some (.ref x), some (.ref m), some (.int (nI i))] [] h') : Ev G (M_law (some (b, L, xs))) 8 (5 * n + 0 + 0) (80 * n + 0 + 0) Q 525 [some (.ref b), some (.ref x), some (.ref m), some (.int (nI i))] [] h := by
  obtain ⟨⟨fx, hx⟩, -⟩ := LV_x V
  refine ev_aload_1 i_law_525 ?_
  refine ev_aload_0 i_law_526 ?_
  refine ev_iload_3 i_law_527 ?_
  refine ev_iconst (v := 1) i_law_528 (by decide) ?_
  refine ev_iadd i_law_529 ?_
  refine ev_sld (j := i + 1) rfl i_law_530 (nI_add i 1) (by omega) (by omega) ?_
  refine ev_aload_0 i_law_531 ?_
  refine ev_iload_3 i_law_532 ?_
  refine ev_iconst (v := 2) i_law_533 (by decide) ?_
  refine ev_iadd i_law_534 ?_
  refine ev_sld (j := i + 2) rfl i_law_535 (nI_add i 2) (by omega) (by omega) ?_
  refine ev_vi2 i_law_536 lk_law_68 cb_lr_grant iv_lr_grant (two_grant V) (by repeat (first | assumption | exact va_up_self _ _ _ | refine hu_ne (by first | assumption | exact Ne.symm (by assumption)) ?_)) rfl (by decide) (Nat.le_of_ble_eq_true rfl) rfl rfl (fun v h1 hq => ?_)
  obtain ⟨⟨gs, hm⟩, hR⟩ := hq
  refine ev_aload_2 i_law_539 ?_
  refine ev_aload_0 i_law_540 ?_
  refine ev_iload_3 i_law_541 ?_
  refine ev_iconst (v := 1) i_law_542 (by decide) ?_
  refine ev_iadd i_law_543 ?_
  refine ev_sld (j := i + 1) rfl i_law_544 (nI_add i 1) (by omega) (by omega) ?_
  refine ev_aload_0 i_law_545 ?_
  refine ev_iload_3 i_law_546 ?_
  refine ev_iconst (v := 2) i_law_547 (by decide) ?_
  refine ev_iadd i_law_548 ?_
  refine ev_sld (j := i + 2) rfl i_law_549 (nI_add i 2) (by omega) (by omega) ?_
  refine ev_vi2 i_law_550 lk_law_72 cb_mo_grant iv_mo_grant (hR) (by repeat (first | assumption | exact va_up_self _ _ _ | refine hu_ne (by first | assumption | exact Ne.symm (by assumption)) ?_)) rfl (by decide) (Nat.le_of_ble_eq_true rfl) rfl rfl (fun v2 h2 hq2 => ?_)
  obtain ⟨rfl, V2⟩ := hq2
  exact ev_icmp_eq i_law_553 (fun _ => stp h2 V2) (fun z => absurd rfl z)
theorem law_tick {b L x m n i : Nat} {xs : Nat → Int32} {Q : Option Value → ev_H → Prop} (hL : L ≤ 2560) (hi5 : i + 5 ≤ L) (V : LV G h x m) (stp : ∀ h', LV G h' x m → Ev G (M_law (some (b, L, xs))) 8 (5 * n) (80 * n) Q 809 [some (.ref b), some (.ref x), some (.ref m), some (.int (nI i))] [] h') : Ev G (M_law (some (b, L, xs))) 8 (5 * n + 0 + 0) (80 * n + 0 + 0) Q 558 [some (.ref b), some (.ref x), some (.ref m), some (.int (nI i))] [] h := by
  obtain ⟨⟨fx, hx⟩, -⟩ := LV_x V
  refine ev_aload_1 i_law_558 ?_
  refine ev_aload_0 i_law_559 ?_
  refine ev_iload_3 i_law_560 ?_
  refine ev_iconst (v := 1) i_law_561 (by decide) ?_
  refine ev_iadd i_law_562 ?_
  refine ev_sld (j := i + 1) rfl i_law_563 (nI_add i 1) (by omega) (by omega) ?_
  refine ev_vi1 i_law_564 lk_law_73 cb_lr_tick iv_lr_tick (two_tick V) (by repeat (first | assumption | exact va_up_self _ _ _ | refine hu_ne (by first | assumption | exact Ne.symm (by assumption)) ?_)) rfl (by decide) (Nat.le_of_ble_eq_true rfl) rfl rfl (fun v h1 hq => ?_)
  obtain ⟨⟨gs, hm⟩, hR⟩ := hq
  refine ev_aload_2 i_law_567 ?_
  refine ev_aload_0 i_law_568 ?_
  refine ev_iload_3 i_law_569 ?_
  refine ev_iconst (v := 1) i_law_570 (by decide) ?_
  refine ev_iadd i_law_571 ?_
  refine ev_sld (j := i + 1) rfl i_law_572 (nI_add i 1) (by omega) (by omega) ?_
  refine ev_vi1 i_law_573 lk_law_76 cb_mo_tick iv_mo_tick (hR) (by repeat (first | assumption | exact va_up_self _ _ _ | refine hu_ne (by first | assumption | exact Ne.symm (by assumption)) ?_)) rfl (by decide) (Nat.le_of_ble_eq_true rfl) rfl rfl (fun v2 h2 hq2 => ?_)
  obtain ⟨rfl, V2⟩ := hq2
  exact ev_icmp_eq i_law_576 (fun _ => stp h2 V2) (fun z => absurd rfl z)
theorem law_review {b L x m n i : Nat} {xs : Nat → Int32} {Q : Option Value → ev_H → Prop} (hL : L ≤ 2560) (hi5 : i + 5 ≤ L) (V : LV G h x m) (stp : ∀ h', LV G h' x m → Ev G (M_law (some (b, L, xs))) 8 (5 * n) (80 * n) Q 809 [some (.ref b), some (.ref x), some (.ref m), some (.int (nI i))] [] h') : Ev G (M_law (some (b, L, xs))) 8 (5 * n + 0 + 0) (80 * n + 0 + 0) Q 581 [some (.ref b), some (.ref x), some (.ref m), some (.int (nI i))] [] h := by
  obtain ⟨⟨fx, hx⟩, -⟩ := LV_x V
  refine ev_aload_1 i_law_581 ?_
  refine ev_aload_0 i_law_582 ?_
  refine ev_iload_3 i_law_583 ?_
  refine ev_iconst (v := 1) i_law_584 (by decide) ?_
  refine ev_iadd i_law_585 ?_
  refine ev_sld (j := i + 1) rfl i_law_586 (nI_add i 1) (by omega) (by omega) ?_
  refine ev_aload_0 i_law_587 ?_
  refine ev_iload_3 i_law_588 ?_
  refine ev_iconst (v := 2) i_law_589 (by decide) ?_
  refine ev_iadd i_law_590 ?_
  refine ev_sld (j := i + 2) rfl i_law_591 (nI_add i 2) (by omega) (by omega) ?_
  refine ev_vi2 i_law_592 lk_law_77 cb_lr_review iv_lr_review (two_review V) (by repeat (first | assumption | exact va_up_self _ _ _ | refine hu_ne (by first | assumption | exact Ne.symm (by assumption)) ?_)) rfl (by decide) (Nat.le_of_ble_eq_true rfl) rfl rfl (fun v h1 hq => ?_)
  obtain ⟨⟨gs, hm⟩, hR⟩ := hq
  refine ev_aload_2 i_law_595 ?_
  refine ev_aload_0 i_law_596 ?_
  refine ev_iload_3 i_law_597 ?_
  refine ev_iconst (v := 1) i_law_598 (by decide) ?_
  refine ev_iadd i_law_599 ?_
  refine ev_sld (j := i + 1) rfl i_law_600 (nI_add i 1) (by omega) (by omega) ?_
  refine ev_aload_0 i_law_601 ?_
  refine ev_iload_3 i_law_602 ?_
  refine ev_iconst (v := 2) i_law_603 (by decide) ?_
  refine ev_iadd i_law_604 ?_
  refine ev_sld (j := i + 2) rfl i_law_605 (nI_add i 2) (by omega) (by omega) ?_
  refine ev_vi2 i_law_606 lk_law_80 cb_mo_review iv_mo_review (hR) (by repeat (first | assumption | exact va_up_self _ _ _ | refine hu_ne (by first | assumption | exact Ne.symm (by assumption)) ?_)) rfl (by decide) (Nat.le_of_ble_eq_true rfl) rfl rfl (fun v2 h2 hq2 => ?_)
  obtain ⟨rfl, V2⟩ := hq2
  exact ev_icmp_eq i_law_609 (fun _ => stp h2 V2) (fun z => absurd rfl z)
theorem law_entry {b L x m n i : Nat} {xs : Nat → Int32} {Q : Option Value → ev_H → Prop} (hL : L ≤ 2560) (hi5 : i + 5 ≤ L) (V : LV G h x m) (stp : ∀ h', LV G h' x m → Ev G (M_law (some (b, L, xs))) 8 (5 * n) (80 * n) Q 809 [some (.ref b), some (.ref x), some (.ref m), some (.int (nI i))] [] h') : Ev G (M_law (some (b, L, xs))) 8 (5 * n + 0 + 0) (80 * n + 0 + 0) Q 614 [some (.ref b), some (.ref x), some (.ref m), some (.int (nI i))] [] h := by
  obtain ⟨⟨fx, hx⟩, -⟩ := LV_x V
  refine ev_aload_1 i_law_614 ?_
  refine ev_aload_0 i_law_615 ?_
  refine ev_iload_3 i_law_616 ?_
  refine ev_iconst (v := 1) i_law_617 (by decide) ?_
  refine ev_iadd i_law_618 ?_
  refine ev_sld (j := i + 1) rfl i_law_619 (nI_add i 1) (by omega) (by omega) ?_
  refine ev_aload_0 i_law_620 ?_
  refine ev_iload_3 i_law_621 ?_
  refine ev_iconst (v := 2) i_law_622 (by decide) ?_
  refine ev_iadd i_law_623 ?_
  refine ev_sld (j := i + 2) rfl i_law_624 (nI_add i 2) (by omega) (by omega) ?_
  refine ev_vi2 i_law_625 lk_law_81 cb_lr_entry iv_lr_entry (two_entry V) (by repeat (first | assumption | exact va_up_self _ _ _ | refine hu_ne (by first | assumption | exact Ne.symm (by assumption)) ?_)) rfl (by decide) (Nat.le_of_ble_eq_true rfl) rfl rfl (fun v h1 hq => ?_)
  obtain ⟨⟨gs, hm⟩, hR⟩ := hq
  refine ev_aload_2 i_law_628 ?_
  refine ev_aload_0 i_law_629 ?_
  refine ev_iload_3 i_law_630 ?_
  refine ev_iconst (v := 1) i_law_631 (by decide) ?_
  refine ev_iadd i_law_632 ?_
  refine ev_sld (j := i + 1) rfl i_law_633 (nI_add i 1) (by omega) (by omega) ?_
  refine ev_aload_0 i_law_634 ?_
  refine ev_iload_3 i_law_635 ?_
  refine ev_iconst (v := 2) i_law_636 (by decide) ?_
  refine ev_iadd i_law_637 ?_
  refine ev_sld (j := i + 2) rfl i_law_638 (nI_add i 2) (by omega) (by omega) ?_
  refine ev_vi2 i_law_639 lk_law_84 cb_mo_entry iv_mo_entry (hR) (by repeat (first | assumption | exact va_up_self _ _ _ | refine hu_ne (by first | assumption | exact Ne.symm (by assumption)) ?_)) rfl (by decide) (Nat.le_of_ble_eq_true rfl) rfl rfl (fun v2 h2 hq2 => ?_)
  obtain ⟨rfl, V2⟩ := hq2
  exact ev_icmp_eq i_law_642 (fun _ => stp h2 V2) (fun z => absurd rfl z)
theorem law_all {b L x m n i : Nat} {xs : Nat → Int32} {Q : Option Value → ev_H → Prop} (hL : L ≤ 2560) (hi5 : i + 5 ≤ L) (V : LV G h x m) (stp : ∀ h', LV G h' x m → Ev G (M_law (some (b, L, xs))) 8 (5 * n) (80 * n) Q 809 [some (.ref b), some (.ref x), some (.ref m), some (.int (nI i))] [] h') : Ev G (M_law (some (b, L, xs))) 8 (5 * n + 0 + 0) (80 * n + 0 + 0) Q 647 [some (.ref b), some (.ref x), some (.ref m), some (.int (nI i))] [] h := by
  obtain ⟨⟨fx, hx⟩, -⟩ := LV_x V
  refine ev_aload_1 i_law_647 ?_
  refine ev_vi0 i_law_648 lk_law_85 cb_lr_all iv_lr_all (two_all V) (by repeat (first | assumption | exact va_up_self _ _ _ | refine hu_ne (by first | assumption | exact Ne.symm (by assumption)) ?_)) rfl (by decide) (Nat.le_of_ble_eq_true rfl) rfl rfl (fun v h1 hq => ?_)
  obtain ⟨⟨gs, hm⟩, hR⟩ := hq
  refine ev_aload_2 i_law_651 ?_
  refine ev_vi0 i_law_652 lk_law_88 cb_mo_all iv_mo_all (hR) (by repeat (first | assumption | exact va_up_self _ _ _ | refine hu_ne (by first | assumption | exact Ne.symm (by assumption)) ?_)) rfl (by decide) (Nat.le_of_ble_eq_true rfl) rfl rfl (fun v2 h2 hq2 => ?_)
  obtain ⟨rfl, V2⟩ := hq2
  exact ev_icmp_eq i_law_655 (fun _ => stp h2 V2) (fun z => absurd rfl z)
theorem law_material {b L x m n i : Nat} {xs : Nat → Int32} {Q : Option Value → ev_H → Prop} (hL : L ≤ 2560) (hi5 : i + 5 ≤ L) (V : LV G h x m) (stp : ∀ h', LV G h' x m → Ev G (M_law (some (b, L, xs))) 8 (5 * n) (80 * n) Q 809 [some (.ref b), some (.ref x), some (.ref m), some (.int (nI i))] [] h') : Ev G (M_law (some (b, L, xs))) 8 (5 * n + 0 + 0) (80 * n + 0 + 0) Q 660 [some (.ref b), some (.ref x), some (.ref m), some (.int (nI i))] [] h := by
  obtain ⟨⟨fx, hx⟩, -⟩ := LV_x V
  refine ev_aload_1 i_law_660 ?_
  refine ev_aload_0 i_law_661 ?_
  refine ev_iload_3 i_law_662 ?_
  refine ev_iconst (v := 1) i_law_663 (by decide) ?_
  refine ev_iadd i_law_664 ?_
  refine ev_sld (j := i + 1) rfl i_law_665 (nI_add i 1) (by omega) (by omega) ?_
  refine ev_vi1 i_law_666 lk_law_89 cb_lr_material iv_lr_material (two_material V) (by repeat (first | assumption | exact va_up_self _ _ _ | refine hu_ne (by first | assumption | exact Ne.symm (by assumption)) ?_)) rfl (by decide) (Nat.le_of_ble_eq_true rfl) rfl rfl (fun v h1 hq => ?_)
  obtain ⟨⟨gs, hm⟩, hR⟩ := hq
  refine ev_aload_2 i_law_669 ?_
  refine ev_aload_0 i_law_670 ?_
  refine ev_iload_3 i_law_671 ?_
  refine ev_iconst (v := 1) i_law_672 (by decide) ?_
  refine ev_iadd i_law_673 ?_
  refine ev_sld (j := i + 1) rfl i_law_674 (nI_add i 1) (by omega) (by omega) ?_
  refine ev_vi1 i_law_675 lk_law_92 cb_mo_material iv_mo_material (hR) (by repeat (first | assumption | exact va_up_self _ _ _ | refine hu_ne (by first | assumption | exact Ne.symm (by assumption)) ?_)) rfl (by decide) (Nat.le_of_ble_eq_true rfl) rfl rfl (fun v2 h2 hq2 => ?_)
  obtain ⟨rfl, V2⟩ := hq2
  exact ev_icmp_eq i_law_678 (fun _ => stp h2 V2) (fun z => absurd rfl z)
theorem law_found {b L x m n i : Nat} {xs : Nat → Int32} {Q : Option Value → ev_H → Prop} (hL : L ≤ 2560) (hi5 : i + 5 ≤ L) (V : LV G h x m) (stp : ∀ h', LV G h' x m → Ev G (M_law (some (b, L, xs))) 8 (5 * n) (80 * n) Q 809 [some (.ref b), some (.ref x), some (.ref m), some (.int (nI i))] [] h') : Ev G (M_law (some (b, L, xs))) 8 (5 * n + 0 + 0) (80 * n + 0 + 0) Q 683 [some (.ref b), some (.ref x), some (.ref m), some (.int (nI i))] [] h := by
  obtain ⟨⟨fx, hx⟩, -⟩ := LV_x V
  refine ev_aload_1 i_law_683 ?_
  refine ev_aload_0 i_law_684 ?_
  refine ev_iload_3 i_law_685 ?_
  refine ev_iconst (v := 1) i_law_686 (by decide) ?_
  refine ev_iadd i_law_687 ?_
  refine ev_sld (j := i + 1) rfl i_law_688 (nI_add i 1) (by omega) (by omega) ?_
  refine ev_i2l i_law_689 ?_
  refine ev_bipush (v := 32) i_law_690 (by decide) ?_
  refine ev_lshl i_law_692 ?_
  refine ev_aload_0 i_law_693 ?_
  refine ev_iload_3 i_law_694 ?_
  refine ev_iconst (v := 2) i_law_695 (by decide) ?_
  refine ev_iadd i_law_696 ?_
  refine ev_sld (j := i + 2) rfl i_law_697 (nI_add i 2) (by omega) (by omega) ?_
  refine ev_i2l i_law_698 ?_
  refine ev_ldc2 i_law_699 kc_law_13 ?_
  refine ev_land i_law_702 ?_
  refine ev_lor i_law_703 ?_
  refine ev_aload_0 i_law_704 ?_
  refine ev_iload_3 i_law_705 ?_
  refine ev_iconst (v := 3) i_law_706 (by decide) ?_
  refine ev_iadd i_law_707 ?_
  refine ev_sld (j := i + 3) rfl i_law_708 (nI_add i 3) (by omega) (by omega) ?_
  refine ev_vi2 i_law_709 lk_law_93 cb_lr_found iv_lr_found (two_found V) (by repeat (first | assumption | exact va_up_self _ _ _ | refine hu_ne (by first | assumption | exact Ne.symm (by assumption)) ?_)) rfl (by decide) (Nat.le_of_ble_eq_true rfl) rfl rfl (fun v h1 hq => ?_)
  obtain ⟨⟨gs, hm⟩, hR⟩ := hq
  refine ev_aload_2 i_law_712 ?_
  refine ev_aload_0 i_law_713 ?_
  refine ev_iload_3 i_law_714 ?_
  refine ev_iconst (v := 1) i_law_715 (by decide) ?_
  refine ev_iadd i_law_716 ?_
  refine ev_sld (j := i + 1) rfl i_law_717 (nI_add i 1) (by omega) (by omega) ?_
  refine ev_i2l i_law_718 ?_
  refine ev_bipush (v := 32) i_law_719 (by decide) ?_
  refine ev_lshl i_law_721 ?_
  refine ev_aload_0 i_law_722 ?_
  refine ev_iload_3 i_law_723 ?_
  refine ev_iconst (v := 2) i_law_724 (by decide) ?_
  refine ev_iadd i_law_725 ?_
  refine ev_sld (j := i + 2) rfl i_law_726 (nI_add i 2) (by omega) (by omega) ?_
  refine ev_i2l i_law_727 ?_
  refine ev_ldc2 i_law_728 kc_law_13 ?_
  refine ev_land i_law_731 ?_
  refine ev_lor i_law_732 ?_
  refine ev_aload_0 i_law_733 ?_
  refine ev_iload_3 i_law_734 ?_
  refine ev_iconst (v := 3) i_law_735 (by decide) ?_
  refine ev_iadd i_law_736 ?_
  refine ev_sld (j := i + 3) rfl i_law_737 (nI_add i 3) (by omega) (by omega) ?_
  refine ev_vi2 i_law_738 lk_law_97 cb_mo_found iv_mo_found (hR) (by repeat (first | assumption | exact va_up_self _ _ _ | refine hu_ne (by first | assumption | exact Ne.symm (by assumption)) ?_)) rfl (by decide) (Nat.le_of_ble_eq_true rfl) rfl rfl (fun v2 h2 hq2 => ?_)
  obtain ⟨rfl, V2⟩ := hq2
  exact ev_icmp_eq i_law_741 (fun _ => stp h2 V2) (fun z => absurd rfl z)
theorem law_score {b L x m n i : Nat} {xs : Nat → Int32} {Q : Option Value → ev_H → Prop} (hL : L ≤ 2560) (hi5 : i + 5 ≤ L) (V : LV G h x m) (stp : ∀ h', LV G h' x m → Ev G (M_law (some (b, L, xs))) 8 (5 * n) (80 * n) Q 809 [some (.ref b), some (.ref x), some (.ref m), some (.int (nI i))] [] h') : Ev G (M_law (some (b, L, xs))) 8 (5 * n + 0 + 0) (80 * n + 0 + 0) Q 746 [some (.ref b), some (.ref x), some (.ref m), some (.int (nI i))] [] h := by
  obtain ⟨⟨fx, hx⟩, -⟩ := LV_x V
  refine ev_aload_1 i_law_746 ?_
  refine ev_aload_0 i_law_747 ?_
  refine ev_iload_3 i_law_748 ?_
  refine ev_iconst (v := 1) i_law_749 (by decide) ?_
  refine ev_iadd i_law_750 ?_
  refine ev_sld (j := i + 1) rfl i_law_751 (nI_add i 1) (by omega) (by omega) ?_
  refine ev_i2l i_law_752 ?_
  refine ev_bipush (v := 32) i_law_753 (by decide) ?_
  refine ev_lshl i_law_755 ?_
  refine ev_aload_0 i_law_756 ?_
  refine ev_iload_3 i_law_757 ?_
  refine ev_iconst (v := 2) i_law_758 (by decide) ?_
  refine ev_iadd i_law_759 ?_
  refine ev_sld (j := i + 2) rfl i_law_760 (nI_add i 2) (by omega) (by omega) ?_
  refine ev_i2l i_law_761 ?_
  refine ev_ldc2 i_law_762 kc_law_13 ?_
  refine ev_land i_law_765 ?_
  refine ev_lor i_law_766 ?_
  refine ev_aload_0 i_law_767 ?_
  refine ev_iload_3 i_law_768 ?_
  refine ev_iconst (v := 3) i_law_769 (by decide) ?_
  refine ev_iadd i_law_770 ?_
  refine ev_sld (j := i + 3) rfl i_law_771 (nI_add i 3) (by omega) (by omega) ?_
  refine ev_vi2 i_law_772 lk_law_98 cb_lr_score iv_lr_score (two_score V) (by repeat (first | assumption | exact va_up_self _ _ _ | refine hu_ne (by first | assumption | exact Ne.symm (by assumption)) ?_)) rfl (by decide) (Nat.le_of_ble_eq_true rfl) rfl rfl (fun v h1 hq => ?_)
  obtain ⟨⟨gs, hm⟩, hR⟩ := hq
  refine ev_aload_2 i_law_775 ?_
  refine ev_aload_0 i_law_776 ?_
  refine ev_iload_3 i_law_777 ?_
  refine ev_iconst (v := 1) i_law_778 (by decide) ?_
  refine ev_iadd i_law_779 ?_
  refine ev_sld (j := i + 1) rfl i_law_780 (nI_add i 1) (by omega) (by omega) ?_
  refine ev_i2l i_law_781 ?_
  refine ev_bipush (v := 32) i_law_782 (by decide) ?_
  refine ev_lshl i_law_784 ?_
  refine ev_aload_0 i_law_785 ?_
  refine ev_iload_3 i_law_786 ?_
  refine ev_iconst (v := 2) i_law_787 (by decide) ?_
  refine ev_iadd i_law_788 ?_
  refine ev_sld (j := i + 2) rfl i_law_789 (nI_add i 2) (by omega) (by omega) ?_
  refine ev_i2l i_law_790 ?_
  refine ev_ldc2 i_law_791 kc_law_13 ?_
  refine ev_land i_law_794 ?_
  refine ev_lor i_law_795 ?_
  refine ev_aload_0 i_law_796 ?_
  refine ev_iload_3 i_law_797 ?_
  refine ev_iconst (v := 3) i_law_798 (by decide) ?_
  refine ev_iadd i_law_799 ?_
  refine ev_sld (j := i + 3) rfl i_law_800 (nI_add i 3) (by omega) (by omega) ?_
  refine ev_vi2 i_law_801 lk_law_101 cb_mo_score iv_mo_score (hR) (by repeat (first | assumption | exact va_up_self _ _ _ | refine hu_ne (by first | assumption | exact Ne.symm (by assumption)) ?_)) rfl (by decide) (Nat.le_of_ble_eq_true rfl) rfl rfl (fun v2 h2 hq2 => ?_)
  obtain ⟨rfl, V2⟩ := hq2
  exact ev_icmp_eq i_law_804 (fun _ => stp h2 V2) (fun z => absurd rfl z)
theorem law_loop {b L x m : Nat} {xs : Nat → Int32} (hL : L ≤ 2560) : ∀ (n i : Nat) (h : ev_H), i ≤ L + 5 → L < i + 5 * (n + 1) → LV G h x m → Ev G (M_law (some (b, L, xs))) 8 (5 * n) (80 * n) (ev_qi fun v _ => v = 1) 18 [some (.ref b), some (.ref x), some (.ref m), some (.int (nI i))] [] h := by
  intro n
  induction n with
  | zero =>
    intro i h hi hn V
    refine ev_iload_3 i_law_18 ?_
    refine ev_aload_0 i_law_19 ?_
    refine ev_slen rfl i_law_20 ?_
    refine ev_iconst (v := 5) i_law_21 (by decide) ?_
    refine ev_isub i_law_22 ?_
    refine ev_icmp_gt i_law_23 (fun c_23 => ?_) (fun c_23 => ?_)
    · refine ev_iconst (v := 1) i_law_815 (by decide) ?_
      refine ev_ireturn i_law_816 rfl rfl ?_
      exact ⟨_, rfl, rfl⟩
    · exact absurd ((law_gt (by omega) (by omega)).mpr (by omega)) c_23
  | succ n ih =>
    intro i h hi hn V
    refine ev_iload_3 i_law_18 ?_
    refine ev_aload_0 i_law_19 ?_
    refine ev_slen rfl i_law_20 ?_
    refine ev_iconst (v := 5) i_law_21 (by decide) ?_
    refine ev_isub i_law_22 ?_
    refine ev_icmp_gt i_law_23 (fun c_23 => ?_) (fun c_23 => ?_)
    · refine ev_iconst (v := 1) i_law_815 (by decide) ?_
      refine ev_ireturn i_law_816 rfl rfl ?_
      exact ⟨_, rfl, rfl⟩
    have hi5 : i + 5 ≤ L := by
      rcases Nat.lt_or_ge L (i + 5) with z | z
      · exact absurd ((law_gt (by omega) (by omega)).mpr z) c_23
      · exact z
    have stp : ∀ h', LV G h' x m → Ev G (M_law (some (b, L, xs))) 8 (5 * n) (80 * n) (ev_qi fun v _ => v = 1) 809 [some (.ref b), some (.ref x), some (.ref m), some (.int (nI i))] [] h' := by
      intro h' V'
      refine ev_iinc_3 i_law_809 (nI_add i 5) rfl ?_
      refine ev_goto i_law_812 ?_
      exact ih (i + 5) h' (by omega) (by omega) V'
    refine ev_aload_0 i_law_26 ?_
    refine ev_iload_3 i_law_27 ?_
    refine ev_sld (j := i) rfl i_law_28 rfl (by omega) (by omega) ?_
    refine ev_bipush (v := 31) i_law_29 (by decide) ?_
    refine ev_iand i_law_31 ?_
    obtain ⟨v, hv, ev⟩ := law_and (xs i)
    refine ev_top ev ?_
    rcases Nat.lt_or_ge v 19 with hv19 | hv19
    rotate_left
    · refine ev_tableOut (tgt := 809) i_law_32 (Or.inr (by rw [nI_toInt (by omega)]; omega)) (by decide) ?_
      exact ev_fit (by omega) (by omega) (stp h V)
    rcases (show v = 0 ∨ v = 1 ∨ v = 2 ∨ v = 3 ∨ v = 4 ∨ v = 5 ∨ v = 6 ∨ v = 7 ∨ v = 8 ∨ v = 9 ∨ v = 10 ∨ v = 11 ∨ v = 12 ∨ v = 13 ∨ v = 14 ∨ v = 15 ∨ v = 16 ∨ v = 17 ∨ v = 18 by omega) with rfl | rfl | rfl | rfl | rfl | rfl | rfl | rfl | rfl | rfl | rfl | rfl | rfl | rfl | rfl | rfl | rfl | rfl | rfl
    · exact ev_tableIn (off := 92) (tgt := 124) i_law_32 (by decide) (by decide) rfl (by decide) (ev_fit (by omega) (by omega) (law_licence (n := n) hL hi5 V stp))
    · exact ev_tableIn (off := 145) (tgt := 177) i_law_32 (by decide) (by decide) rfl (by decide) (ev_fit (by omega) (by omega) (law_rule (n := n) hL hi5 V stp))
    · exact ev_tableIn (off := 198) (tgt := 230) i_law_32 (by decide) (by decide) rfl (by decide) (ev_fit (by omega) (by omega) (law_lifts (n := n) hL hi5 V stp))
    · exact ev_tableIn (off := 257) (tgt := 289) i_law_32 (by decide) (by decide) rfl (by decide) (ev_fit (by omega) (by omega) (law_type (n := n) hL hi5 V stp))
    · exact ev_tableIn (off := 282) (tgt := 314) i_law_32 (by decide) (by decide) rfl (by decide) (ev_fit (by omega) (by omega) (law_pack (n := n) hL hi5 V stp))
    · exact ev_tableIn (off := 295) (tgt := 327) i_law_32 (by decide) (by decide) rfl (by decide) (ev_fit (by omega) (by omega) (law_express (n := n) hL hi5 V stp))
    · exact ev_tableIn (off := 318) (tgt := 350) i_law_32 (by decide) (by decide) rfl (by decide) (ev_fit (by omega) (by omega) (law_choices (n := n) hL hi5 V stp))
    · exact ev_tableIn (off := 341) (tgt := 373) i_law_32 (by decide) (by decide) rfl (by decide) (ev_fit (by omega) (by omega) (law_pair (n := n) hL hi5 V stp))
    · exact ev_tableIn (off := 384) (tgt := 416) i_law_32 (by decide) (by decide) rfl (by decide) (ev_fit (by omega) (by omega) (law_best (n := n) hL hi5 V stp))
    · exact ev_tableIn (off := 417) (tgt := 449) i_law_32 (by decide) (by decide) rfl (by decide) (ev_fit (by omega) (by omega) (law_duties (n := n) hL hi5 V stp))
    · exact ev_tableIn (off := 450) (tgt := 482) i_law_32 (by decide) (by decide) rfl (by decide) (ev_fit (by omega) (by omega) (law_uses (n := n) hL hi5 V stp))
    · exact ev_tableIn (off := 493) (tgt := 525) i_law_32 (by decide) (by decide) rfl (by decide) (ev_fit (by omega) (by omega) (law_grant (n := n) hL hi5 V stp))
    · exact ev_tableIn (off := 526) (tgt := 558) i_law_32 (by decide) (by decide) rfl (by decide) (ev_fit (by omega) (by omega) (law_tick (n := n) hL hi5 V stp))
    · exact ev_tableIn (off := 549) (tgt := 581) i_law_32 (by decide) (by decide) rfl (by decide) (ev_fit (by omega) (by omega) (law_review (n := n) hL hi5 V stp))
    · exact ev_tableIn (off := 582) (tgt := 614) i_law_32 (by decide) (by decide) rfl (by decide) (ev_fit (by omega) (by omega) (law_entry (n := n) hL hi5 V stp))
    · exact ev_tableIn (off := 615) (tgt := 647) i_law_32 (by decide) (by decide) rfl (by decide) (ev_fit (by omega) (by omega) (law_all (n := n) hL hi5 V stp))
    · exact ev_tableIn (off := 628) (tgt := 660) i_law_32 (by decide) (by decide) rfl (by decide) (ev_fit (by omega) (by omega) (law_material (n := n) hL hi5 V stp))
    · exact ev_tableIn (off := 651) (tgt := 683) i_law_32 (by decide) (by decide) rfl (by decide) (ev_fit (by omega) (by omega) (law_found (n := n) hL hi5 V stp))
    · exact ev_tableIn (off := 714) (tgt := 746) i_law_32 (by decide) (by decide) rfl (by decide) (ev_fit (by omega) (by omega) (law_score (n := n) hL hi5 V stp))
theorem LV_start {h1 h2 : ev_H} {x m : Nat} {ce : va_E} {ad : Nat → Nat} {τ : Nat → Nat} {ru w t l rd tx ea aa pp rv q1 q2 q3 q4 q5 : Nat} {fa fb : Nat → Nat} (H : CI G h1 τ x ru w t l rd tx ea aa pp rv q1 q2 q3 q4 q5 fa fb 0 (fun _ => 0) (fun _ => 0) (fun _ => 0) 0 (0, 0, 0, 0, fun _ => []) (fun _ => 0) (fun _ => 0) 0 (fun _ => none) (fun _ => pk0 (0, 0, 0, 0, 0)) (0, fun _ => 0, fun _ => 0, fun _ => 0) (fun _ => 0) (fun _ => 0) 0) (hz : ∀ q, τ q ≠ 99 → ∃ e, h1 q = some e) (hm : h1 m = none) (k : kx m (va_up h1 m (some ce)) h2) (M : MI G h2 h2 m ad (fun _ => 0) (A00 16) (fun _ => 0)) (hn : ∀ k, isR k = true → (va_up h1 m (some ce)) (ad k) = none) : LV G h2 x m := by
  have t0 : ∀ q, h1 q = none → τ q = 99 := fun q hq => by
    by_cases z : τ q = 99
    · exact z
    · obtain ⟨e, he⟩ := hz q z
      rw [hq] at he; cases he
  have ta : ∀ k, isR k = true → τ (ad k) = 99 := fun k hk => by
    have z := hn k hk
    by_cases e : ad k = m
    · rw [e, va_up_self] at z; cases z
    · rw [va_up_ne _ _ e] at z; exact t0 _ z
  refine ⟨τ, ru, w, t, l, rd, tx, ea, aa, pp, rv, q1, q2, q3, q4, q5, fa, fb, 0, fun _ => 0, fun _ => 0, fun _ => 0, 0, (0, 0, 0, 0, fun _ => []), fun _ => 0, fun _ => 0, 0, fun _ => none, fun _ => pk0 (0, 0, 0, 0, 0), (0, fun _ => 0, fun _ => 0, fun _ => 0), fun _ => 0, fun _ => 0, 0, ad, fun _ => 0, A00 16, fun _ => 0, CI_fr H (fun q hq => ?_), M, ⟨t0 m hm, ta⟩, ?_⟩
  · obtain ⟨e, he⟩ := hz q hq
    have ne : q ≠ m := fun z => by rw [z, hm] at he; cases he
    rw [he]
    exact k q e (by rw [va_up_ne _ _ ne]; exact he) ne
  · refine ⟨⟨rfl, rfl⟩, ⟨fun j _ => Or.inl ⟨rfl, rfl, rfl⟩, fun e w _ _ => ⟨fun z => absurd rfl z, fun z => by rw [ib_0] at z; cases z⟩⟩, ⟨rfl, fun i hi => absurd hi (Nat.not_lt_zero _)⟩, ⟨rfl, fun p hp => absurd hp (Nat.not_lt_zero _), fun p _ hp => ⟨rfl, rfl, rfl, ?_⟩⟩, rfl, rfl, rfl, rfl, rfl, fun q hq => absurd hq (Nat.not_lt_zero _)⟩
    show (if p < 16 then (-1 : Int32) else 0) = -1
    rw [if_pos hp]
theorem law_run {b L : Nat} {xs : Nat → Int32} (hL : L ≤ 2560) : Ev G (M_law (some (b, L, xs))) 8 2648 46863 (ev_qi fun v _ => v = 1) 0 [some (.ref b), none, none, none] [] (fun _ => none) := by
  refine ev_new (fs := [.null, .null, .null, .null, .int 0, .int 0]) (kc' := 2647) (ks' := 46857) i_law_0 k_lr cl_law_7 ns_lr in_lr (fun j hj => by rcases (show j = 0 ∨ j = 1 ∨ j = 2 ∨ j = 3 ∨ j = 4 ∨ j = 5 by omega) with rfl | rfl | rfl | rfl | rfl | rfl <;> rfl) rfl rfl (fun x hx => ?_)
  refine ev_dup i_law_3 rfl ?_
  refine ev_sv0 (kc' := 2584) (ks' := 43837) i_law_4 lk_law_9 cb_lr_init iv_lr_init (r_lr_init (va_up_self _ _ _)) (by decide) (Nat.le_of_ble_eq_true rfl) rfl rfl (fun h1 hq => ?_)
  obtain ⟨-, τ, ru, w, t, l, rd, tx, ea, aa, pp, rv, q1, q2, q3, q4, q5, fa, fb, H, hz⟩ := hq
  refine ev_astore_1 i_law_7 rfl ?_
  refine ev_new (fs := [.int 0, .int 0, .int 0, .int 0, .null, .null, .null, .null, .null, .int 0, .null, .null, .null, .null, .null, .null, .null, .null, .null, .null, .null, .null, .null, .int 0, .int 0, .int 0, .int 0, .int 0, .int 0, .null, .null, .null, .null, .null, .int 0]) (kc' := 2583) (ks' := 43802) i_law_8 k_mo cl_law_10 ns_mo in_mo (fun j hj => by rcases (show j = 0 ∨ j = 1 ∨ j = 2 ∨ j = 3 ∨ j = 4 ∨ j = 5 ∨ j = 6 ∨ j = 7 ∨ j = 8 ∨ j = 9 ∨ j = 10 ∨ j = 11 ∨ j = 12 ∨ j = 13 ∨ j = 14 ∨ j = 15 ∨ j = 16 ∨ j = 17 ∨ j = 18 ∨ j = 19 ∨ j = 20 ∨ j = 21 ∨ j = 22 ∨ j = 23 ∨ j = 24 ∨ j = 25 ∨ j = 26 ∨ j = 27 ∨ j = 28 ∨ j = 29 ∨ j = 30 ∨ j = 31 ∨ j = 32 ∨ j = 33 ∨ j = 34 by omega) with rfl | rfl | rfl | rfl | rfl | rfl | rfl | rfl | rfl | rfl | rfl | rfl | rfl | rfl | rfl | rfl | rfl | rfl | rfl | rfl | rfl | rfl | rfl | rfl | rfl | rfl | rfl | rfl | rfl | rfl | rfl | rfl | rfl | rfl | rfl <;> rfl) rfl rfl (fun m hm => ?_)
  refine ev_dup i_law_11 rfl ?_
  refine ev_sv0 (kc' := 2560) (ks' := 40960) i_law_12 lk_law_12 cb_mo_init iv_mo_init (r_mo_init (va_up_self _ _ _)) (by decide) (Nat.le_of_ble_eq_true rfl) rfl rfl (fun h2 hq => ?_)
  obtain ⟨k, ad, M, hn⟩ := hq
  refine ev_astore_2 i_law_15 rfl ?_
  refine ev_iconst (v := 0) i_law_16 (by decide) ?_
  refine ev_istore_3 i_law_17 rfl ?_
  exact law_loop hL 512 0 h2 (by omega) (by omega) (LV_start H hz hm k M hn)
end LAW
