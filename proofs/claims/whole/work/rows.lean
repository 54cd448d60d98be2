section
-- ===== PART A: goes FIRST, ahead of the names: the tables' words, and 'selects' of the private methods out of them =====
/-- a private method of a class that the tables say can be made, by its rows of tables_1 -/
def lw_okq (q : MethodName × Nat) : Prop := (q.1.cls ≠ "java/lang/invoke/MethodHandle" ∧ q.1.cls ≠ "java/lang/invoke/VarHandle") ∧ Cond.instantiable q.1.cls q.2 ∈ tables_1 ∧ Cond.privateMethod q.1 ∈ tables_1 ∧ Cond.instanceMethod q.1 ∈ tables_1
theorem lw_p0 : lw_okq (⟨"LicenceRules", "packAt", "(I)LLicenceRules$Pack;"⟩, 6) := ⟨⟨by decide +kernel, by decide +kernel⟩, List.mem_of_getElem? (i := 13) (by decide +kernel), List.mem_of_getElem? (i := 223) (by decide +kernel), List.mem_of_getElem? (i := 224) (by decide +kernel)⟩
theorem lw_p1 : lw_okq (⟨"LicenceRules$Reader", "startLevel", "()V"⟩, 10) := ⟨⟨by decide +kernel, by decide +kernel⟩, List.mem_of_getElem? (i := 42) (by decide +kernel), List.mem_of_getElem? (i := 235) (by decide +kernel), List.mem_of_getElem? (i := 236) (by decide +kernel)⟩
theorem lw_p2 : lw_okq (⟨"LicenceRules$Reader", "takes", "(CI)Z"⟩, 10) := ⟨⟨by decide +kernel, by decide +kernel⟩, List.mem_of_getElem? (i := 42) (by decide +kernel), List.mem_of_getElem? (i := 243) (by decide +kernel), List.mem_of_getElem? (i := 244) (by decide +kernel)⟩
theorem lw_p3 : lw_okq (⟨"LicenceRules$Reader", "opens", "()Z"⟩, 10) := ⟨⟨by decide +kernel, by decide +kernel⟩, List.mem_of_getElem? (i := 42) (by decide +kernel), List.mem_of_getElem? (i := 247) (by decide +kernel), List.mem_of_getElem? (i := 248) (by decide +kernel)⟩
theorem lw_p4 : lw_okq (⟨"LicenceRules$Reader", "takesName", "(CI)Z"⟩, 10) := ⟨⟨by decide +kernel, by decide +kernel⟩, List.mem_of_getElem? (i := 42) (by decide +kernel), List.mem_of_getElem? (i := 251) (by decide +kernel), List.mem_of_getElem? (i := 252) (by decide +kernel)⟩
theorem lw_p5 : lw_okq (⟨"LicenceRules$Reader", "takesDigit", "(C)Z"⟩, 10) := ⟨⟨by decide +kernel, by decide +kernel⟩, List.mem_of_getElem? (i := 42) (by decide +kernel), List.mem_of_getElem? (i := 255) (by decide +kernel), List.mem_of_getElem? (i := 256) (by decide +kernel)⟩
theorem lw_p6 : lw_okq (⟨"LicenceRules$Reader", "endAtom", "(LLicenceRules$Form;)V"⟩, 10) := ⟨⟨by decide +kernel, by decide +kernel⟩, List.mem_of_getElem? (i := 42) (by decide +kernel), List.mem_of_getElem? (i := 263) (by decide +kernel), List.mem_of_getElem? (i := 264) (by decide +kernel)⟩
theorem lw_p7 : lw_okq (⟨"LicenceRules$Form", "hasOneWithin", "(JJJ)Z"⟩, 3) := ⟨⟨by decide +kernel, by decide +kernel⟩, List.mem_of_getElem? (i := 49) (by decide +kernel), List.mem_of_getElem? (i := 285) (by decide +kernel), List.mem_of_getElem? (i := 286) (by decide +kernel)⟩
theorem lw_p8 : lw_okq (⟨"LicenceRules$Form", "dropThoseWith", "(JJJ)V"⟩, 3) := ⟨⟨by decide +kernel, by decide +kernel⟩, List.mem_of_getElem? (i := 49) (by decide +kernel), List.mem_of_getElem? (i := 290) (by decide +kernel), List.mem_of_getElem? (i := 291) (by decide +kernel)⟩
theorem lw_p9 : lw_okq (⟨"LicenceRules$Reader", "keepWork", "(LLicenceRules$Form;)V"⟩, 10) := ⟨⟨by decide +kernel, by decide +kernel⟩, List.mem_of_getElem? (i := 42) (by decide +kernel), List.mem_of_getElem? (i := 294) (by decide +kernel), List.mem_of_getElem? (i := 295) (by decide +kernel)⟩
theorem lw_p10 : lw_okq (⟨"LicenceRules$Reader", "endName", "()V"⟩, 10) := ⟨⟨by decide +kernel, by decide +kernel⟩, List.mem_of_getElem? (i := 42) (by decide +kernel), List.mem_of_getElem? (i := 298) (by decide +kernel), List.mem_of_getElem? (i := 299) (by decide +kernel)⟩
theorem lw_p11 : lw_okq (⟨"LicenceRules$Reader", "closes", "()Z"⟩, 10) := ⟨⟨by decide +kernel, by decide +kernel⟩, List.mem_of_getElem? (i := 42) (by decide +kernel), List.mem_of_getElem? (i := 302) (by decide +kernel), List.mem_of_getElem? (i := 303) (by decide +kernel)⟩
theorem lw_p12 : lw_okq (⟨"LicenceRules$Reader", "endAlso", "()V"⟩, 10) := ⟨⟨by decide +kernel, by decide +kernel⟩, List.mem_of_getElem? (i := 42) (by decide +kernel), List.mem_of_getElem? (i := 306) (by decide +kernel), List.mem_of_getElem? (i := 307) (by decide +kernel)⟩
theorem lw_p13 : lw_okq (⟨"LicenceRules$Reader", "takesSign", "(C)Z"⟩, 10) := ⟨⟨by decide +kernel, by decide +kernel⟩, List.mem_of_getElem? (i := 42) (by decide +kernel), List.mem_of_getElem? (i := 310) (by decide +kernel), List.mem_of_getElem? (i := 311) (by decide +kernel)⟩
theorem lw_p14 : lw_okq (⟨"LicenceRules$Rules", "termsOfCode", "(II)I"⟩, 4) := ⟨⟨by decide +kernel, by decide +kernel⟩, List.mem_of_getElem? (i := 21) (by decide +kernel), List.mem_of_getElem? (i := 358) (by decide +kernel), List.mem_of_getElem? (i := 359) (by decide +kernel)⟩
theorem lw_p15 : lw_okq (⟨"LicenceRules$Review", "addOnce", "(III)V"⟩, 6) := ⟨⟨by decide +kernel, by decide +kernel⟩, List.mem_of_getElem? (i := 102) (by decide +kernel), List.mem_of_getElem? (i := 410) (by decide +kernel), List.mem_of_getElem? (i := 411) (by decide +kernel)⟩
def lw_privs_1 : List (MethodName × Nat) := [(⟨"LicenceRules", "packAt", "(I)LLicenceRules$Pack;"⟩, 6), (⟨"LicenceRules$Reader", "startLevel", "()V"⟩, 10), (⟨"LicenceRules$Reader", "takes", "(CI)Z"⟩, 10), (⟨"LicenceRules$Reader", "opens", "()Z"⟩, 10), (⟨"LicenceRules$Reader", "takesName", "(CI)Z"⟩, 10), (⟨"LicenceRules$Reader", "takesDigit", "(C)Z"⟩, 10), (⟨"LicenceRules$Reader", "endAtom", "(LLicenceRules$Form;)V"⟩, 10), (⟨"LicenceRules$Form", "hasOneWithin", "(JJJ)Z"⟩, 3), (⟨"LicenceRules$Form", "dropThoseWith", "(JJJ)V"⟩, 3), (⟨"LicenceRules$Reader", "keepWork", "(LLicenceRules$Form;)V"⟩, 10), (⟨"LicenceRules$Reader", "endName", "()V"⟩, 10), (⟨"LicenceRules$Reader", "closes", "()Z"⟩, 10), (⟨"LicenceRules$Reader", "endAlso", "()V"⟩, 10), (⟨"LicenceRules$Reader", "takesSign", "(C)Z"⟩, 10), (⟨"LicenceRules$Rules", "termsOfCode", "(II)I"⟩, 4), (⟨"LicenceRules$Review", "addOnce", "(III)V"⟩, 6)]
theorem lw_r1 : ∀ q ∈ lw_privs_1, lw_okq q := List.forall_mem_cons.mpr ⟨lw_p0, List.forall_mem_cons.mpr ⟨lw_p1, List.forall_mem_cons.mpr ⟨lw_p2, List.forall_mem_cons.mpr ⟨lw_p3, List.forall_mem_cons.mpr ⟨lw_p4, List.forall_mem_cons.mpr ⟨lw_p5, List.forall_mem_cons.mpr ⟨lw_p6, List.forall_mem_cons.mpr ⟨lw_p7, List.forall_mem_cons.mpr ⟨lw_p8, List.forall_mem_cons.mpr ⟨lw_p9, List.forall_mem_cons.mpr ⟨lw_p10, List.forall_mem_cons.mpr ⟨lw_p11, List.forall_mem_cons.mpr ⟨lw_p12, List.forall_mem_cons.mpr ⟨lw_p13, List.forall_mem_cons.mpr ⟨lw_p14, List.forall_mem_cons.mpr ⟨lw_p15, fun _ h => absurd h List.not_mem_nil⟩⟩⟩⟩⟩⟩⟩⟩⟩⟩⟩⟩⟩⟩⟩⟩
theorem lw_p16 : lw_okq (⟨"LicenceRules$Review", "judgeOne", "(ILLicenceRules$Pack;LLicenceRules$Rules;I)V"⟩, 6) := ⟨⟨by decide +kernel, by decide +kernel⟩, List.mem_of_getElem? (i := 102) (by decide +kernel), List.mem_of_getElem? (i := 420) (by decide +kernel), List.mem_of_getElem? (i := 421) (by decide +kernel)⟩
theorem lw_p17 : lw_okq (⟨"LicenceRules$Review", "isFirstOfItsPack", "(I)Z"⟩, 6) := ⟨⟨by decide +kernel, by decide +kernel⟩, List.mem_of_getElem? (i := 102) (by decide +kernel), List.mem_of_getElem? (i := 450) (by decide +kernel), List.mem_of_getElem? (i := 451) (by decide +kernel)⟩
theorem lw_p18 : lw_okq (⟨"LicenceRulesModel", "isLicence", "(I)Z"⟩, 35) := ⟨⟨by decide +kernel, by decide +kernel⟩, List.mem_of_getElem? (i := 467) (by decide +kernel), List.mem_of_getElem? (i := 588) (by decide +kernel), List.mem_of_getElem? (i := 589) (by decide +kernel)⟩
theorem lw_p19 : lw_okq (⟨"LicenceRulesModel", "read", "()I"⟩, 35) := ⟨⟨by decide +kernel, by decide +kernel⟩, List.mem_of_getElem? (i := 467) (by decide +kernel), List.mem_of_getElem? (i := 611) (by decide +kernel), List.mem_of_getElem? (i := 612) (by decide +kernel)⟩
theorem lw_p20 : lw_okq (⟨"LicenceRulesModel", "operand", "()Z"⟩, 35) := ⟨⟨by decide +kernel, by decide +kernel⟩, List.mem_of_getElem? (i := 467) (by decide +kernel), List.mem_of_getElem? (i := 615) (by decide +kernel), List.mem_of_getElem? (i := 616) (by decide +kernel)⟩
theorem lw_p21 : lw_okq (⟨"LicenceRulesModel", "next", "()I"⟩, 35) := ⟨⟨by decide +kernel, by decide +kernel⟩, List.mem_of_getElem? (i := 467) (by decide +kernel), List.mem_of_getElem? (i := 619) (by decide +kernel), List.mem_of_getElem? (i := 620) (by decide +kernel)⟩
theorem lw_p22 : lw_okq (⟨"LicenceRulesModel", "pairOf", "(I)I"⟩, 35) := ⟨⟨by decide +kernel, by decide +kernel⟩, List.mem_of_getElem? (i := 467) (by decide +kernel), List.mem_of_getElem? (i := 623) (by decide +kernel), List.mem_of_getElem? (i := 624) (by decide +kernel)⟩
theorem lw_p23 : lw_okq (⟨"LicenceRulesModel", "workOff", "(Z)V"⟩, 35) := ⟨⟨by decide +kernel, by decide +kernel⟩, List.mem_of_getElem? (i := 467) (by decide +kernel), List.mem_of_getElem? (i := 627) (by decide +kernel), List.mem_of_getElem? (i := 628) (by decide +kernel)⟩
theorem lw_p24 : lw_okq (⟨"LicenceRulesModel", "join", "(I)V"⟩, 35) := ⟨⟨by decide +kernel, by decide +kernel⟩, List.mem_of_getElem? (i := 467) (by decide +kernel), List.mem_of_getElem? (i := 631) (by decide +kernel), List.mem_of_getElem? (i := 632) (by decide +kernel)⟩
theorem lw_p25 : lw_okq (⟨"LicenceRulesModel", "isPack", "(I)Z"⟩, 35) := ⟨⟨by decide +kernel, by decide +kernel⟩, List.mem_of_getElem? (i := 467) (by decide +kernel), List.mem_of_getElem? (i := 635) (by decide +kernel), List.mem_of_getElem? (i := 636) (by decide +kernel)⟩
theorem lw_p26 : lw_okq (⟨"LicenceRulesModel", "bestOf", "(II)I"⟩, 35) := ⟨⟨by decide +kernel, by decide +kernel⟩, List.mem_of_getElem? (i := 467) (by decide +kernel), List.mem_of_getElem? (i := 651) (by decide +kernel), List.mem_of_getElem? (i := 652) (by decide +kernel)⟩
theorem lw_p27 : lw_okq (⟨"LicenceRulesModel", "dutiesOf", "(III)I"⟩, 35) := ⟨⟨by decide +kernel, by decide +kernel⟩, List.mem_of_getElem? (i := 467) (by decide +kernel), List.mem_of_getElem? (i := 655) (by decide +kernel), List.mem_of_getElem? (i := 656) (by decide +kernel)⟩
theorem lw_p28 : lw_okq (⟨"LicenceRulesModel", "isLifted", "(II)Z"⟩, 35) := ⟨⟨by decide +kernel, by decide +kernel⟩, List.mem_of_getElem? (i := 467) (by decide +kernel), List.mem_of_getElem? (i := 659) (by decide +kernel), List.mem_of_getElem? (i := 660) (by decide +kernel)⟩
theorem lw_p29 : lw_okq (⟨"LicenceRulesModel", "bestDuties", "(II)I"⟩, 35) := ⟨⟨by decide +kernel, by decide +kernel⟩, List.mem_of_getElem? (i := 467) (by decide +kernel), List.mem_of_getElem? (i := 670) (by decide +kernel), List.mem_of_getElem? (i := 671) (by decide +kernel)⟩
theorem lw_p30 : lw_okq (⟨"LicenceRulesModel", "come", "(III)V"⟩, 35) := ⟨⟨by decide +kernel, by decide +kernel⟩, List.mem_of_getElem? (i := 467) (by decide +kernel), List.mem_of_getElem? (i := 692) (by decide +kernel), List.mem_of_getElem? (i := 693) (by decide +kernel)⟩
theorem lw_p31 : lw_okq (⟨"LicenceRulesModel", "scoreOf", "(JI)I"⟩, 35) := ⟨⟨by decide +kernel, by decide +kernel⟩, List.mem_of_getElem? (i := 467) (by decide +kernel), List.mem_of_getElem? (i := 712) (by decide +kernel), List.mem_of_getElem? (i := 713) (by decide +kernel)⟩
def lw_privs_2 : List (MethodName × Nat) := [(⟨"LicenceRules$Review", "judgeOne", "(ILLicenceRules$Pack;LLicenceRules$Rules;I)V"⟩, 6), (⟨"LicenceRules$Review", "isFirstOfItsPack", "(I)Z"⟩, 6), (⟨"LicenceRulesModel", "isLicence", "(I)Z"⟩, 35), (⟨"LicenceRulesModel", "read", "()I"⟩, 35), (⟨"LicenceRulesModel", "operand", "()Z"⟩, 35), (⟨"LicenceRulesModel", "next", "()I"⟩, 35), (⟨"LicenceRulesModel", "pairOf", "(I)I"⟩, 35), (⟨"LicenceRulesModel", "workOff", "(Z)V"⟩, 35), (⟨"LicenceRulesModel", "join", "(I)V"⟩, 35), (⟨"LicenceRulesModel", "isPack", "(I)Z"⟩, 35), (⟨"LicenceRulesModel", "bestOf", "(II)I"⟩, 35), (⟨"LicenceRulesModel", "dutiesOf", "(III)I"⟩, 35), (⟨"LicenceRulesModel", "isLifted", "(II)Z"⟩, 35), (⟨"LicenceRulesModel", "bestDuties", "(II)I"⟩, 35), (⟨"LicenceRulesModel", "come", "(III)V"⟩, 35), (⟨"LicenceRulesModel", "scoreOf", "(JI)I"⟩, 35)]
theorem lw_r2 : ∀ q ∈ lw_privs_2, lw_okq q := List.forall_mem_cons.mpr ⟨lw_p16, List.forall_mem_cons.mpr ⟨lw_p17, List.forall_mem_cons.mpr ⟨lw_p18, List.forall_mem_cons.mpr ⟨lw_p19, List.forall_mem_cons.mpr ⟨lw_p20, List.forall_mem_cons.mpr ⟨lw_p21, List.forall_mem_cons.mpr ⟨lw_p22, List.forall_mem_cons.mpr ⟨lw_p23, List.forall_mem_cons.mpr ⟨lw_p24, List.forall_mem_cons.mpr ⟨lw_p25, List.forall_mem_cons.mpr ⟨lw_p26, List.forall_mem_cons.mpr ⟨lw_p27, List.forall_mem_cons.mpr ⟨lw_p28, List.forall_mem_cons.mpr ⟨lw_p29, List.forall_mem_cons.mpr ⟨lw_p30, List.forall_mem_cons.mpr ⟨lw_p31, fun _ h => absurd h List.not_mem_nil⟩⟩⟩⟩⟩⟩⟩⟩⟩⟩⟩⟩⟩⟩⟩⟩
def lw_privs : List (MethodName × Nat) := lw_privs_1 ++ (lw_privs_2)
def lw_tbl : List Cond := k2_sels lw_privs ++ tables_1
theorem lw_privs_ok : ∀ q ∈ lw_privs, lw_okq q := by
  show ∀ q ∈ lw_privs_1 ++ (lw_privs_2), lw_okq q
  exact List.forall_mem_append.mpr ⟨lw_r1, lw_r2⟩
def RC_fo : String := "LicenceRules$Form"
def FT_fo : u_T := fun k => match k with
  | 0 => ("LicenceRules$Form", "room", "I", true)
  | 1 => ("LicenceRules$Form", "bits", "[J", true)
  | _ => ("LicenceRules$Form", "count", "I", false)
def ft_fo : Nat → FieldType := fun k => match k with
  | 0 => .int
  | 1 => .array .long
  | _ => .int
def RC_pk : String := "LicenceRules$Pack"
def FT_pk : u_T := fun k => match k with
  | 0 => ("LicenceRules$Pack", "form", "LLicenceRules$Form;", true)
  | 1 => ("LicenceRules$Pack", "usedPacks", "[I", true)
  | 2 => ("LicenceRules$Pack", "usedWays", "[I", true)
  | 3 => ("LicenceRules$Pack", "useCount", "I", false)
  | _ => ("LicenceRules$Pack", "grantEnd", "I", false)
def ft_pk : Nat → FieldType := fun k => match k with
  | 0 => .object "LicenceRules$Form"
  | 1 => .array .int
  | 2 => .array .int
  | 3 => .int
  | _ => .int
def RC_rd : String := "LicenceRules$Reader"
def FT_rd : u_T := fun k => match k with
  | 0 => ("LicenceRules$Reader", "text", "[C", true)
  | 1 => ("LicenceRules$Reader", "eithers", "[LLicenceRules$Form;", true)
  | 2 => ("LicenceRules$Reader", "alsos", "[LLicenceRules$Form;", true)
  | 3 => ("LicenceRules$Reader", "atom", "LLicenceRules$Form;", true)
  | 4 => ("LicenceRules$Reader", "work", "LLicenceRules$Form;", true)
  | 5 => ("LicenceRules$Reader", "length", "I", false)
  | 6 => ("LicenceRules$Reader", "open", "I", false)
  | 7 => ("LicenceRules$Reader", "state", "I", false)
  | 8 => ("LicenceRules$Reader", "named", "I", false)
  | _ => ("LicenceRules$Reader", "tooMany", "Z", false)
def ft_rd : Nat → FieldType := fun k => match k with
  | 0 => .array .char
  | 1 => .array (.object "LicenceRules$Form")
  | 2 => .array (.object "LicenceRules$Form")
  | 3 => .object "LicenceRules$Form"
  | 4 => .object "LicenceRules$Form"
  | 5 => .int
  | 6 => .int
  | 7 => .int
  | 8 => .int
  | _ => .boolean
def RC_rv : String := "LicenceRules$Review"
def FT_rv : u_T := fun k => match k with
  | 0 => ("LicenceRules$Review", "numbers", "[I", true)
  | 1 => ("LicenceRules$Review", "ways", "[I", true)
  | 2 => ("LicenceRules$Review", "kinds", "[I", true)
  | 3 => ("LicenceRules$Review", "dutySets", "[I", true)
  | 4 => ("LicenceRules$Review", "origins", "[I", true)
  | _ => ("LicenceRules$Review", "count", "I", false)
def ft_rv : Nat → FieldType := fun k => match k with
  | 0 => .array .int
  | 1 => .array .int
  | 2 => .array .int
  | 3 => .array .int
  | 4 => .array .int
  | _ => .int
def RC_ru : String := "LicenceRules$Rules"
def FT_ru : u_T := fun k => match k with
  | 0 => ("LicenceRules$Rules", "wordSets", "[J", true)
  | 1 => ("LicenceRules$Rules", "terms", "[I", true)
  | 2 => ("LicenceRules$Rules", "lifted", "[I", true)
  | _ => ("LicenceRules$Rules", "count", "I", false)
def ft_ru : Nat → FieldType := fun k => match k with
  | 0 => .array .long
  | 1 => .array .int
  | 2 => .array .int
  | _ => .int
def RC_lr : String := "LicenceRules"
def FT_lr : u_T := fun k => match k with
  | 0 => ("LicenceRules", "rules", "LLicenceRules$Rules;", true)
  | 1 => ("LicenceRules", "reader", "LLicenceRules$Reader;", true)
  | 2 => ("LicenceRules", "packs", "[LLicenceRules$Pack;", true)
  | 3 => ("LicenceRules", "latest", "LLicenceRules$Review;", true)
  | 4 => ("LicenceRules", "packCount", "I", false)
  | _ => ("LicenceRules", "clock", "I", false)
def ft_lr : Nat → FieldType := fun k => match k with
  | 0 => .object "LicenceRules$Rules"
  | 1 => .object "LicenceRules$Reader"
  | 2 => .array (.object "LicenceRules$Pack")
  | 3 => .object "LicenceRules$Review"
  | 4 => .int
  | _ => .int
def RC_mo : String := "LicenceRulesModel"
def FT_mo : u_T := fun k => match k with
  | 0 => ("LicenceRulesModel", "code", "I", false)
  | 1 => ("LicenceRulesModel", "clock", "I", false)
  | 2 => ("LicenceRulesModel", "licences", "I", false)
  | 3 => ("LicenceRulesModel", "packs", "I", false)
  | 4 => ("LicenceRulesModel", "words", "[J", true)
  | 5 => ("LicenceRulesModel", "kind", "[I", true)
  | 6 => ("LicenceRulesModel", "duty", "[I", true)
  | 7 => ("LicenceRulesModel", "lift", "[Z", true)
  | 8 => ("LicenceRulesModel", "text", "[I", true)
  | 9 => ("LicenceRulesModel", "size", "I", false)
  | 10 => ("LicenceRulesModel", "pairMany", "[I", true)
  | 11 => ("LicenceRulesModel", "pairCode", "[I", true)
  | 12 => ("LicenceRulesModel", "choiceMany", "[I", true)
  | 13 => ("LicenceRulesModel", "choice", "[I", true)
  | 14 => ("LicenceRulesModel", "useMany", "[I", true)
  | 15 => ("LicenceRulesModel", "useOf", "[I", true)
  | 16 => ("LicenceRulesModel", "useWay", "[I", true)
  | 17 => ("LicenceRulesModel", "end", "[I", true)
  | 18 => ("LicenceRulesModel", "codes", "[I", true)
  | 19 => ("LicenceRulesModel", "rows", "[I", true)
  | 20 => ("LicenceRulesModel", "rowMany", "[I", true)
  | 21 => ("LicenceRulesModel", "work", "[I", true)
  | 22 => ("LicenceRulesModel", "sign", "[I", true)
  | 23 => ("LicenceRulesModel", "codeMany", "I", false)
  | 24 => ("LicenceRulesModel", "rowsMany", "I", false)
  | 25 => ("LicenceRulesModel", "signs", "I", false)
  | 26 => ("LicenceRulesModel", "open", "I", false)
  | 27 => ("LicenceRulesModel", "isMuch", "Z", false)
  | 28 => ("LicenceRulesModel", "entries", "I", false)
  | 29 => ("LicenceRulesModel", "entryPack", "[I", true)
  | 30 => ("LicenceRulesModel", "entryWay", "[I", true)
  | 31 => ("LicenceRulesModel", "entryKind", "[I", true)
  | 32 => ("LicenceRulesModel", "entryDuty", "[I", true)
  | 33 => ("LicenceRulesModel", "entryBy", "[I", true)
  | _ => ("LicenceRulesModel", "at", "I", false)
def ft_mo : Nat → FieldType := fun k => match k with
  | 0 => .int
  | 1 => .int
  | 2 => .int
  | 3 => .int
  | 4 => .array .long
  | 5 => .array .int
  | 6 => .array .int
  | 7 => .array .boolean
  | 8 => .array .int
  | 9 => .int
  | 10 => .array .int
  | 11 => .array .int
  | 12 => .array .int
  | 13 => .array .int
  | 14 => .array .int
  | 15 => .array .int
  | 16 => .array .int
  | 17 => .array .int
  | 18 => .array .int
  | 19 => .array .int
  | 20 => .array .int
  | 21 => .array .int
  | 22 => .array .int
  | 23 => .int
  | 24 => .int
  | 25 => .int
  | 26 => .int
  | 27 => .boolean
  | 28 => .int
  | 29 => .array .int
  | 30 => .array .int
  | 31 => .array .int
  | 32 => .array .int
  | 33 => .array .int
  | _ => .int
abbrev ev_CL : List vw_C := [(RC_fo, FT_fo, 3), (RC_pk, FT_pk, 5), (RC_rd, FT_rd, 10), (RC_rv, FT_rv, 6), (RC_ru, FT_ru, 4), (RC_lr, FT_lr, 6), (RC_mo, FT_mo, 35)]
abbrev ev_TY (g : Nat → ClassId) : List (ClassId × FieldType) := [(g 0, .int), (g 1, .long), (g 2, .char), (g 3, .boolean), (g 4, .object "LicenceRules$Form"), (g 5, .object "LicenceRules$Pack")]
def ev_AO : List String := ["LicenceRules$Form", "LicenceRules$Pack"]
abbrev ev_X : Type := Option (Nat × Nat × (Nat → Int32))
/-- a method: its name, its bytes, how many locals, what it returns, the script that it may read -/
abbrev ev_M : Type := MethodName × ByteArray × Nat × Option FieldType × ev_X
def M_fo_init : ev_M := (⟨"LicenceRules$Form", "<init>", "(I)V"⟩, prog_2_method_1_code, 2, none, none)
def M_fo_size : ev_M := (⟨"LicenceRules$Form", "size", "()I"⟩, prog_2_method_2_code, 1, (some .int), none)
def M_fo_clear : ev_M := (⟨"LicenceRules$Form", "clear", "()V"⟩, prog_2_method_3_code, 1, none, none)
def M_fo_setOnly : ev_M := (⟨"LicenceRules$Form", "setOnly", "(I)V"⟩, prog_2_method_4_code, 3, none, none)
def M_fo_copyFrom : ev_M := (⟨"LicenceRules$Form", "copyFrom", "(LLicenceRules$Form;)V"⟩, prog_2_method_5_code, 2, none, none)
def M_fo_holds : ev_M := (⟨"LicenceRules$Form", "holds", "(II)Z"⟩, prog_2_method_6_code, 3, (some .boolean), none)
def M_fo_pairCount : ev_M := (⟨"LicenceRules$Form", "pairCount", "(I)I"⟩, prog_2_method_7_code, 4, (some .int), none)
def M_fo_codeAt : ev_M := (⟨"LicenceRules$Form", "codeAt", "(II)I"⟩, prog_2_method_8_code, 5, (some .int), none)
def M_fo_addJoined : ev_M := (⟨"LicenceRules$Form", "addJoined", "(LLicenceRules$Form;ILLicenceRules$Form;I)V"⟩, prog_2_method_9_code, 11, none, none)
def M_fo_hasOneWithin : ev_M := (⟨"LicenceRules$Form", "hasOneWithin", "(JJJ)Z"⟩, prog_2_method_10_code, 8, (some .boolean), none)
def M_fo_dropThoseWith : ev_M := (⟨"LicenceRules$Form", "dropThoseWith", "(JJJ)V"⟩, prog_2_method_11_code, 11, none, none)
def M_pk_init : ev_M := (⟨"LicenceRules$Pack", "<init>", "()V"⟩, prog_3_method_1_code, 1, none, none)
def M_pk_addUse : ev_M := (⟨"LicenceRules$Pack", "addUse", "(II)Z"⟩, prog_3_method_2_code, 4, (some .boolean), none)
def M_rd_init : ev_M := (⟨"LicenceRules$Reader", "<init>", "()V"⟩, prog_4_method_1_code, 2, none, none)
def M_rd_append : ev_M := (⟨"LicenceRules$Reader", "append", "(C)Z"⟩, prog_4_method_2_code, 2, (some .boolean), none)
def M_rd_empty : ev_M := (⟨"LicenceRules$Reader", "empty", "()V"⟩, prog_4_method_3_code, 1, none, none)
def M_rd_hasTooMany : ev_M := (⟨"LicenceRules$Reader", "hasTooMany", "()Z"⟩, prog_4_method_4_code, 1, (some .boolean), none)
def M_rd_result : ev_M := (⟨"LicenceRules$Reader", "result", "()LLicenceRules$Form;"⟩, prog_4_method_5_code, 1, (some (.object "LicenceRules$Form")), none)
def M_rd_read : ev_M := (⟨"LicenceRules$Reader", "read", "(I)I"⟩, prog_4_method_6_code, 3, (some .int), none)
def M_rd_takes : ev_M := (⟨"LicenceRules$Reader", "takes", "(CI)Z"⟩, prog_4_method_7_code, 3, (some .boolean), none)
def M_rd_opens : ev_M := (⟨"LicenceRules$Reader", "opens", "()Z"⟩, prog_4_method_8_code, 1, (some .boolean), none)
def M_rd_takesName : ev_M := (⟨"LicenceRules$Reader", "takesName", "(CI)Z"⟩, prog_4_method_9_code, 3, (some .boolean), none)
def M_rd_takesDigit : ev_M := (⟨"LicenceRules$Reader", "takesDigit", "(C)Z"⟩, prog_4_method_10_code, 2, (some .boolean), none)
def M_rd_closes : ev_M := (⟨"LicenceRules$Reader", "closes", "()Z"⟩, prog_4_method_11_code, 1, (some .boolean), none)
def M_rd_takesSign : ev_M := (⟨"LicenceRules$Reader", "takesSign", "(C)Z"⟩, prog_4_method_12_code, 2, (some .boolean), none)
def M_rd_startLevel : ev_M := (⟨"LicenceRules$Reader", "startLevel", "()V"⟩, prog_4_method_13_code, 1, none, none)
def M_rd_endName : ev_M := (⟨"LicenceRules$Reader", "endName", "()V"⟩, prog_4_method_14_code, 1, none, none)
def M_rd_endAtom : ev_M := (⟨"LicenceRules$Reader", "endAtom", "(LLicenceRules$Form;)V"⟩, prog_4_method_15_code, 5, none, none)
def M_rd_endAlso : ev_M := (⟨"LicenceRules$Reader", "endAlso", "()V"⟩, prog_4_method_16_code, 4, none, none)
def M_rd_keepWork : ev_M := (⟨"LicenceRules$Reader", "keepWork", "(LLicenceRules$Form;)V"⟩, prog_4_method_17_code, 2, none, none)
def M_rv_init : ev_M := (⟨"LicenceRules$Review", "<init>", "()V"⟩, prog_5_method_1_code, 1, none, none)
def M_rv_walk : ev_M := (⟨"LicenceRules$Review", "walk", "([LLicenceRules$Pack;II)V"⟩, prog_5_method_2_code, 7, none, none)
def M_rv_addOnce : ev_M := (⟨"LicenceRules$Review", "addOnce", "(III)V"⟩, prog_5_method_3_code, 5, none, none)
def M_rv_judge : ev_M := (⟨"LicenceRules$Review", "judge", "([LLicenceRules$Pack;LLicenceRules$Rules;I)I"⟩, prog_5_method_4_code, 7, (some .int), none)
def M_rv_judgeOne : ev_M := (⟨"LicenceRules$Review", "judgeOne", "(ILLicenceRules$Pack;LLicenceRules$Rules;I)V"⟩, prog_5_method_5_code, 6, none, none)
def M_rv_tell : ev_M := (⟨"LicenceRules$Review", "tell", "(II)I"⟩, prog_5_method_6_code, 3, (some .int), none)
def M_rv_joinedDuties : ev_M := (⟨"LicenceRules$Review", "joinedDuties", "()I"⟩, prog_5_method_7_code, 3, (some .int), none)
def M_rv_distinctPack : ev_M := (⟨"LicenceRules$Review", "distinctPack", "(I)I"⟩, prog_5_method_8_code, 4, (some .int), none)
def M_rv_isFirstOfItsPack : ev_M := (⟨"LicenceRules$Review", "isFirstOfItsPack", "(I)Z"⟩, prog_5_method_9_code, 3, (some .boolean), none)
def M_ru_init : ev_M := (⟨"LicenceRules$Rules", "<init>", "()V"⟩, prog_6_method_1_code, 1, none, none)
def M_ru_licenceCount : ev_M := (⟨"LicenceRules$Rules", "licenceCount", "()I"⟩, prog_6_method_2_code, 1, (some .int), none)
def M_ru_addLicence : ev_M := (⟨"LicenceRules$Rules", "addLicence", "(J)I"⟩, prog_6_method_3_code, 3, (some .int), none)
def M_ru_hasLicence : ev_M := (⟨"LicenceRules$Rules", "hasLicence", "(I)Z"⟩, prog_6_method_4_code, 2, (some .boolean), none)
def M_ru_setTerms : ev_M := (⟨"LicenceRules$Rules", "setTerms", "(III)V"⟩, prog_6_method_5_code, 4, none, none)
def M_ru_setLifted : ev_M := (⟨"LicenceRules$Rules", "setLifted", "(IIZ)V"⟩, prog_6_method_6_code, 5, none, none)
def M_ru_termsOfCode : ev_M := (⟨"LicenceRules$Rules", "termsOfCode", "(II)I"⟩, prog_6_method_7_code, 4, (some .int), none)
def M_ru_termsOf : ev_M := (⟨"LicenceRules$Rules", "termsOf", "(LLicenceRules$Form;II)I"⟩, prog_6_method_8_code, 6, (some .int), none)
def M_ru_bestOf : ev_M := (⟨"LicenceRules$Rules", "bestOf", "(LLicenceRules$Form;I)I"⟩, prog_6_method_9_code, 8, (some .int), none)
def M_ru_scoreOf : ev_M := (⟨"LicenceRules$Rules", "scoreOf", "(JI)I"⟩, prog_6_method_10_code, 5, (some .int), none)
def M_lr_init : ev_M := (⟨"LicenceRules", "<init>", "()V"⟩, prog_1_method_1_code, 1, none, none)
def M_lr_licence : ev_M := (⟨"LicenceRules", "licence", "(J)I"⟩, prog_1_method_2_code, 3, (some .int), none)
def M_lr_rule : ev_M := (⟨"LicenceRules", "rule", "(IIII)Z"⟩, prog_1_method_3_code, 6, (some .boolean), none)
def M_lr_lifts : ev_M := (⟨"LicenceRules", "lifts", "(IIZ)Z"⟩, prog_1_method_4_code, 4, (some .boolean), none)
def M_lr_type : ev_M := (⟨"LicenceRules", "type", "(C)Z"⟩, prog_1_method_5_code, 2, (some .boolean), none)
def M_lr_pack : ev_M := (⟨"LicenceRules", "pack", "()I"⟩, prog_1_method_6_code, 1, (some .int), none)
def M_lr_express : ev_M := (⟨"LicenceRules", "express", "(I)I"⟩, prog_1_method_7_code, 4, (some .int), none)
def M_lr_choices : ev_M := (⟨"LicenceRules", "choices", "(I)I"⟩, prog_1_method_8_code, 3, (some .int), none)
def M_lr_pair : ev_M := (⟨"LicenceRules", "pair", "(III)I"⟩, prog_1_method_9_code, 5, (some .int), none)
def M_lr_best : ev_M := (⟨"LicenceRules", "best", "(II)I"⟩, prog_1_method_10_code, 4, (some .int), none)
def M_lr_duties : ev_M := (⟨"LicenceRules", "duties", "(II)I"⟩, prog_1_method_11_code, 5, (some .int), none)
def M_lr_uses : ev_M := (⟨"LicenceRules", "uses", "(III)Z"⟩, prog_1_method_12_code, 5, (some .boolean), none)
def M_lr_grant : ev_M := (⟨"LicenceRules", "grant", "(II)Z"⟩, prog_1_method_13_code, 4, (some .boolean), none)
def M_lr_tick : ev_M := (⟨"LicenceRules", "tick", "(I)I"⟩, prog_1_method_14_code, 2, (some .int), none)
def M_lr_review : ev_M := (⟨"LicenceRules", "review", "(II)I"⟩, prog_1_method_15_code, 3, (some .int), none)
def M_lr_entry : ev_M := (⟨"LicenceRules", "entry", "(II)I"⟩, prog_1_method_16_code, 3, (some .int), none)
def M_lr_all : ev_M := (⟨"LicenceRules", "all", "()I"⟩, prog_1_method_17_code, 1, (some .int), none)
def M_lr_material : ev_M := (⟨"LicenceRules", "material", "(I)I"⟩, prog_1_method_18_code, 2, (some .int), none)
def M_lr_found : ev_M := (⟨"LicenceRules", "found", "(JI)I"⟩, prog_1_method_19_code, 9, (some .int), none)
def M_lr_score : ev_M := (⟨"LicenceRules", "score", "(JI)I"⟩, prog_1_method_20_code, 4, (some .int), none)
def M_lr_isWay : ev_M := (⟨"LicenceRules", "isWay", "(I)Z"⟩, prog_1_method_21_code, 1, (some .boolean), none)
def M_lr_packAt : ev_M := (⟨"LicenceRules", "packAt", "(I)LLicenceRules$Pack;"⟩, prog_1_method_22_code, 2, (some (.object "LicenceRules$Pack")), none)
def M_mo_init : ev_M := (⟨"LicenceRulesModel", "<init>", "()V"⟩, prog_8_method_1_code, 2, none, none)
def M_mo_isLicence : ev_M := (⟨"LicenceRulesModel", "isLicence", "(I)Z"⟩, prog_8_method_3_code, 2, (some .boolean), none)
def M_mo_isPack : ev_M := (⟨"LicenceRulesModel", "isPack", "(I)Z"⟩, prog_8_method_4_code, 2, (some .boolean), none)
def M_mo_isWay : ev_M := (⟨"LicenceRulesModel", "isWay", "(I)Z"⟩, prog_8_method_5_code, 1, (some .boolean), none)
def M_mo_licence : ev_M := (⟨"LicenceRulesModel", "licence", "(J)I"⟩, prog_8_method_6_code, 3, (some .int), none)
def M_mo_rule : ev_M := (⟨"LicenceRulesModel", "rule", "(IIII)Z"⟩, prog_8_method_7_code, 5, (some .boolean), none)
def M_mo_lifts : ev_M := (⟨"LicenceRulesModel", "lifts", "(IIZ)Z"⟩, prog_8_method_8_code, 4, (some .boolean), none)
def M_mo_type : ev_M := (⟨"LicenceRulesModel", "type", "(C)Z"⟩, prog_8_method_9_code, 2, (some .boolean), none)
def M_mo_pack : ev_M := (⟨"LicenceRulesModel", "pack", "()I"⟩, prog_8_method_10_code, 1, (some .int), none)
def M_mo_pairOf : ev_M := (⟨"LicenceRulesModel", "pairOf", "(I)I"⟩, prog_8_method_11_code, 3, (some .int), none)
def M_mo_join : ev_M := (⟨"LicenceRulesModel", "join", "(I)V"⟩, prog_8_method_12_code, 8, none, none)
def M_mo_workOff : ev_M := (⟨"LicenceRulesModel", "workOff", "(Z)V"⟩, prog_8_method_13_code, 2, none, none)
def M_mo_next : ev_M := (⟨"LicenceRulesModel", "next", "()I"⟩, prog_8_method_14_code, 1, (some .int), none)
def M_mo_operand : ev_M := (⟨"LicenceRulesModel", "operand", "()Z"⟩, prog_8_method_15_code, 4, (some .boolean), none)
def M_mo_read : ev_M := (⟨"LicenceRulesModel", "read", "()I"⟩, prog_8_method_16_code, 2, (some .int), none)
def M_mo_express : ev_M := (⟨"LicenceRulesModel", "express", "(I)I"⟩, prog_8_method_17_code, 4, (some .int), none)
def M_mo_choices : ev_M := (⟨"LicenceRulesModel", "choices", "(I)I"⟩, prog_8_method_18_code, 2, (some .int), none)
def M_mo_count : ev_M := (⟨"LicenceRulesModel", "count", "(I)I"⟩, prog_8_method_19_code, 3, (some .int), none)
def M_mo_pair : ev_M := (⟨"LicenceRulesModel", "pair", "(III)I"⟩, prog_8_method_20_code, 8, (some .int), none)
def M_mo_isLifted : ev_M := (⟨"LicenceRulesModel", "isLifted", "(II)Z"⟩, prog_8_method_21_code, 3, (some .boolean), none)
def M_mo_dutiesOf : ev_M := (⟨"LicenceRulesModel", "dutiesOf", "(III)I"⟩, prog_8_method_22_code, 7, (some .int), none)
def M_mo_bestOf : ev_M := (⟨"LicenceRulesModel", "bestOf", "(II)I"⟩, prog_8_method_23_code, 8, (some .int), none)
def M_mo_best : ev_M := (⟨"LicenceRulesModel", "best", "(II)I"⟩, prog_8_method_24_code, 3, (some .int), none)
def M_mo_bestDuties : ev_M := (⟨"LicenceRulesModel", "bestDuties", "(II)I"⟩, prog_8_method_25_code, 3, (some .int), none)
def M_mo_duties : ev_M := (⟨"LicenceRulesModel", "duties", "(II)I"⟩, prog_8_method_26_code, 3, (some .int), none)
def M_mo_uses : ev_M := (⟨"LicenceRulesModel", "uses", "(III)Z"⟩, prog_8_method_27_code, 5, (some .boolean), none)
def M_mo_grant : ev_M := (⟨"LicenceRulesModel", "grant", "(II)Z"⟩, prog_8_method_28_code, 3, (some .boolean), none)
def M_mo_tick : ev_M := (⟨"LicenceRulesModel", "tick", "(I)I"⟩, prog_8_method_29_code, 2, (some .int), none)
def M_mo_come : ev_M := (⟨"LicenceRulesModel", "come", "(III)V"⟩, prog_8_method_30_code, 5, none, none)
def M_mo_review : ev_M := (⟨"LicenceRulesModel", "review", "(II)I"⟩, prog_8_method_31_code, 7, (some .int), none)
def M_mo_entry : ev_M := (⟨"LicenceRulesModel", "entry", "(II)I"⟩, prog_8_method_32_code, 3, (some .int), none)
def M_mo_all : ev_M := (⟨"LicenceRulesModel", "all", "()I"⟩, prog_8_method_33_code, 3, (some .int), none)
def M_mo_material : ev_M := (⟨"LicenceRulesModel", "material", "(I)I"⟩, prog_8_method_34_code, 6, (some .int), none)
def M_mo_scoreOf : ev_M := (⟨"LicenceRulesModel", "scoreOf", "(JI)I"⟩, prog_8_method_35_code, 7, (some .int), none)
def M_mo_score : ev_M := (⟨"LicenceRulesModel", "score", "(JI)I"⟩, prog_8_method_36_code, 4, (some .int), none)
def M_mo_found : ev_M := (⟨"LicenceRulesModel", "found", "(JI)I"⟩, prog_8_method_37_code, 7, (some .int), none)
def M_jin_bitCount : ev_M := (⟨"java/lang/Integer", "bitCount", "(I)I"⟩, prog_9_method_49_code, 1, (some .int), none)
def M_jlo_bitCount : ev_M := (⟨"java/lang/Long", "bitCount", "(J)I"⟩, prog_10_method_50_code, 2, (some .int), none)
def M_jma_max : ev_M := (⟨"java/lang/Math", "max", "(II)I"⟩, prog_11_method_65_code, 2, (some .int), none)
def M_jma_min : ev_M := (⟨"java/lang/Math", "min", "(II)I"⟩, prog_11_method_69_code, 2, (some .int), none)
def M_law (X : ev_X) : ev_M := (x, code, maxLocals, ret, X)
end
section
/-! the judgement: a heap is a function from addresses to cells; Ev: from this place the method comes to an end with Q; Rn: a method's contract -/
abbrev ev_H : Type := Nat → Option va_E
abbrev ev_G : Type := va_G × (Nat → ClassId)
abbrev ev_cc (M : ev_M) : ByteArray := M.2.1
abbrev ev_nL (M : ev_M) : Nat := M.2.2.1
abbrev ev_rt (M : ev_M) : Option FieldType := M.2.2.2.1
def ev_isN : Cond → Bool
  | .fieldLinkNest .. => true
  | .methodLinkNest .. => true
  | _ => false
def ev_WS : List Cond := lw_tbl.filter goodWord
def ev_NW : List Cond := lw_tbl.filter ev_isN
def ev_nw (U : State) : Prop := (∀ w ∈ ev_NW, va_Nw w U) ∧ ∀ C ∈ ev_AO, va_AO C U
theorem ev_nw_warm {s U : State} (hW : s.WarmedH U.vm) (h : ev_nw s) : ev_nw U := by
  refine ⟨fun w hw => ?_, fun C hC => va_AO.moved hW.alike (h.2 C hC)⟩
  have hm := (List.mem_filter.mp hw).2
  have hz := h.1 w hw
  cases w <;> first | exact va_Nw.warmF hW hz | exact va_Nw.warmM hW hz | (simp [ev_isN] at hm)
theorem ev_nw_same {s U : State} (hv : s.vm = U.vm) (h : ev_nw s) : ev_nw U := by
  refine ⟨fun w hw => ?_, fun C hC => ?_⟩
  · have hm := (List.mem_filter.mp hw).2
    have hz := h.1 w hw
    cases w <;> first | exact va_Nw.same rfl hv hz | (simp [ev_isN] at hm)
  · exact va_AO.moved (by rw [hv]; exact Vm.Alike.refl _) (h.2 C hC)
/-- the world -/
def xw (G : ev_G) (A : Nat → Prop) (h : ev_H) (H : Heap) : Prop :=
  ∃ (L : List Nat) (f : Nat → va_E), (∀ (a : Nat) (e : va_E), h a = some e ↔ (a ∈ L ∧ f a = e)) ∧ va_P G.1 ev_CL ([] ++ va_pl L f) H ∧ va_D A ([] ++ va_pl L f)
theorem xw_ws {G : ev_G} {A : Nat → Prop} {h : ev_H} {H : Heap} (hw : xw G A h H) : ∃ ws : va_W, va_P G.1 ev_CL ws H ∧ va_D A ws ∧ (∀ (a : Nat) (e : va_E), h a = some e → ∃ k : Nat, ws[k]? = some (a, e)) ∧
    (∀ (a : Nat) (e : va_E) (k : Nat) (e' : va_E) (H1 : Heap), ws[k]? = some (a, e) → va_P G.1 ev_CL (ws.set k (a, e')) H1 → va_D A (ws.set k (a, e')) → xw G A (va_up h a (some e')) H1) ∧
    (∀ (q : Nat) (e' : va_E) (H1 : Heap), va_P G.1 ev_CL (ws ++ [(q, e')]) H1 → va_D A (ws ++ [(q, e')]) → h q = none ∧ xw G A (va_up h q (some e')) H1) := by
  obtain ⟨L, f, hL, hP, hD⟩ := hw
  refine ⟨[] ++ va_pl L f, hP, hD, fun a e ha => ?_, fun a e k e' H1 hk hP1 hD1 => ?_, fun q e' H1 hP1 hD1 => ?_⟩
  · obtain ⟨h1, h2⟩ := (hL a e).1 ha
    subst h2
    exact va_pl_get (X := []) h1
  · have hm : (a, e) ∈ va_pl L f := List.mem_of_getElem? (by simpa using hk)
    obtain ⟨a', ha', hae⟩ := List.mem_map.mp hm
    have e1 : a' = a := congrArg Prod.fst hae
    have e2 : f a' = e := congrArg Prod.snd hae
    subst e1
    subst e2
    rw [va_pl_set hD ha' hk] at hP1 hD1
    refine ⟨L, va_up f a' e', fun b x => ?_, hP1, hD1⟩
    by_cases hb : b = a'
    · subst hb
      rw [va_up_self, va_up_self]
      constructor
      · intro q
        exact ⟨ha', Option.some.inj q⟩
      · intro q
        rw [q.2]
    · rw [va_up_ne _ _ hb, va_up_ne _ _ hb]
      exact hL b x
  · have hq : q ∉ L := va_pl_fresh2 hD1
    have hn : h q = none := by
      cases hh : h q with
      | none => rfl
      | some x => exact absurd ((hL q x).1 hh).1 hq
    refine ⟨hn, L ++ [q], va_up f q e', fun b x => ?_, ?_, ?_⟩
    · by_cases hb : b = q
      · subst hb
        rw [va_up_self, va_up_self]
        constructor
        · intro z
          exact ⟨by simp, Option.some.inj z⟩
        · intro z
          rw [z.2]
      · rw [va_up_ne _ _ hb, va_up_ne _ _ hb, hL b x]
        simp [hb]
    · rw [← va_pl_push hq]
      exact hP1
    · rw [← va_pl_push hq]
      exact hD1
theorem xw_in {G : ev_G} {A : Nat → Prop} {h : ev_H} {H : Heap} (hw : xw G A h H) {a : Nat} {e : va_E} (ha : h a = some e) : A a ∧ va_at G.1 ev_CL (a, e) H := by
  obtain ⟨ws, hP, hD, hg, -⟩ := xw_ws hw
  obtain ⟨k, hk⟩ := hg a e ha
  exact ⟨hD.2 k _ hk, hP k _ hk⟩
theorem xw_weak {G : ev_G} {A B : Nat → Prop} {h : ev_H} {H : Heap} (hw : xw G A h H) (hAB : ∀ (a : Nat) (e : va_E), h a = some e → A a → B a) : xw G B h H := by
  obtain ⟨L, f, hL, hP, hD⟩ := hw
  refine ⟨L, f, hL, hP, hD.weaken (fun k q hk hA => ?_)⟩
  have hm : q ∈ va_pl L f := List.mem_of_getElem? (by simpa using hk)
  obtain ⟨a', ha', hae⟩ := List.mem_map.mp hm
  subst hae
  exact hAB a' (f a') ((hL a' (f a')).2 ⟨ha', rfl⟩) hA
/-- what a method may change -/
def ev_fr (h : ev_H) (sz : Nat) : Nat → Prop := fun q => (∃ e, h q = some e) ∨ sz ≤ q
/-- the locals, by their places -/
def ev_ls (lsA : Array Slot) (nL : Nat) (ls : List (Option Value)) : Prop := lsA.size = nL ∧ lv_wf lsA ∧ ls.length ≤ nL ∧ ∀ (i : Nat) (v : Value), ls[i]? = some (some v) → lsA[i]? = some (.val v)
def ev_nl : Option Value → Bool
  | some (.long _) => false
  | some (.double _) => false
  | _ => true
def ev_pr (ls : List (Option Value)) : List (Nat × Value) := ls.zipIdx.filterMap (fun q => q.1.map (fun v => (q.2, v)))
theorem ev_pr_mem {ls : List (Option Value)} {i : Nat} {v : Value} : (i, v) ∈ ev_pr ls ↔ ls[i]? = some (some v) := by
  unfold ev_pr
  rw [List.mem_filterMap]
  constructor
  · rintro ⟨⟨o, j⟩, h1, h2⟩
    rw [List.mk_mem_zipIdx_iff_getElem?] at h1
    cases o with
    | none => simp at h2
    | some w =>
      simp at h2
      obtain ⟨rfl, rfl⟩ := h2
      exact h1
  · intro h
    exact ⟨(some v, i), by rw [List.mk_mem_zipIdx_iff_getElem?]; exact h, by simp⟩
theorem ev_ls_has {lsA : Array Slot} {nL : Nat} {ls : List (Option Value)} (h : ev_ls lsA nL ls) : lv_has lsA nL (ev_pr ls) :=
  ⟨h.1, h.2.1, fun q hq => h.2.2.2 q.1 q.2 (ev_pr_mem.mp (by obtain ⟨i, v⟩ := q; exact hq))⟩
theorem ev_nl_cat {v : Value} (h : ev_nl (some v) = true) : v.category = 1 := by
  cases v <;> simp [ev_nl, Value.category] at h ⊢
theorem ev_ls_st1 {lsA : Array Slot} {nL i : Nat} {v : Value} {ls : List (Option Value)} {L : Nat} (hL : ls.length ≤ nL) (hp : ∀ (j : Nat) (w : Value), j + 1 = i → ls[j]? = some (some w) → w.category = 1)
    (h : lv_has lsA nL ((i, v) :: (ev_pr ls).filter (fun q => !(q.1 == i) && !(q.1 + 1 == i && q.2.category == 2)))) : ev_ls lsA nL (ls.set i (some v)) := by
  refine ⟨h.1, h.2.1, by simpa using hL, fun j w hj => ?_⟩
  by_cases e : j = i
  · subst e
    have : w = v := by
      rw [List.getElem?_set] at hj
      simp at hj
      exact hj.2.symm
    subst this
    exact h.2.2 (j, w) List.mem_cons_self
  · rw [List.getElem?_set_ne (Ne.symm e)] at hj
    refine h.2.2 (j, w) (List.mem_cons_of_mem _ (List.mem_filter.mpr ⟨ev_pr_mem.mpr hj, ?_⟩))
    by_cases e2 : j + 1 = i
    · have := hp j w e2 hj
      simp [e, this]
    · simp [e, e2]
theorem ev_ls_st2 {lsA : Array Slot} {nL i : Nat} {v : Value} {ls : List (Option Value)} (hL : ls.length ≤ nL) (hp : ∀ (j : Nat) (w : Value), j + 1 = i → ls[j]? = some (some w) → w.category = 1)
    (h : lv_has lsA nL ((i, v) :: (ev_pr ls).filter (fun q => !(q.1 == i) && (!(q.1 == i + 1) && !(q.1 + 1 == i && q.2.category == 2))))) : ev_ls lsA nL ((ls.set i (some v)).set (i + 1) none) := by
  refine ⟨h.1, h.2.1, by simpa using hL, fun j w hj => ?_⟩
  by_cases e1 : j = i + 1
  · subst e1
    rw [List.getElem?_set] at hj
    simp at hj
  · rw [List.getElem?_set_ne (Ne.symm e1)] at hj
    by_cases e : j = i
    · subst e
      have : w = v := by
        rw [List.getElem?_set] at hj
        simp at hj
        exact hj.2.symm
      subst this
      exact h.2.2 (j, w) List.mem_cons_self
    · rw [List.getElem?_set_ne (Ne.symm e)] at hj
      refine h.2.2 (j, w) (List.mem_cons_of_mem _ (List.mem_filter.mpr ⟨ev_pr_mem.mpr hj, ?_⟩))
      by_cases e2 : j + 1 = i
      · have := hp j w e2 hj
        simp [e, e1, this]
      · simp [e, e1, e2]
theorem ev_hp {ls : List (Option Value)} {i : Nat} {a : Option Value} (hi : ls[i]? = some a) (hp : ev_nl a = true) : ∀ (j : Nat) (w : Value), j + 1 = i + 1 → ls[j]? = some (some w) → w.category = 1 := by
  intro j w hj hw
  obtain rfl : j = i := by omega
  rw [hi] at hw
  cases hw
  exact ev_nl_cat hp
/-- what is the same all through a method -/
def ev_cx (G : ev_G) (M : ev_M) (d : Nat) (p : Program) (R : Room) (s : State) (m : MethodId) (args : Array Value) (meth : Method) (c : Code) (A : Nat → Prop) : Prop :=
  p.tables.exec = Jvm.exec ∧ c.code = M.2.1 ∧ c.maxLocals = M.2.2.1 ∧ s.vm.findClass M.1.cls = some m.cls ∧ (∀ w ∈ ev_WS, w.before args s = true) ∧ va_K G.1 ev_CL (ev_TY G.2) s ∧ (∀ q : Nat, s.heap.size ≤ q → A q) ∧ meth.name = M.1.name ∧
  (d ≤ R.frames ∧ 44 * d ≤ R.locals) ∧ ev_nw s ∧ (∀ (b L : Nat) (xs : Nat → Int32), M.2.2.2.2 = some (b, L, xs) → va_X b L xs s s.heap ∧ b < s.heap.size ∧ ¬ A b)
/-- a place of return -/
def ev_ri (M : ev_M) (pc : Nat) (v : Option Value) : Prop :=
  (∃ (x : Int32) (ty : FieldType), v = some (.int x) ∧ M.2.2.2.1 = some ty ∧ narrow ty (.int x) = .int x ∧ decode M.2.1 pc = .ok (.ireturn, 1)) ∨
  (v = none ∧ M.2.2.2.1 = none ∧ decode M.2.1 pc = .ok (.return_, 1)) ∨
  (∃ (x : Int64), v = some (.long x) ∧ M.2.2.2.1 = some .long ∧ decode M.2.1 pc = .ok (.lreturn, 1)) ∨
  (∃ (w : Value) (C : String), v = some w ∧ (w = .null ∨ ∃ a, w = .ref a) ∧ M.2.2.2.1 = some (.object C) ∧ decode M.2.1 pc = .ok (.areturn, 1))
def ev_rk (G : ev_G) (M : ev_M) (Q : Option Value → ev_H → Prop) (p : Program) (l : Launch) (e : Env) (R : Room) (s : State) (m : MethodId) (args : Array Value) (below : List Frame) (meth : Method) (c : Code) (A : Nat → Prop) (Qf : State → Prop) : Prop :=
  ∀ (v : Option Value) (h : ev_H) (H : Heap) (locs : List Loc) (cells slots pc : Nat) (lsA : Array Slot), ev_ri M pc v → Q v h → xw G A h H → va_S A s.heap H locs → cells ≤ R.cells → slots ≤ R.slots →
    W p l e R s m args below meth c H locs cells slots Qf (F0 m pc lsA v.toList)
def Ev (G : ev_G) (M : ev_M) (d kc ks : Nat) (Q : Option Value → ev_H → Prop) (pc : Nat) (ls : List (Option Value)) (st : List Value) (h : ev_H) : Prop :=
  ∀ (p : Program) (l : Launch) (e : Env) (R : Room) (s : State) (m : MethodId) (args : Array Value) (below : List Frame) (meth : Method) (c : Code) (A : Nat → Prop) (H : Heap) (locs : List Loc) (cells slots : Nat) (lsA : Array Slot) (Qf : State → Prop),
    ev_cx G M d p R s m args meth c A → cells + kc ≤ R.cells → slots + ks ≤ R.slots → xw G A h H → va_S A s.heap H locs → ev_ls lsA M.2.2.1 ls → ev_rk G M Q p l e R s m args below meth c A Qf →
    W p l e R s m args below meth c H locs cells slots Qf (F0 m pc lsA st)
/-- an instruction stands at a place, the next one behind it -/
def fe (M : ev_M) (pc : Nat) (i : Instr) (n pc' : Nat) : Prop := decode M.2.1 pc = .ok (i, n) ∧ pc + n = pc'
section EVR
variable {G : ev_G} {M : ev_M} {d kc ks : Nat} {Q : Option Value → ev_H → Prop} {pc pc' : Nat} {ls : List (Option Value)} {st : List Value} {h : ev_H}
theorem ev_mono {Q' : Option Value → ev_H → Prop} (hQ : ∀ v h, Q v h → Q' v h) (k : Ev G M d kc ks Q pc ls st h) : Ev G M d kc ks Q' pc ls st h := by
  intro p l e R s m args below meth c A H locs cells slots lsA Qf hc h1 h2 hw hS hl hr
  exact k p l e R s m args below meth c A H locs cells slots lsA Qf hc h1 h2 hw hS hl (fun v h H locs cells slots pc lsA a b => hr v h H locs cells slots pc lsA a (hQ v h b))
/-- fewer locals are known -/
theorem ev_sub {ls' : List (Option Value)} (hL : ls'.length = ls.length) (hs : ∀ (i : Nat) (v : Value), ls'[i]? = some (some v) → ls[i]? = some (some v)) (k : Ev G M d kc ks Q pc ls' st h) : Ev G M d kc ks Q pc ls st h := by
  intro p l e R s m args below meth c A H locs cells slots lsA Qf hc h1 h2 hw hS hl hr
  exact k p l e R s m args below meth c A H locs cells slots lsA Qf hc h1 h2 hw hS ⟨hl.1, hl.2.1, by rw [hL]; exact hl.2.2.1, fun i v hi => hl.2.2.2 i v (hs i v hi)⟩ hr
/-- an int on the top gets another name -/
theorem ev_top {x y : Int32} (e : x = y) (k : Ev G M d kc ks Q pc ls (.int y :: st) h) : Ev G M d kc ks Q pc ls (.int x :: st) h := e ▸ k
theorem ev_topl {x y : Int64} (e : x = y) (k : Ev G M d kc ks Q pc ls (.long y :: st) h) : Ev G M d kc ks Q pc ls (.long x :: st) h := e ▸ k
theorem ev_iadd {x y : Int32} (hd : fe M pc .iadd 1 pc')  (k : Ev G M d kc ks Q pc' ls (.int (x + y) :: st) h) : Ev G M d kc ks Q pc ls (.int y :: .int x :: st) h := by
  obtain ⟨hd, rfl⟩ := hd
  intro p l e R s m args below meth c A H locs cells slots lsA Qf hc h1 h2 hw hS hl hr
  exact lv_iadd hc.1 hc.2.1 hd (k p l e R s m args below meth c A H locs cells slots lsA Qf hc h1 h2 hw hS hl hr)
theorem ev_isub {x y : Int32} (hd : fe M pc .isub 1 pc')  (k : Ev G M d kc ks Q pc' ls (.int (x - y) :: st) h) : Ev G M d kc ks Q pc ls (.int y :: .int x :: st) h := by
  obtain ⟨hd, rfl⟩ := hd
  intro p l e R s m args below meth c A H locs cells slots lsA Qf hc h1 h2 hw hS hl hr
  exact lv_isub hc.1 hc.2.1 hd (k p l e R s m args below meth c A H locs cells slots lsA Qf hc h1 h2 hw hS hl hr)
theorem ev_imul {x y : Int32} (hd : fe M pc .imul 1 pc')  (k : Ev G M d kc ks Q pc' ls (.int (x * y) :: st) h) : Ev G M d kc ks Q pc ls (.int y :: .int x :: st) h := by
  obtain ⟨hd, rfl⟩ := hd
  intro p l e R s m args below meth c A H locs cells slots lsA Qf hc h1 h2 hw hS hl hr
  exact lv_imul hc.1 hc.2.1 hd (k p l e R s m args below meth c A H locs cells slots lsA Qf hc h1 h2 hw hS hl hr)
theorem ev_iand {x y : Int32} (hd : fe M pc .iand 1 pc')  (k : Ev G M d kc ks Q pc' ls (.int (x &&& y) :: st) h) : Ev G M d kc ks Q pc ls (.int y :: .int x :: st) h := by
  obtain ⟨hd, rfl⟩ := hd
  intro p l e R s m args below meth c A H locs cells slots lsA Qf hc h1 h2 hw hS hl hr
  exact lv_iand hc.1 hc.2.1 hd (k p l e R s m args below meth c A H locs cells slots lsA Qf hc h1 h2 hw hS hl hr)
theorem ev_ior {x y : Int32} (hd : fe M pc .ior 1 pc')  (k : Ev G M d kc ks Q pc' ls (.int (x ||| y) :: st) h) : Ev G M d kc ks Q pc ls (.int y :: .int x :: st) h := by
  obtain ⟨hd, rfl⟩ := hd
  intro p l e R s m args below meth c A H locs cells slots lsA Qf hc h1 h2 hw hS hl hr
  exact lv_ior hc.1 hc.2.1 hd (k p l e R s m args below meth c A H locs cells slots lsA Qf hc h1 h2 hw hS hl hr)
theorem ev_ixor {x y : Int32} (hd : fe M pc .ixor 1 pc')  (k : Ev G M d kc ks Q pc' ls (.int (x ^^^ y) :: st) h) : Ev G M d kc ks Q pc ls (.int y :: .int x :: st) h := by
  obtain ⟨hd, rfl⟩ := hd
  intro p l e R s m args below meth c A H locs cells slots lsA Qf hc h1 h2 hw hS hl hr
  exact lv_ixor hc.1 hc.2.1 hd (k p l e R s m args below meth c A H locs cells slots lsA Qf hc h1 h2 hw hS hl hr)
theorem ev_ishl {x y : Int32} (hd : fe M pc .ishl 1 pc')  (k : Ev G M d kc ks Q pc' ls (.int (x <<< (y &&& 31)) :: st) h) : Ev G M d kc ks Q pc ls (.int y :: .int x :: st) h := by
  obtain ⟨hd, rfl⟩ := hd
  intro p l e R s m args below meth c A H locs cells slots lsA Qf hc h1 h2 hw hS hl hr
  exact lv_ishl hc.1 hc.2.1 hd (k p l e R s m args below meth c A H locs cells slots lsA Qf hc h1 h2 hw hS hl hr)
theorem ev_ishr {x y : Int32} (hd : fe M pc .ishr 1 pc')  (k : Ev G M d kc ks Q pc' ls (.int (x >>> (y &&& 31)) :: st) h) : Ev G M d kc ks Q pc ls (.int y :: .int x :: st) h := by
  obtain ⟨hd, rfl⟩ := hd
  intro p l e R s m args below meth c A H locs cells slots lsA Qf hc h1 h2 hw hS hl hr
  exact lv_ishr hc.1 hc.2.1 hd (k p l e R s m args below meth c A H locs cells slots lsA Qf hc h1 h2 hw hS hl hr)
theorem ev_idiv {x y : Int32} (hd : fe M pc .idiv 1 pc') (hne : ¬ y = 0) (k : Ev G M d kc ks Q pc' ls (.int (x / y) :: st) h) : Ev G M d kc ks Q pc ls (.int y :: .int x :: st) h := by
  obtain ⟨hd, rfl⟩ := hd
  intro p l e R s m args below meth c A H locs cells slots lsA Qf hc h1 h2 hw hS hl hr
  exact lv_idiv hc.1 hc.2.1 hd hne (k p l e R s m args below meth c A H locs cells slots lsA Qf hc h1 h2 hw hS hl hr)
theorem ev_irem {x y : Int32} (hd : fe M pc .irem 1 pc') (hne : ¬ y = 0) (k : Ev G M d kc ks Q pc' ls (.int (x - x / y * y) :: st) h) : Ev G M d kc ks Q pc ls (.int y :: .int x :: st) h := by
  obtain ⟨hd, rfl⟩ := hd
  intro p l e R s m args below meth c A H locs cells slots lsA Qf hc h1 h2 hw hS hl hr
  exact lv_irem hc.1 hc.2.1 hd hne (k p l e R s m args below meth c A H locs cells slots lsA Qf hc h1 h2 hw hS hl hr)
theorem ev_ladd {x y : Int64} (hd : fe M pc .ladd 1 pc')  (k : Ev G M d kc ks Q pc' ls (.long (x + y) :: st) h) : Ev G M d kc ks Q pc ls (.long y :: .long x :: st) h := by
  obtain ⟨hd, rfl⟩ := hd
  intro p l e R s m args below meth c A H locs cells slots lsA Qf hc h1 h2 hw hS hl hr
  exact lv_ladd hc.1 hc.2.1 hd (k p l e R s m args below meth c A H locs cells slots lsA Qf hc h1 h2 hw hS hl hr)
theorem ev_lsub {x y : Int64} (hd : fe M pc .lsub 1 pc')  (k : Ev G M d kc ks Q pc' ls (.long (x - y) :: st) h) : Ev G M d kc ks Q pc ls (.long y :: .long x :: st) h := by
  obtain ⟨hd, rfl⟩ := hd
  intro p l e R s m args below meth c A H locs cells slots lsA Qf hc h1 h2 hw hS hl hr
  exact lv_lsub hc.1 hc.2.1 hd (k p l e R s m args below meth c A H locs cells slots lsA Qf hc h1 h2 hw hS hl hr)
theorem ev_lmul {x y : Int64} (hd : fe M pc .lmul 1 pc')  (k : Ev G M d kc ks Q pc' ls (.long (x * y) :: st) h) : Ev G M d kc ks Q pc ls (.long y :: .long x :: st) h := by
  obtain ⟨hd, rfl⟩ := hd
  intro p l e R s m args below meth c A H locs cells slots lsA Qf hc h1 h2 hw hS hl hr
  exact lv_lmul hc.1 hc.2.1 hd (k p l e R s m args below meth c A H locs cells slots lsA Qf hc h1 h2 hw hS hl hr)
theorem ev_land {x y : Int64} (hd : fe M pc .land 1 pc')  (k : Ev G M d kc ks Q pc' ls (.long (x &&& y) :: st) h) : Ev G M d kc ks Q pc ls (.long y :: .long x :: st) h := by
  obtain ⟨hd, rfl⟩ := hd
  intro p l e R s m args below meth c A H locs cells slots lsA Qf hc h1 h2 hw hS hl hr
  exact lv_land hc.1 hc.2.1 hd (k p l e R s m args below meth c A H locs cells slots lsA Qf hc h1 h2 hw hS hl hr)
theorem ev_lor {x y : Int64} (hd : fe M pc .lor 1 pc')  (k : Ev G M d kc ks Q pc' ls (.long (x ||| y) :: st) h) : Ev G M d kc ks Q pc ls (.long y :: .long x :: st) h := by
  obtain ⟨hd, rfl⟩ := hd
  intro p l e R s m args below meth c A H locs cells slots lsA Qf hc h1 h2 hw hS hl hr
  exact lv_lor hc.1 hc.2.1 hd (k p l e R s m args below meth c A H locs cells slots lsA Qf hc h1 h2 hw hS hl hr)
theorem ev_lxor {x y : Int64} (hd : fe M pc .lxor 1 pc')  (k : Ev G M d kc ks Q pc' ls (.long (x ^^^ y) :: st) h) : Ev G M d kc ks Q pc ls (.long y :: .long x :: st) h := by
  obtain ⟨hd, rfl⟩ := hd
  intro p l e R s m args below meth c A H locs cells slots lsA Qf hc h1 h2 hw hS hl hr
  exact lv_lxor hc.1 hc.2.1 hd (k p l e R s m args below meth c A H locs cells slots lsA Qf hc h1 h2 hw hS hl hr)
theorem ev_ineg {x : Int32} (hd : fe M pc .ineg 1 pc')  (k : Ev G M d kc ks Q pc' ls (.int (-x) :: st) h) : Ev G M d kc ks Q pc ls (.int x :: st) h := by
  obtain ⟨hd, rfl⟩ := hd
  intro p l e R s m args below meth c A H locs cells slots lsA Qf hc h1 h2 hw hS hl hr
  exact lv_ineg hc.1 hc.2.1 hd (k p l e R s m args below meth c A H locs cells slots lsA Qf hc h1 h2 hw hS hl hr)
theorem ev_iushr {x y : Int32} (hd : fe M pc .iushr 1 pc')  (k : Ev G M d kc ks Q pc' ls (.int ((x.toUInt32 >>> (y.toUInt32 &&& Int32.toUInt32 31)).toInt32) :: st) h) : Ev G M d kc ks Q pc ls (.int y :: .int x :: st) h := by
  obtain ⟨hd, rfl⟩ := hd
  intro p l e R s m args below meth c A H locs cells slots lsA Qf hc h1 h2 hw hS hl hr
  exact lv_iushr hc.1 hc.2.1 hd rfl (k p l e R s m args below meth c A H locs cells slots lsA Qf hc h1 h2 hw hS hl hr)
theorem ev_lushr {x : Int64} {y : Int32} (hd : fe M pc .lushr 1 pc')  (k : Ev G M d kc ks Q pc' ls (.long ((x.toUInt64 >>> (y.toInt64.toUInt64 &&& Int64.toUInt64 63)).toInt64) :: st) h) : Ev G M d kc ks Q pc ls (.int y :: .long x :: st) h := by
  obtain ⟨hd, rfl⟩ := hd
  intro p l e R s m args below meth c A H locs cells slots lsA Qf hc h1 h2 hw hS hl hr
  exact lv_lushr hc.1 hc.2.1 hd rfl (k p l e R s m args below meth c A H locs cells slots lsA Qf hc h1 h2 hw hS hl hr)
theorem ev_lshl {x : Int64} {y : Int32} (hd : fe M pc .lshl 1 pc')  (k : Ev G M d kc ks Q pc' ls (.long (x <<< (y.toInt64 &&& 63)) :: st) h) : Ev G M d kc ks Q pc ls (.int y :: .long x :: st) h := by
  obtain ⟨hd, rfl⟩ := hd
  intro p l e R s m args below meth c A H locs cells slots lsA Qf hc h1 h2 hw hS hl hr
  exact lv_lshl hc.1 hc.2.1 hd rfl (k p l e R s m args below meth c A H locs cells slots lsA Qf hc h1 h2 hw hS hl hr)
theorem ev_lshr {x : Int64} {y : Int32} (hd : fe M pc .lshr 1 pc')  (k : Ev G M d kc ks Q pc' ls (.long (x >>> (y.toInt64 &&& 63)) :: st) h) : Ev G M d kc ks Q pc ls (.int y :: .long x :: st) h := by
  obtain ⟨hd, rfl⟩ := hd
  intro p l e R s m args below meth c A H locs cells slots lsA Qf hc h1 h2 hw hS hl hr
  exact lv_lshr hc.1 hc.2.1 hd rfl (k p l e R s m args below meth c A H locs cells slots lsA Qf hc h1 h2 hw hS hl hr)
theorem ev_i2l {x : Int32} (hd : fe M pc .i2l 1 pc')  (k : Ev G M d kc ks Q pc' ls (.long x.toInt64 :: st) h) : Ev G M d kc ks Q pc ls (.int x :: st) h := by
  obtain ⟨hd, rfl⟩ := hd
  intro p l e R s m args below meth c A H locs cells slots lsA Qf hc h1 h2 hw hS hl hr
  exact lv_i2l hc.1 hc.2.1 hd rfl (k p l e R s m args below meth c A H locs cells slots lsA Qf hc h1 h2 hw hS hl hr)
theorem ev_l2i {x : Int64} (hd : fe M pc .l2i 1 pc')  (k : Ev G M d kc ks Q pc' ls (.int x.toInt32 :: st) h) : Ev G M d kc ks Q pc ls (.long x :: st) h := by
  obtain ⟨hd, rfl⟩ := hd
  intro p l e R s m args below meth c A H locs cells slots lsA Qf hc h1 h2 hw hS hl hr
  exact lv_l2i hc.1 hc.2.1 hd rfl (k p l e R s m args below meth c A H locs cells slots lsA Qf hc h1 h2 hw hS hl hr)
theorem ev_i2c {x : Int32} (hd : fe M pc .i2c 1 pc')  (k : Ev G M d kc ks Q pc' ls (.int ((x.toUInt32 % 65536).toInt32) :: st) h) : Ev G M d kc ks Q pc ls (.int x :: st) h := by
  obtain ⟨hd, rfl⟩ := hd
  intro p l e R s m args below meth c A H locs cells slots lsA Qf hc h1 h2 hw hS hl hr
  exact lv_i2c hc.1 hc.2.1 hd rfl (k p l e R s m args below meth c A H locs cells slots lsA Qf hc h1 h2 hw hS hl hr)
theorem ev_i2b {x : Int32} (hd : fe M pc .i2b 1 pc')  (k : Ev G M d kc ks Q pc' ls (.int (x.toInt8.toInt32) :: st) h) : Ev G M d kc ks Q pc ls (.int x :: st) h := by
  obtain ⟨hd, rfl⟩ := hd
  intro p l e R s m args below meth c A H locs cells slots lsA Qf hc h1 h2 hw hS hl hr
  exact lv_i2b hc.1 hc.2.1 hd rfl (k p l e R s m args below meth c A H locs cells slots lsA Qf hc h1 h2 hw hS hl hr)
theorem ev_lcmp {x y : Int64} (hd : fe M pc .lcmp 1 pc')  (k : Ev G M d kc ks Q pc' ls (.int (lg_cmp x y) :: st) h) : Ev G M d kc ks Q pc ls (.long y :: .long x :: st) h := by
  obtain ⟨hd, rfl⟩ := hd
  intro p l e R s m args below meth c A H locs cells slots lsA Qf hc h1 h2 hw hS hl hr
  exact W.lcmp hc.1 hc.2.1 hd (k p l e R s m args below meth c A H locs cells slots lsA Qf hc h1 h2 hw hS hl hr)
theorem ev_dup {va : Value} (hd : fe M pc .dup 1 pc') (hva : va.category = 1) (k : Ev G M d kc ks Q pc' ls (va :: va :: st) h) : Ev G M d kc ks Q pc ls (va :: st) h := by
  obtain ⟨hd, rfl⟩ := hd
  intro p l e R s m args below meth c A H locs cells slots lsA Qf hc h1 h2 hw hS hl hr
  exact lv_dup hc.1 hc.2.1 hd hva (k p l e R s m args below meth c A H locs cells slots lsA Qf hc h1 h2 hw hS hl hr)
theorem ev_pop {va : Value} (hd : fe M pc .pop 1 pc') (hva : va.category = 1) (k : Ev G M d kc ks Q pc' ls (st) h) : Ev G M d kc ks Q pc ls (va :: st) h := by
  obtain ⟨hd, rfl⟩ := hd
  intro p l e R s m args below meth c A H locs cells slots lsA Qf hc h1 h2 hw hS hl hr
  exact lv_pop hc.1 hc.2.1 hd hva (k p l e R s m args below meth c A H locs cells slots lsA Qf hc h1 h2 hw hS hl hr)
theorem ev_dup_x1 {va vb : Value} (hd : fe M pc .dup_x1 1 pc') (hva : va.category = 1) (hvb : vb.category = 1) (k : Ev G M d kc ks Q pc' ls (va :: vb :: va :: st) h) : Ev G M d kc ks Q pc ls (va :: vb :: st) h := by
  obtain ⟨hd, rfl⟩ := hd
  intro p l e R s m args below meth c A H locs cells slots lsA Qf hc h1 h2 hw hS hl hr
  exact lv_dup_x1 hc.1 hc.2.1 hd hva hvb (k p l e R s m args below meth c A H locs cells slots lsA Qf hc h1 h2 hw hS hl hr)
theorem ev_dup_x2 {va vb vd : Value} (hd : fe M pc .dup_x2 1 pc') (hva : va.category = 1) (hvb : vb.category = 1) (hvd : vd.category = 1) (k : Ev G M d kc ks Q pc' ls (va :: vb :: vd :: va :: st) h) : Ev G M d kc ks Q pc ls (va :: vb :: vd :: st) h := by
  obtain ⟨hd, rfl⟩ := hd
  intro p l e R s m args below meth c A H locs cells slots lsA Qf hc h1 h2 hw hS hl hr
  exact lv_dup_x2 hc.1 hc.2.1 hd hva hvb hvd (k p l e R s m args below meth c A H locs cells slots lsA Qf hc h1 h2 hw hS hl hr)
theorem ev_dup2 {va vb : Value} (hd : fe M pc .dup2 1 pc') (hva : va.category = 1) (hvb : vb.category = 1) (k : Ev G M d kc ks Q pc' ls (va :: vb :: va :: vb :: st) h) : Ev G M d kc ks Q pc ls (va :: vb :: st) h := by
  obtain ⟨hd, rfl⟩ := hd
  intro p l e R s m args below meth c A H locs cells slots lsA Qf hc h1 h2 hw hS hl hr
  exact lv_dup2_11 hc.1 hc.2.1 hd hva hvb (k p l e R s m args below meth c A H locs cells slots lsA Qf hc h1 h2 hw hS hl hr)
theorem ev_dup2l {va : Value} (hd : fe M pc .dup2 1 pc') (hva : va.category = 2) (k : Ev G M d kc ks Q pc' ls (va :: va :: st) h) : Ev G M d kc ks Q pc ls (va :: st) h := by
  obtain ⟨hd, rfl⟩ := hd
  intro p l e R s m args below meth c A H locs cells slots lsA Qf hc h1 h2 hw hS hl hr
  exact lv_dup2_2 hc.1 hc.2.1 hd hva (k p l e R s m args below meth c A H locs cells slots lsA Qf hc h1 h2 hw hS hl hr)
theorem ev_null  (hd : fe M pc .aconst_null 1 pc')  (k : Ev G M d kc ks Q pc' ls (.null :: st) h) : Ev G M d kc ks Q pc ls (st) h := by
  obtain ⟨hd, rfl⟩ := hd
  intro p l e R s m args below meth c A H locs cells slots lsA Qf hc h1 h2 hw hS hl hr
  exact lv_null hc.1 hc.2.1 hd (k p l e R s m args below meth c A H locs cells slots lsA Qf hc h1 h2 hw hS hl hr)
theorem ev_iconst {n : Int} {v : Int32} (hd : fe M pc (.iconst n) 1 pc') (hv : Int32.ofInt n = v) (k : Ev G M d kc ks Q pc' ls (.int v :: st) h) : Ev G M d kc ks Q pc ls (st) h := by
  obtain ⟨hd, rfl⟩ := hd
  intro p l e R s m args below meth c A H locs cells slots lsA Qf hc h1 h2 hw hS hl hr
  exact lv_iconst hc.1 hc.2.1 hd hv (k p l e R s m args below meth c A H locs cells slots lsA Qf hc h1 h2 hw hS hl hr)
theorem ev_bipush {n : Int} {v : Int32} (hd : fe M pc (.bipush n) 2 pc') (hv : (Int8.ofInt n).toInt32 = v) (k : Ev G M d kc ks Q pc' ls (.int v :: st) h) : Ev G M d kc ks Q pc ls (st) h := by
  obtain ⟨hd, rfl⟩ := hd
  intro p l e R s m args below meth c A H locs cells slots lsA Qf hc h1 h2 hw hS hl hr
  exact lv_bipush hc.1 hc.2.1 hd hv (k p l e R s m args below meth c A H locs cells slots lsA Qf hc h1 h2 hw hS hl hr)
theorem ev_sipush {n : Int} {v : Int32} (hd : fe M pc (.sipush n) 3 pc') (hv : (Int16.ofInt n).toInt32 = v) (k : Ev G M d kc ks Q pc' ls (.int v :: st) h) : Ev G M d kc ks Q pc ls (st) h := by
  obtain ⟨hd, rfl⟩ := hd
  intro p l e R s m args below meth c A H locs cells slots lsA Qf hc h1 h2 hw hS hl hr
  exact lv_sipush hc.1 hc.2.1 hd hv (k p l e R s m args below meth c A H locs cells slots lsA Qf hc h1 h2 hw hS hl hr)
theorem ev_lconst {n : Fin 2} {v : Int64} (hd : fe M pc (.lconst n) 1 pc') (hv : Int64.ofNat (n : Nat) = v) (k : Ev G M d kc ks Q pc' ls (.long v :: st) h) : Ev G M d kc ks Q pc ls (st) h := by
  obtain ⟨hd, rfl⟩ := hd
  intro p l e R s m args below meth c A H locs cells slots lsA Qf hc h1 h2 hw hS hl hr
  exact lv_lconst hc.1 hc.2.1 hd hv (k p l e R s m args below meth c A H locs cells slots lsA Qf hc h1 h2 hw hS hl hr)
theorem ev_ldc {ix : Nat} {v : Int32} (hd : fe M pc (.ldc ix) 2 pc') (hk : Cond.constant M.1.cls ix v ∈ ev_WS) (k : Ev G M d kc ks Q pc' ls (.int v :: st) h) : Ev G M d kc ks Q pc ls (st) h := by
  obtain ⟨hd, rfl⟩ := hd
  intro p l e R s m args below meth c A H locs cells slots lsA Qf hc h1 h2 hw hS hl hr
  exact lv_ldc hc.1 hc.2.1 hc.2.2.2.1 (hc.2.2.2.2.1 _ hk) hd (k p l e R s m args below meth c A H locs cells slots lsA Qf hc h1 h2 hw hS hl hr)
theorem ev_ldcw {ix : Nat} {v : Int32} (hd : fe M pc (.ldc_w ix) 3 pc') (hk : Cond.constant M.1.cls ix v ∈ ev_WS) (k : Ev G M d kc ks Q pc' ls (.int v :: st) h) : Ev G M d kc ks Q pc ls (st) h := by
  obtain ⟨hd, rfl⟩ := hd
  intro p l e R s m args below meth c A H locs cells slots lsA Qf hc h1 h2 hw hS hl hr
  exact lv_ldcw hc.1 hc.2.1 hc.2.2.2.1 (hc.2.2.2.2.1 _ hk) hd (k p l e R s m args below meth c A H locs cells slots lsA Qf hc h1 h2 hw hS hl hr)
theorem ev_ldc2 {ix : Nat} {v : Int64} (hd : fe M pc (.ldc2_w ix) 3 pc') (hk : Cond.constantLong M.1.cls ix v ∈ ev_WS) (k : Ev G M d kc ks Q pc' ls (.long v :: st) h) : Ev G M d kc ks Q pc ls (st) h := by
  obtain ⟨hd, rfl⟩ := hd
  intro p l e R s m args below meth c A H locs cells slots lsA Qf hc h1 h2 hw hS hl hr
  exact lv_ldc2 hc.1 hc.2.1 hc.2.2.2.1 (hc.2.2.2.2.1 _ hk) hd (k p l e R s m args below meth c A H locs cells slots lsA Qf hc h1 h2 hw hS hl hr)
theorem ev_iload_0 {t : List (Option Value)} {x : Int32} (hd : fe M pc (.iload_n 0) 1 pc') (k : Ev G M d kc ks Q pc' (some (.int x) :: t) (.int x :: st) h) : Ev G M d kc ks Q pc (some (.int x) :: t) st h := by
  obtain ⟨hd, rfl⟩ := hd
  intro p l e R s m args below meth c A H locs cells slots lsA Qf hc h1 h2 hw hS hl hr
  exact lv_iload_n hc.1 hc.2.1 hd rfl (hl.2.2.2 0 _ rfl) (k p l e R s m args below meth c A H locs cells slots lsA Qf hc h1 h2 hw hS hl hr)
theorem ev_lload_0 {t : List (Option Value)} {x : Int64} (hd : fe M pc (.lload_n 0) 1 pc') (k : Ev G M d kc ks Q pc' (some (.long x) :: t) (.long x :: st) h) : Ev G M d kc ks Q pc (some (.long x) :: t) st h := by
  obtain ⟨hd, rfl⟩ := hd
  intro p l e R s m args below meth c A H locs cells slots lsA Qf hc h1 h2 hw hS hl hr
  exact lv_lload_n hc.1 hc.2.1 hd rfl (hl.2.2.2 0 _ rfl) (k p l e R s m args below meth c A H locs cells slots lsA Qf hc h1 h2 hw hS hl hr)
theorem ev_aload_0 {t : List (Option Value)} {x : Nat} (hd : fe M pc (.aload_n 0) 1 pc') (k : Ev G M d kc ks Q pc' (some (.ref x) :: t) (.ref x :: st) h) : Ev G M d kc ks Q pc (some (.ref x) :: t) st h := by
  obtain ⟨hd, rfl⟩ := hd
  intro p l e R s m args below meth c A H locs cells slots lsA Qf hc h1 h2 hw hS hl hr
  exact lv_aload_n hc.1 hc.2.1 hd rfl (hl.2.2.2 0 _ rfl) (k p l e R s m args below meth c A H locs cells slots lsA Qf hc h1 h2 hw hS hl hr)
theorem ev_aloadN_0 {t : List (Option Value)} (hd : fe M pc (.aload_n 0) 1 pc') (k : Ev G M d kc ks Q pc' (some .null :: t) (.null :: st) h) : Ev G M d kc ks Q pc (some .null :: t) st h := by
  obtain ⟨hd, rfl⟩ := hd
  intro p l e R s m args below meth c A H locs cells slots lsA Qf hc h1 h2 hw hS hl hr
  exact lv_aload_nN hc.1 hc.2.1 hd rfl (hl.2.2.2 0 _ rfl) (k p l e R s m args below meth c A H locs cells slots lsA Qf hc h1 h2 hw hS hl hr)
theorem ev_istore_0 {a0 : Option Value} {t : List (Option Value)} {x : Int32} (hd : fe M pc (.istore_n 0) 1 pc') (k : Ev G M d kc ks Q pc' (some (.int x) :: t) st h) : Ev G M d kc ks Q pc (a0 :: t) (.int x :: st) h := by
  obtain ⟨hd, rfl⟩ := hd
  intro p l e R s m args below meth c A H locs cells slots lsA Qf hc h1 h2 hw hS hl hr
  refine lv_istore_n hc.1 hc.2.1 hd rfl (ev_ls_has hl) (Nat.lt_of_lt_of_le (by simp only [List.length_cons]; omega) hl.2.2.1) rfl (fun lsB hB => ?_)
  exact k p l e R s m args below meth c A H locs cells slots lsB Qf hc h1 h2 hw hS (ev_ls_st1 (L := 0) hl.2.2.1 (fun j w hj _ => absurd hj (Nat.succ_ne_zero j)) hB) hr
theorem ev_astore_0 {a0 : Option Value} {t : List (Option Value)} {x : Nat} (hd : fe M pc (.astore_n 0) 1 pc') (k : Ev G M d kc ks Q pc' (some (.ref x) :: t) st h) : Ev G M d kc ks Q pc (a0 :: t) (.ref x :: st) h := by
  obtain ⟨hd, rfl⟩ := hd
  intro p l e R s m args below meth c A H locs cells slots lsA Qf hc h1 h2 hw hS hl hr
  refine lv_astore_n hc.1 hc.2.1 hd rfl (ev_ls_has hl) (Nat.lt_of_lt_of_le (by simp only [List.length_cons]; omega) hl.2.2.1) rfl (fun lsB hB => ?_)
  exact k p l e R s m args below meth c A H locs cells slots lsB Qf hc h1 h2 hw hS (ev_ls_st1 (L := 0) hl.2.2.1 (fun j w hj _ => absurd hj (Nat.succ_ne_zero j)) hB) hr
theorem ev_astoreN_0 {a0 : Option Value} {t : List (Option Value)}  (hd : fe M pc (.astore_n 0) 1 pc') (k : Ev G M d kc ks Q pc' (some (.null) :: t) st h) : Ev G M d kc ks Q pc (a0 :: t) (.null :: st) h := by
  obtain ⟨hd, rfl⟩ := hd
  intro p l e R s m args below meth c A H locs cells slots lsA Qf hc h1 h2 hw hS hl hr
  refine lv_astore_nN hc.1 hc.2.1 hd rfl (ev_ls_has hl) (Nat.lt_of_lt_of_le (by simp only [List.length_cons]; omega) hl.2.2.1) rfl (fun lsB hB => ?_)
  exact k p l e R s m args below meth c A H locs cells slots lsB Qf hc h1 h2 hw hS (ev_ls_st1 (L := 0) hl.2.2.1 (fun j w hj _ => absurd hj (Nat.succ_ne_zero j)) hB) hr
theorem ev_lstore_0 {a0 a1 : Option Value} {t : List (Option Value)} {x : Int64} (hd : fe M pc (.lstore_n 0) 1 pc') (k : Ev G M d kc ks Q pc' (some (.long x) :: none :: t) st h) : Ev G M d kc ks Q pc (a0 :: a1 :: t) (.long x :: st) h := by
  obtain ⟨hd, rfl⟩ := hd
  intro p l e R s m args below meth c A H locs cells slots lsA Qf hc h1 h2 hw hS hl hr
  refine lv_lstore_n hc.1 hc.2.1 hd rfl (ev_ls_has hl) (Nat.lt_of_lt_of_le (by simp only [List.length_cons]; omega) hl.2.2.1) rfl (fun lsB hB => ?_)
  exact k p l e R s m args below meth c A H locs cells slots lsB Qf hc h1 h2 hw hS (ev_ls_st2 hl.2.2.1 (fun j w hj _ => absurd hj (Nat.succ_ne_zero j)) hB) hr
theorem ev_iinc_0 {t : List (Option Value)} {x v : Int32} {n : Int} (hd : fe M pc (.iinc 0 n) 3 pc') (hv : x + Int32.ofInt n = v) (k : Ev G M d kc ks Q pc' (some (.int v) :: t) st h) : Ev G M d kc ks Q pc (some (.int x) :: t) st h := by
  obtain ⟨hd, rfl⟩ := hd
  intro p l e R s m args below meth c A H locs cells slots lsA Qf hc h1 h2 hw hS hl hr
  obtain ⟨kk, hkk⟩ := List.getElem?_of_mem (ev_pr_mem.mpr (show (some (.int x) :: t)[0]? = some (some (.int x)) from rfl))
  refine lv_iinc hc.1 hc.2.1 hd (ev_ls_has hl) hkk hv (Nat.lt_of_lt_of_le (by simp only [List.length_cons]; omega) hl.2.2.1) rfl (fun lsB hB => ?_)
  exact k p l e R s m args below meth c A H locs cells slots lsB Qf hc h1 h2 hw hS (ev_ls_st1 (L := 0) hl.2.2.1 (fun j w hj _ => absurd hj (Nat.succ_ne_zero j)) hB) hr
theorem ev_iload_1 {a0 : Option Value} {t : List (Option Value)} {x : Int32} (hd : fe M pc (.iload_n 1) 1 pc') (k : Ev G M d kc ks Q pc' (a0 :: some (.int x) :: t) (.int x :: st) h) : Ev G M d kc ks Q pc (a0 :: some (.int x) :: t) st h := by
  obtain ⟨hd, rfl⟩ := hd
  intro p l e R s m args below meth c A H locs cells slots lsA Qf hc h1 h2 hw hS hl hr
  exact lv_iload_n hc.1 hc.2.1 hd rfl (hl.2.2.2 1 _ rfl) (k p l e R s m args below meth c A H locs cells slots lsA Qf hc h1 h2 hw hS hl hr)
theorem ev_lload_1 {a0 : Option Value} {t : List (Option Value)} {x : Int64} (hd : fe M pc (.lload_n 1) 1 pc') (k : Ev G M d kc ks Q pc' (a0 :: some (.long x) :: t) (.long x :: st) h) : Ev G M d kc ks Q pc (a0 :: some (.long x) :: t) st h := by
  obtain ⟨hd, rfl⟩ := hd
  intro p l e R s m args below meth c A H locs cells slots lsA Qf hc h1 h2 hw hS hl hr
  exact lv_lload_n hc.1 hc.2.1 hd rfl (hl.2.2.2 1 _ rfl) (k p l e R s m args below meth c A H locs cells slots lsA Qf hc h1 h2 hw hS hl hr)
theorem ev_aload_1 {a0 : Option Value} {t : List (Option Value)} {x : Nat} (hd : fe M pc (.aload_n 1) 1 pc') (k : Ev G M d kc ks Q pc' (a0 :: some (.ref x) :: t) (.ref x :: st) h) : Ev G M d kc ks Q pc (a0 :: some (.ref x) :: t) st h := by
  obtain ⟨hd, rfl⟩ := hd
  intro p l e R s m args below meth c A H locs cells slots lsA Qf hc h1 h2 hw hS hl hr
  exact lv_aload_n hc.1 hc.2.1 hd rfl (hl.2.2.2 1 _ rfl) (k p l e R s m args below meth c A H locs cells slots lsA Qf hc h1 h2 hw hS hl hr)
theorem ev_aloadN_1 {a0 : Option Value} {t : List (Option Value)} (hd : fe M pc (.aload_n 1) 1 pc') (k : Ev G M d kc ks Q pc' (a0 :: some .null :: t) (.null :: st) h) : Ev G M d kc ks Q pc (a0 :: some .null :: t) st h := by
  obtain ⟨hd, rfl⟩ := hd
  intro p l e R s m args below meth c A H locs cells slots lsA Qf hc h1 h2 hw hS hl hr
  exact lv_aload_nN hc.1 hc.2.1 hd rfl (hl.2.2.2 1 _ rfl) (k p l e R s m args below meth c A H locs cells slots lsA Qf hc h1 h2 hw hS hl hr)
theorem ev_istore_1 {a0 a1 : Option Value} {t : List (Option Value)} {x : Int32} (hd : fe M pc (.istore_n 1) 1 pc') (hp : ev_nl a0 = true) (k : Ev G M d kc ks Q pc' (a0 :: some (.int x) :: t) st h) : Ev G M d kc ks Q pc (a0 :: a1 :: t) (.int x :: st) h := by
  obtain ⟨hd, rfl⟩ := hd
  intro p l e R s m args below meth c A H locs cells slots lsA Qf hc h1 h2 hw hS hl hr
  refine lv_istore_n hc.1 hc.2.1 hd rfl (ev_ls_has hl) (Nat.lt_of_lt_of_le (by simp only [List.length_cons]; omega) hl.2.2.1) rfl (fun lsB hB => ?_)
  exact k p l e R s m args below meth c A H locs cells slots lsB Qf hc h1 h2 hw hS (ev_ls_st1 (L := 0) hl.2.2.1 (ev_hp (i := 0) (a := a0) rfl hp) hB) hr
theorem ev_astore_1 {a0 a1 : Option Value} {t : List (Option Value)} {x : Nat} (hd : fe M pc (.astore_n 1) 1 pc') (hp : ev_nl a0 = true) (k : Ev G M d kc ks Q pc' (a0 :: some (.ref x) :: t) st h) : Ev G M d kc ks Q pc (a0 :: a1 :: t) (.ref x :: st) h := by
  obtain ⟨hd, rfl⟩ := hd
  intro p l e R s m args below meth c A H locs cells slots lsA Qf hc h1 h2 hw hS hl hr
  refine lv_astore_n hc.1 hc.2.1 hd rfl (ev_ls_has hl) (Nat.lt_of_lt_of_le (by simp only [List.length_cons]; omega) hl.2.2.1) rfl (fun lsB hB => ?_)
  exact k p l e R s m args below meth c A H locs cells slots lsB Qf hc h1 h2 hw hS (ev_ls_st1 (L := 0) hl.2.2.1 (ev_hp (i := 0) (a := a0) rfl hp) hB) hr
theorem ev_astoreN_1 {a0 a1 : Option Value} {t : List (Option Value)}  (hd : fe M pc (.astore_n 1) 1 pc') (hp : ev_nl a0 = true) (k : Ev G M d kc ks Q pc' (a0 :: some (.null) :: t) st h) : Ev G M d kc ks Q pc (a0 :: a1 :: t) (.null :: st) h := by
  obtain ⟨hd, rfl⟩ := hd
  intro p l e R s m args below meth c A H locs cells slots lsA Qf hc h1 h2 hw hS hl hr
  refine lv_astore_nN hc.1 hc.2.1 hd rfl (ev_ls_has hl) (Nat.lt_of_lt_of_le (by simp only [List.length_cons]; omega) hl.2.2.1) rfl (fun lsB hB => ?_)
  exact k p l e R s m args below meth c A H locs cells slots lsB Qf hc h1 h2 hw hS (ev_ls_st1 (L := 0) hl.2.2.1 (ev_hp (i := 0) (a := a0) rfl hp) hB) hr
theorem ev_lstore_1 {a0 a1 a2 : Option Value} {t : List (Option Value)} {x : Int64} (hd : fe M pc (.lstore_n 1) 1 pc') (hp : ev_nl a0 = true) (k : Ev G M d kc ks Q pc' (a0 :: some (.long x) :: none :: t) st h) : Ev G M d kc ks Q pc (a0 :: a1 :: a2 :: t) (.long x :: st) h := by
  obtain ⟨hd, rfl⟩ := hd
  intro p l e R s m args below meth c A H locs cells slots lsA Qf hc h1 h2 hw hS hl hr
  refine lv_lstore_n hc.1 hc.2.1 hd rfl (ev_ls_has hl) (Nat.lt_of_lt_of_le (by simp only [List.length_cons]; omega) hl.2.2.1) rfl (fun lsB hB => ?_)
  exact k p l e R s m args below meth c A H locs cells slots lsB Qf hc h1 h2 hw hS (ev_ls_st2 hl.2.2.1 (ev_hp (i := 0) (a := a0) rfl hp) hB) hr
theorem ev_iinc_1 {a0 : Option Value} {t : List (Option Value)} {x v : Int32} {n : Int} (hd : fe M pc (.iinc 1 n) 3 pc') (hv : x + Int32.ofInt n = v) (hp : ev_nl a0 = true) (k : Ev G M d kc ks Q pc' (a0 :: some (.int v) :: t) st h) : Ev G M d kc ks Q pc (a0 :: some (.int x) :: t) st h := by
  obtain ⟨hd, rfl⟩ := hd
  intro p l e R s m args below meth c A H locs cells slots lsA Qf hc h1 h2 hw hS hl hr
  obtain ⟨kk, hkk⟩ := List.getElem?_of_mem (ev_pr_mem.mpr (show (a0 :: some (.int x) :: t)[1]? = some (some (.int x)) from rfl))
  refine lv_iinc hc.1 hc.2.1 hd (ev_ls_has hl) hkk hv (Nat.lt_of_lt_of_le (by simp only [List.length_cons]; omega) hl.2.2.1) rfl (fun lsB hB => ?_)
  exact k p l e R s m args below meth c A H locs cells slots lsB Qf hc h1 h2 hw hS (ev_ls_st1 (L := 0) hl.2.2.1 (ev_hp (i := 0) (a := a0) rfl hp) hB) hr
theorem ev_iload_2 {a0 a1 : Option Value} {t : List (Option Value)} {x : Int32} (hd : fe M pc (.iload_n 2) 1 pc') (k : Ev G M d kc ks Q pc' (a0 :: a1 :: some (.int x) :: t) (.int x :: st) h) : Ev G M d kc ks Q pc (a0 :: a1 :: some (.int x) :: t) st h := by
  obtain ⟨hd, rfl⟩ := hd
  intro p l e R s m args below meth c A H locs cells slots lsA Qf hc h1 h2 hw hS hl hr
  exact lv_iload_n hc.1 hc.2.1 hd rfl (hl.2.2.2 2 _ rfl) (k p l e R s m args below meth c A H locs cells slots lsA Qf hc h1 h2 hw hS hl hr)
theorem ev_lload_2 {a0 a1 : Option Value} {t : List (Option Value)} {x : Int64} (hd : fe M pc (.lload_n 2) 1 pc') (k : Ev G M d kc ks Q pc' (a0 :: a1 :: some (.long x) :: t) (.long x :: st) h) : Ev G M d kc ks Q pc (a0 :: a1 :: some (.long x) :: t) st h := by
  obtain ⟨hd, rfl⟩ := hd
  intro p l e R s m args below meth c A H locs cells slots lsA Qf hc h1 h2 hw hS hl hr
  exact lv_lload_n hc.1 hc.2.1 hd rfl (hl.2.2.2 2 _ rfl) (k p l e R s m args below meth c A H locs cells slots lsA Qf hc h1 h2 hw hS hl hr)
theorem ev_aload_2 {a0 a1 : Option Value} {t : List (Option Value)} {x : Nat} (hd : fe M pc (.aload_n 2) 1 pc') (k : Ev G M d kc ks Q pc' (a0 :: a1 :: some (.ref x) :: t) (.ref x :: st) h) : Ev G M d kc ks Q pc (a0 :: a1 :: some (.ref x) :: t) st h := by
  obtain ⟨hd, rfl⟩ := hd
  intro p l e R s m args below meth c A H locs cells slots lsA Qf hc h1 h2 hw hS hl hr
  exact lv_aload_n hc.1 hc.2.1 hd rfl (hl.2.2.2 2 _ rfl) (k p l e R s m args below meth c A H locs cells slots lsA Qf hc h1 h2 hw hS hl hr)
theorem ev_aloadN_2 {a0 a1 : Option Value} {t : List (Option Value)} (hd : fe M pc (.aload_n 2) 1 pc') (k : Ev G M d kc ks Q pc' (a0 :: a1 :: some .null :: t) (.null :: st) h) : Ev G M d kc ks Q pc (a0 :: a1 :: some .null :: t) st h := by
  obtain ⟨hd, rfl⟩ := hd
  intro p l e R s m args below meth c A H locs cells slots lsA Qf hc h1 h2 hw hS hl hr
  exact lv_aload_nN hc.1 hc.2.1 hd rfl (hl.2.2.2 2 _ rfl) (k p l e R s m args below meth c A H locs cells slots lsA Qf hc h1 h2 hw hS hl hr)
theorem ev_istore_2 {a0 a1 a2 : Option Value} {t : List (Option Value)} {x : Int32} (hd : fe M pc (.istore_n 2) 1 pc') (hp : ev_nl a1 = true) (k : Ev G M d kc ks Q pc' (a0 :: a1 :: some (.int x) :: t) st h) : Ev G M d kc ks Q pc (a0 :: a1 :: a2 :: t) (.int x :: st) h := by
  obtain ⟨hd, rfl⟩ := hd
  intro p l e R s m args below meth c A H locs cells slots lsA Qf hc h1 h2 hw hS hl hr
  refine lv_istore_n hc.1 hc.2.1 hd rfl (ev_ls_has hl) (Nat.lt_of_lt_of_le (by simp only [List.length_cons]; omega) hl.2.2.1) rfl (fun lsB hB => ?_)
  exact k p l e R s m args below meth c A H locs cells slots lsB Qf hc h1 h2 hw hS (ev_ls_st1 (L := 0) hl.2.2.1 (ev_hp (i := 1) (a := a1) rfl hp) hB) hr
theorem ev_astore_2 {a0 a1 a2 : Option Value} {t : List (Option Value)} {x : Nat} (hd : fe M pc (.astore_n 2) 1 pc') (hp : ev_nl a1 = true) (k : Ev G M d kc ks Q pc' (a0 :: a1 :: some (.ref x) :: t) st h) : Ev G M d kc ks Q pc (a0 :: a1 :: a2 :: t) (.ref x :: st) h := by
  obtain ⟨hd, rfl⟩ := hd
  intro p l e R s m args below meth c A H locs cells slots lsA Qf hc h1 h2 hw hS hl hr
  refine lv_astore_n hc.1 hc.2.1 hd rfl (ev_ls_has hl) (Nat.lt_of_lt_of_le (by simp only [List.length_cons]; omega) hl.2.2.1) rfl (fun lsB hB => ?_)
  exact k p l e R s m args below meth c A H locs cells slots lsB Qf hc h1 h2 hw hS (ev_ls_st1 (L := 0) hl.2.2.1 (ev_hp (i := 1) (a := a1) rfl hp) hB) hr
theorem ev_astoreN_2 {a0 a1 a2 : Option Value} {t : List (Option Value)}  (hd : fe M pc (.astore_n 2) 1 pc') (hp : ev_nl a1 = true) (k : Ev G M d kc ks Q pc' (a0 :: a1 :: some (.null) :: t) st h) : Ev G M d kc ks Q pc (a0 :: a1 :: a2 :: t) (.null :: st) h := by
  obtain ⟨hd, rfl⟩ := hd
  intro p l e R s m args below meth c A H locs cells slots lsA Qf hc h1 h2 hw hS hl hr
  refine lv_astore_nN hc.1 hc.2.1 hd rfl (ev_ls_has hl) (Nat.lt_of_lt_of_le (by simp only [List.length_cons]; omega) hl.2.2.1) rfl (fun lsB hB => ?_)
  exact k p l e R s m args below meth c A H locs cells slots lsB Qf hc h1 h2 hw hS (ev_ls_st1 (L := 0) hl.2.2.1 (ev_hp (i := 1) (a := a1) rfl hp) hB) hr
theorem ev_lstore_2 {a0 a1 a2 a3 : Option Value} {t : List (Option Value)} {x : Int64} (hd : fe M pc (.lstore_n 2) 1 pc') (hp : ev_nl a1 = true) (k : Ev G M d kc ks Q pc' (a0 :: a1 :: some (.long x) :: none :: t) st h) : Ev G M d kc ks Q pc (a0 :: a1 :: a2 :: a3 :: t) (.long x :: st) h := by
  obtain ⟨hd, rfl⟩ := hd
  intro p l e R s m args below meth c A H locs cells slots lsA Qf hc h1 h2 hw hS hl hr
  refine lv_lstore_n hc.1 hc.2.1 hd rfl (ev_ls_has hl) (Nat.lt_of_lt_of_le (by simp only [List.length_cons]; omega) hl.2.2.1) rfl (fun lsB hB => ?_)
  exact k p l e R s m args below meth c A H locs cells slots lsB Qf hc h1 h2 hw hS (ev_ls_st2 hl.2.2.1 (ev_hp (i := 1) (a := a1) rfl hp) hB) hr
theorem ev_iinc_2 {a0 a1 : Option Value} {t : List (Option Value)} {x v : Int32} {n : Int} (hd : fe M pc (.iinc 2 n) 3 pc') (hv : x + Int32.ofInt n = v) (hp : ev_nl a1 = true) (k : Ev G M d kc ks Q pc' (a0 :: a1 :: some (.int v) :: t) st h) : Ev G M d kc ks Q pc (a0 :: a1 :: some (.int x) :: t) st h := by
  obtain ⟨hd, rfl⟩ := hd
  intro p l e R s m args below meth c A H locs cells slots lsA Qf hc h1 h2 hw hS hl hr
  obtain ⟨kk, hkk⟩ := List.getElem?_of_mem (ev_pr_mem.mpr (show (a0 :: a1 :: some (.int x) :: t)[2]? = some (some (.int x)) from rfl))
  refine lv_iinc hc.1 hc.2.1 hd (ev_ls_has hl) hkk hv (Nat.lt_of_lt_of_le (by simp only [List.length_cons]; omega) hl.2.2.1) rfl (fun lsB hB => ?_)
  exact k p l e R s m args below meth c A H locs cells slots lsB Qf hc h1 h2 hw hS (ev_ls_st1 (L := 0) hl.2.2.1 (ev_hp (i := 1) (a := a1) rfl hp) hB) hr
theorem ev_iload_3 {a0 a1 a2 : Option Value} {t : List (Option Value)} {x : Int32} (hd : fe M pc (.iload_n 3) 1 pc') (k : Ev G M d kc ks Q pc' (a0 :: a1 :: a2 :: some (.int x) :: t) (.int x :: st) h) : Ev G M d kc ks Q pc (a0 :: a1 :: a2 :: some (.int x) :: t) st h := by
  obtain ⟨hd, rfl⟩ := hd
  intro p l e R s m args below meth c A H locs cells slots lsA Qf hc h1 h2 hw hS hl hr
  exact lv_iload_n hc.1 hc.2.1 hd rfl (hl.2.2.2 3 _ rfl) (k p l e R s m args below meth c A H locs cells slots lsA Qf hc h1 h2 hw hS hl hr)
theorem ev_lload_3 {a0 a1 a2 : Option Value} {t : List (Option Value)} {x : Int64} (hd : fe M pc (.lload_n 3) 1 pc') (k : Ev G M d kc ks Q pc' (a0 :: a1 :: a2 :: some (.long x) :: t) (.long x :: st) h) : Ev G M d kc ks Q pc (a0 :: a1 :: a2 :: some (.long x) :: t) st h := by
  obtain ⟨hd, rfl⟩ := hd
  intro p l e R s m args below meth c A H locs cells slots lsA Qf hc h1 h2 hw hS hl hr
  exact lv_lload_n hc.1 hc.2.1 hd rfl (hl.2.2.2 3 _ rfl) (k p l e R s m args below meth c A H locs cells slots lsA Qf hc h1 h2 hw hS hl hr)
theorem ev_aload_3 {a0 a1 a2 : Option Value} {t : List (Option Value)} {x : Nat} (hd : fe M pc (.aload_n 3) 1 pc') (k : Ev G M d kc ks Q pc' (a0 :: a1 :: a2 :: some (.ref x) :: t) (.ref x :: st) h) : Ev G M d kc ks Q pc (a0 :: a1 :: a2 :: some (.ref x) :: t) st h := by
  obtain ⟨hd, rfl⟩ := hd
  intro p l e R s m args below meth c A H locs cells slots lsA Qf hc h1 h2 hw hS hl hr
  exact lv_aload_n hc.1 hc.2.1 hd rfl (hl.2.2.2 3 _ rfl) (k p l e R s m args below meth c A H locs cells slots lsA Qf hc h1 h2 hw hS hl hr)
theorem ev_aloadN_3 {a0 a1 a2 : Option Value} {t : List (Option Value)} (hd : fe M pc (.aload_n 3) 1 pc') (k : Ev G M d kc ks Q pc' (a0 :: a1 :: a2 :: some .null :: t) (.null :: st) h) : Ev G M d kc ks Q pc (a0 :: a1 :: a2 :: some .null :: t) st h := by
  obtain ⟨hd, rfl⟩ := hd
  intro p l e R s m args below meth c A H locs cells slots lsA Qf hc h1 h2 hw hS hl hr
  exact lv_aload_nN hc.1 hc.2.1 hd rfl (hl.2.2.2 3 _ rfl) (k p l e R s m args below meth c A H locs cells slots lsA Qf hc h1 h2 hw hS hl hr)
theorem ev_istore_3 {a0 a1 a2 a3 : Option Value} {t : List (Option Value)} {x : Int32} (hd : fe M pc (.istore_n 3) 1 pc') (hp : ev_nl a2 = true) (k : Ev G M d kc ks Q pc' (a0 :: a1 :: a2 :: some (.int x) :: t) st h) : Ev G M d kc ks Q pc (a0 :: a1 :: a2 :: a3 :: t) (.int x :: st) h := by
  obtain ⟨hd, rfl⟩ := hd
  intro p l e R s m args below meth c A H locs cells slots lsA Qf hc h1 h2 hw hS hl hr
  refine lv_istore_n hc.1 hc.2.1 hd rfl (ev_ls_has hl) (Nat.lt_of_lt_of_le (by simp only [List.length_cons]; omega) hl.2.2.1) rfl (fun lsB hB => ?_)
  exact k p l e R s m args below meth c A H locs cells slots lsB Qf hc h1 h2 hw hS (ev_ls_st1 (L := 0) hl.2.2.1 (ev_hp (i := 2) (a := a2) rfl hp) hB) hr
theorem ev_astore_3 {a0 a1 a2 a3 : Option Value} {t : List (Option Value)} {x : Nat} (hd : fe M pc (.astore_n 3) 1 pc') (hp : ev_nl a2 = true) (k : Ev G M d kc ks Q pc' (a0 :: a1 :: a2 :: some (.ref x) :: t) st h) : Ev G M d kc ks Q pc (a0 :: a1 :: a2 :: a3 :: t) (.ref x :: st) h := by
  obtain ⟨hd, rfl⟩ := hd
  intro p l e R s m args below meth c A H locs cells slots lsA Qf hc h1 h2 hw hS hl hr
  refine lv_astore_n hc.1 hc.2.1 hd rfl (ev_ls_has hl) (Nat.lt_of_lt_of_le (by simp only [List.length_cons]; omega) hl.2.2.1) rfl (fun lsB hB => ?_)
  exact k p l e R s m args below meth c A H locs cells slots lsB Qf hc h1 h2 hw hS (ev_ls_st1 (L := 0) hl.2.2.1 (ev_hp (i := 2) (a := a2) rfl hp) hB) hr
theorem ev_astoreN_3 {a0 a1 a2 a3 : Option Value} {t : List (Option Value)}  (hd : fe M pc (.astore_n 3) 1 pc') (hp : ev_nl a2 = true) (k : Ev G M d kc ks Q pc' (a0 :: a1 :: a2 :: some (.null) :: t) st h) : Ev G M d kc ks Q pc (a0 :: a1 :: a2 :: a3 :: t) (.null :: st) h := by
  obtain ⟨hd, rfl⟩ := hd
  intro p l e R s m args below meth c A H locs cells slots lsA Qf hc h1 h2 hw hS hl hr
  refine lv_astore_nN hc.1 hc.2.1 hd rfl (ev_ls_has hl) (Nat.lt_of_lt_of_le (by simp only [List.length_cons]; omega) hl.2.2.1) rfl (fun lsB hB => ?_)
  exact k p l e R s m args below meth c A H locs cells slots lsB Qf hc h1 h2 hw hS (ev_ls_st1 (L := 0) hl.2.2.1 (ev_hp (i := 2) (a := a2) rfl hp) hB) hr
theorem ev_lstore_3 {a0 a1 a2 a3 a4 : Option Value} {t : List (Option Value)} {x : Int64} (hd : fe M pc (.lstore_n 3) 1 pc') (hp : ev_nl a2 = true) (k : Ev G M d kc ks Q pc' (a0 :: a1 :: a2 :: some (.long x) :: none :: t) st h) : Ev G M d kc ks Q pc (a0 :: a1 :: a2 :: a3 :: a4 :: t) (.long x :: st) h := by
  obtain ⟨hd, rfl⟩ := hd
  intro p l e R s m args below meth c A H locs cells slots lsA Qf hc h1 h2 hw hS hl hr
  refine lv_lstore_n hc.1 hc.2.1 hd rfl (ev_ls_has hl) (Nat.lt_of_lt_of_le (by simp only [List.length_cons]; omega) hl.2.2.1) rfl (fun lsB hB => ?_)
  exact k p l e R s m args below meth c A H locs cells slots lsB Qf hc h1 h2 hw hS (ev_ls_st2 hl.2.2.1 (ev_hp (i := 2) (a := a2) rfl hp) hB) hr
theorem ev_iinc_3 {a0 a1 a2 : Option Value} {t : List (Option Value)} {x v : Int32} {n : Int} (hd : fe M pc (.iinc 3 n) 3 pc') (hv : x + Int32.ofInt n = v) (hp : ev_nl a2 = true) (k : Ev G M d kc ks Q pc' (a0 :: a1 :: a2 :: some (.int v) :: t) st h) : Ev G M d kc ks Q pc (a0 :: a1 :: a2 :: some (.int x) :: t) st h := by
  obtain ⟨hd, rfl⟩ := hd
  intro p l e R s m args below meth c A H locs cells slots lsA Qf hc h1 h2 hw hS hl hr
  obtain ⟨kk, hkk⟩ := List.getElem?_of_mem (ev_pr_mem.mpr (show (a0 :: a1 :: a2 :: some (.int x) :: t)[3]? = some (some (.int x)) from rfl))
  refine lv_iinc hc.1 hc.2.1 hd (ev_ls_has hl) hkk hv (Nat.lt_of_lt_of_le (by simp only [List.length_cons]; omega) hl.2.2.1) rfl (fun lsB hB => ?_)
  exact k p l e R s m args below meth c A H locs cells slots lsB Qf hc h1 h2 hw hS (ev_ls_st1 (L := 0) hl.2.2.1 (ev_hp (i := 2) (a := a2) rfl hp) hB) hr
theorem ev_iload_4 {a0 a1 a2 a3 : Option Value} {t : List (Option Value)} {x : Int32} (hd : fe M pc (.iload 4) 2 pc') (k : Ev G M d kc ks Q pc' (a0 :: a1 :: a2 :: a3 :: some (.int x) :: t) (.int x :: st) h) : Ev G M d kc ks Q pc (a0 :: a1 :: a2 :: a3 :: some (.int x) :: t) st h := by
  obtain ⟨hd, rfl⟩ := hd
  intro p l e R s m args below meth c A H locs cells slots lsA Qf hc h1 h2 hw hS hl hr
  exact lv_iload hc.1 hc.2.1 hd (hl.2.2.2 4 _ rfl) (k p l e R s m args below meth c A H locs cells slots lsA Qf hc h1 h2 hw hS hl hr)
theorem ev_lload_4 {a0 a1 a2 a3 : Option Value} {t : List (Option Value)} {x : Int64} (hd : fe M pc (.lload 4) 2 pc') (k : Ev G M d kc ks Q pc' (a0 :: a1 :: a2 :: a3 :: some (.long x) :: t) (.long x :: st) h) : Ev G M d kc ks Q pc (a0 :: a1 :: a2 :: a3 :: some (.long x) :: t) st h := by
  obtain ⟨hd, rfl⟩ := hd
  intro p l e R s m args below meth c A H locs cells slots lsA Qf hc h1 h2 hw hS hl hr
  exact lv_lload hc.1 hc.2.1 hd (hl.2.2.2 4 _ rfl) (k p l e R s m args below meth c A H locs cells slots lsA Qf hc h1 h2 hw hS hl hr)
theorem ev_aload_4 {a0 a1 a2 a3 : Option Value} {t : List (Option Value)} {x : Nat} (hd : fe M pc (.aload 4) 2 pc') (k : Ev G M d kc ks Q pc' (a0 :: a1 :: a2 :: a3 :: some (.ref x) :: t) (.ref x :: st) h) : Ev G M d kc ks Q pc (a0 :: a1 :: a2 :: a3 :: some (.ref x) :: t) st h := by
  obtain ⟨hd, rfl⟩ := hd
  intro p l e R s m args below meth c A H locs cells slots lsA Qf hc h1 h2 hw hS hl hr
  exact lv_aload hc.1 hc.2.1 hd (hl.2.2.2 4 _ rfl) (k p l e R s m args below meth c A H locs cells slots lsA Qf hc h1 h2 hw hS hl hr)
theorem ev_aloadN_4 {a0 a1 a2 a3 : Option Value} {t : List (Option Value)} (hd : fe M pc (.aload 4) 2 pc') (k : Ev G M d kc ks Q pc' (a0 :: a1 :: a2 :: a3 :: some .null :: t) (.null :: st) h) : Ev G M d kc ks Q pc (a0 :: a1 :: a2 :: a3 :: some .null :: t) st h := by
  obtain ⟨hd, rfl⟩ := hd
  intro p l e R s m args below meth c A H locs cells slots lsA Qf hc h1 h2 hw hS hl hr
  exact lv_aloadN hc.1 hc.2.1 hd (hl.2.2.2 4 _ rfl) (k p l e R s m args below meth c A H locs cells slots lsA Qf hc h1 h2 hw hS hl hr)
theorem ev_istore_4 {a0 a1 a2 a3 a4 : Option Value} {t : List (Option Value)} {x : Int32} (hd : fe M pc (.istore 4) 2 pc') (hp : ev_nl a3 = true) (k : Ev G M d kc ks Q pc' (a0 :: a1 :: a2 :: a3 :: some (.int x) :: t) st h) : Ev G M d kc ks Q pc (a0 :: a1 :: a2 :: a3 :: a4 :: t) (.int x :: st) h := by
  obtain ⟨hd, rfl⟩ := hd
  intro p l e R s m args below meth c A H locs cells slots lsA Qf hc h1 h2 hw hS hl hr
  refine lv_istore hc.1 hc.2.1 hd (ev_ls_has hl) (Nat.lt_of_lt_of_le (by simp only [List.length_cons]; omega) hl.2.2.1) rfl (fun lsB hB => ?_)
  exact k p l e R s m args below meth c A H locs cells slots lsB Qf hc h1 h2 hw hS (ev_ls_st1 (L := 0) hl.2.2.1 (ev_hp (i := 3) (a := a3) rfl hp) hB) hr
theorem ev_astore_4 {a0 a1 a2 a3 a4 : Option Value} {t : List (Option Value)} {x : Nat} (hd : fe M pc (.astore 4) 2 pc') (hp : ev_nl a3 = true) (k : Ev G M d kc ks Q pc' (a0 :: a1 :: a2 :: a3 :: some (.ref x) :: t) st h) : Ev G M d kc ks Q pc (a0 :: a1 :: a2 :: a3 :: a4 :: t) (.ref x :: st) h := by
  obtain ⟨hd, rfl⟩ := hd
  intro p l e R s m args below meth c A H locs cells slots lsA Qf hc h1 h2 hw hS hl hr
  refine lv_astore hc.1 hc.2.1 hd (ev_ls_has hl) (Nat.lt_of_lt_of_le (by simp only [List.length_cons]; omega) hl.2.2.1) rfl (fun lsB hB => ?_)
  exact k p l e R s m args below meth c A H locs cells slots lsB Qf hc h1 h2 hw hS (ev_ls_st1 (L := 0) hl.2.2.1 (ev_hp (i := 3) (a := a3) rfl hp) hB) hr
theorem ev_astoreN_4 {a0 a1 a2 a3 a4 : Option Value} {t : List (Option Value)}  (hd : fe M pc (.astore 4) 2 pc') (hp : ev_nl a3 = true) (k : Ev G M d kc ks Q pc' (a0 :: a1 :: a2 :: a3 :: some (.null) :: t) st h) : Ev G M d kc ks Q pc (a0 :: a1 :: a2 :: a3 :: a4 :: t) (.null :: st) h := by
  obtain ⟨hd, rfl⟩ := hd
  intro p l e R s m args below meth c A H locs cells slots lsA Qf hc h1 h2 hw hS hl hr
  refine lv_astoreN hc.1 hc.2.1 hd (ev_ls_has hl) (Nat.lt_of_lt_of_le (by simp only [List.length_cons]; omega) hl.2.2.1) rfl (fun lsB hB => ?_)
  exact k p l e R s m args below meth c A H locs cells slots lsB Qf hc h1 h2 hw hS (ev_ls_st1 (L := 0) hl.2.2.1 (ev_hp (i := 3) (a := a3) rfl hp) hB) hr
theorem ev_lstore_4 {a0 a1 a2 a3 a4 a5 : Option Value} {t : List (Option Value)} {x : Int64} (hd : fe M pc (.lstore 4) 2 pc') (hp : ev_nl a3 = true) (k : Ev G M d kc ks Q pc' (a0 :: a1 :: a2 :: a3 :: some (.long x) :: none :: t) st h) : Ev G M d kc ks Q pc (a0 :: a1 :: a2 :: a3 :: a4 :: a5 :: t) (.long x :: st) h := by
  obtain ⟨hd, rfl⟩ := hd
  intro p l e R s m args below meth c A H locs cells slots lsA Qf hc h1 h2 hw hS hl hr
  refine lv_lstore hc.1 hc.2.1 hd (ev_ls_has hl) (Nat.lt_of_lt_of_le (by simp only [List.length_cons]; omega) hl.2.2.1) rfl (fun lsB hB => ?_)
  exact k p l e R s m args below meth c A H locs cells slots lsB Qf hc h1 h2 hw hS (ev_ls_st2 hl.2.2.1 (ev_hp (i := 3) (a := a3) rfl hp) hB) hr
theorem ev_iinc_4 {a0 a1 a2 a3 : Option Value} {t : List (Option Value)} {x v : Int32} {n : Int} (hd : fe M pc (.iinc 4 n) 3 pc') (hv : x + Int32.ofInt n = v) (hp : ev_nl a3 = true) (k : Ev G M d kc ks Q pc' (a0 :: a1 :: a2 :: a3 :: some (.int v) :: t) st h) : Ev G M d kc ks Q pc (a0 :: a1 :: a2 :: a3 :: some (.int x) :: t) st h := by
  obtain ⟨hd, rfl⟩ := hd
  intro p l e R s m args below meth c A H locs cells slots lsA Qf hc h1 h2 hw hS hl hr
  obtain ⟨kk, hkk⟩ := List.getElem?_of_mem (ev_pr_mem.mpr (show (a0 :: a1 :: a2 :: a3 :: some (.int x) :: t)[4]? = some (some (.int x)) from rfl))
  refine lv_iinc hc.1 hc.2.1 hd (ev_ls_has hl) hkk hv (Nat.lt_of_lt_of_le (by simp only [List.length_cons]; omega) hl.2.2.1) rfl (fun lsB hB => ?_)
  exact k p l e R s m args below meth c A H locs cells slots lsB Qf hc h1 h2 hw hS (ev_ls_st1 (L := 0) hl.2.2.1 (ev_hp (i := 3) (a := a3) rfl hp) hB) hr
theorem ev_iload_5 {a0 a1 a2 a3 a4 : Option Value} {t : List (Option Value)} {x : Int32} (hd : fe M pc (.iload 5) 2 pc') (k : Ev G M d kc ks Q pc' (a0 :: a1 :: a2 :: a3 :: a4 :: some (.int x) :: t) (.int x :: st) h) : Ev G M d kc ks Q pc (a0 :: a1 :: a2 :: a3 :: a4 :: some (.int x) :: t) st h := by
  obtain ⟨hd, rfl⟩ := hd
  intro p l e R s m args below meth c A H locs cells slots lsA Qf hc h1 h2 hw hS hl hr
  exact lv_iload hc.1 hc.2.1 hd (hl.2.2.2 5 _ rfl) (k p l e R s m args below meth c A H locs cells slots lsA Qf hc h1 h2 hw hS hl hr)
theorem ev_lload_5 {a0 a1 a2 a3 a4 : Option Value} {t : List (Option Value)} {x : Int64} (hd : fe M pc (.lload 5) 2 pc') (k : Ev G M d kc ks Q pc' (a0 :: a1 :: a2 :: a3 :: a4 :: some (.long x) :: t) (.long x :: st) h) : Ev G M d kc ks Q pc (a0 :: a1 :: a2 :: a3 :: a4 :: some (.long x) :: t) st h := by
  obtain ⟨hd, rfl⟩ := hd
  intro p l e R s m args below meth c A H locs cells slots lsA Qf hc h1 h2 hw hS hl hr
  exact lv_lload hc.1 hc.2.1 hd (hl.2.2.2 5 _ rfl) (k p l e R s m args below meth c A H locs cells slots lsA Qf hc h1 h2 hw hS hl hr)
theorem ev_aload_5 {a0 a1 a2 a3 a4 : Option Value} {t : List (Option Value)} {x : Nat} (hd : fe M pc (.aload 5) 2 pc') (k : Ev G M d kc ks Q pc' (a0 :: a1 :: a2 :: a3 :: a4 :: some (.ref x) :: t) (.ref x :: st) h) : Ev G M d kc ks Q pc (a0 :: a1 :: a2 :: a3 :: a4 :: some (.ref x) :: t) st h := by
  obtain ⟨hd, rfl⟩ := hd
  intro p l e R s m args below meth c A H locs cells slots lsA Qf hc h1 h2 hw hS hl hr
  exact lv_aload hc.1 hc.2.1 hd (hl.2.2.2 5 _ rfl) (k p l e R s m args below meth c A H locs cells slots lsA Qf hc h1 h2 hw hS hl hr)
theorem ev_aloadN_5 {a0 a1 a2 a3 a4 : Option Value} {t : List (Option Value)} (hd : fe M pc (.aload 5) 2 pc') (k : Ev G M d kc ks Q pc' (a0 :: a1 :: a2 :: a3 :: a4 :: some .null :: t) (.null :: st) h) : Ev G M d kc ks Q pc (a0 :: a1 :: a2 :: a3 :: a4 :: some .null :: t) st h := by
  obtain ⟨hd, rfl⟩ := hd
  intro p l e R s m args below meth c A H locs cells slots lsA Qf hc h1 h2 hw hS hl hr
  exact lv_aloadN hc.1 hc.2.1 hd (hl.2.2.2 5 _ rfl) (k p l e R s m args below meth c A H locs cells slots lsA Qf hc h1 h2 hw hS hl hr)
theorem ev_istore_5 {a0 a1 a2 a3 a4 a5 : Option Value} {t : List (Option Value)} {x : Int32} (hd : fe M pc (.istore 5) 2 pc') (hp : ev_nl a4 = true) (k : Ev G M d kc ks Q pc' (a0 :: a1 :: a2 :: a3 :: a4 :: some (.int x) :: t) st h) : Ev G M d kc ks Q pc (a0 :: a1 :: a2 :: a3 :: a4 :: a5 :: t) (.int x :: st) h := by
  obtain ⟨hd, rfl⟩ := hd
  intro p l e R s m args below meth c A H locs cells slots lsA Qf hc h1 h2 hw hS hl hr
  refine lv_istore hc.1 hc.2.1 hd (ev_ls_has hl) (Nat.lt_of_lt_of_le (by simp only [List.length_cons]; omega) hl.2.2.1) rfl (fun lsB hB => ?_)
  exact k p l e R s m args below meth c A H locs cells slots lsB Qf hc h1 h2 hw hS (ev_ls_st1 (L := 0) hl.2.2.1 (ev_hp (i := 4) (a := a4) rfl hp) hB) hr
theorem ev_astore_5 {a0 a1 a2 a3 a4 a5 : Option Value} {t : List (Option Value)} {x : Nat} (hd : fe M pc (.astore 5) 2 pc') (hp : ev_nl a4 = true) (k : Ev G M d kc ks Q pc' (a0 :: a1 :: a2 :: a3 :: a4 :: some (.ref x) :: t) st h) : Ev G M d kc ks Q pc (a0 :: a1 :: a2 :: a3 :: a4 :: a5 :: t) (.ref x :: st) h := by
  obtain ⟨hd, rfl⟩ := hd
  intro p l e R s m args below meth c A H locs cells slots lsA Qf hc h1 h2 hw hS hl hr
  refine lv_astore hc.1 hc.2.1 hd (ev_ls_has hl) (Nat.lt_of_lt_of_le (by simp only [List.length_cons]; omega) hl.2.2.1) rfl (fun lsB hB => ?_)
  exact k p l e R s m args below meth c A H locs cells slots lsB Qf hc h1 h2 hw hS (ev_ls_st1 (L := 0) hl.2.2.1 (ev_hp (i := 4) (a := a4) rfl hp) hB) hr
theorem ev_astoreN_5 {a0 a1 a2 a3 a4 a5 : Option Value} {t : List (Option Value)}  (hd : fe M pc (.astore 5) 2 pc') (hp : ev_nl a4 = true) (k : Ev G M d kc ks Q pc' (a0 :: a1 :: a2 :: a3 :: a4 :: some (.null) :: t) st h) : Ev G M d kc ks Q pc (a0 :: a1 :: a2 :: a3 :: a4 :: a5 :: t) (.null :: st) h := by
  obtain ⟨hd, rfl⟩ := hd
  intro p l e R s m args below meth c A H locs cells slots lsA Qf hc h1 h2 hw hS hl hr
  refine lv_astoreN hc.1 hc.2.1 hd (ev_ls_has hl) (Nat.lt_of_lt_of_le (by simp only [List.length_cons]; omega) hl.2.2.1) rfl (fun lsB hB => ?_)
  exact k p l e R s m args below meth c A H locs cells slots lsB Qf hc h1 h2 hw hS (ev_ls_st1 (L := 0) hl.2.2.1 (ev_hp (i := 4) (a := a4) rfl hp) hB) hr
theorem ev_lstore_5 {a0 a1 a2 a3 a4 a5 a6 : Option Value} {t : List (Option Value)} {x : Int64} (hd : fe M pc (.lstore 5) 2 pc') (hp : ev_nl a4 = true) (k : Ev G M d kc ks Q pc' (a0 :: a1 :: a2 :: a3 :: a4 :: some (.long x) :: none :: t) st h) : Ev G M d kc ks Q pc (a0 :: a1 :: a2 :: a3 :: a4 :: a5 :: a6 :: t) (.long x :: st) h := by
  obtain ⟨hd, rfl⟩ := hd
  intro p l e R s m args below meth c A H locs cells slots lsA Qf hc h1 h2 hw hS hl hr
  refine lv_lstore hc.1 hc.2.1 hd (ev_ls_has hl) (Nat.lt_of_lt_of_le (by simp only [List.length_cons]; omega) hl.2.2.1) rfl (fun lsB hB => ?_)
  exact k p l e R s m args below meth c A H locs cells slots lsB Qf hc h1 h2 hw hS (ev_ls_st2 hl.2.2.1 (ev_hp (i := 4) (a := a4) rfl hp) hB) hr
theorem ev_iinc_5 {a0 a1 a2 a3 a4 : Option Value} {t : List (Option Value)} {x v : Int32} {n : Int} (hd : fe M pc (.iinc 5 n) 3 pc') (hv : x + Int32.ofInt n = v) (hp : ev_nl a4 = true) (k : Ev G M d kc ks Q pc' (a0 :: a1 :: a2 :: a3 :: a4 :: some (.int v) :: t) st h) : Ev G M d kc ks Q pc (a0 :: a1 :: a2 :: a3 :: a4 :: some (.int x) :: t) st h := by
  obtain ⟨hd, rfl⟩ := hd
  intro p l e R s m args below meth c A H locs cells slots lsA Qf hc h1 h2 hw hS hl hr
  obtain ⟨kk, hkk⟩ := List.getElem?_of_mem (ev_pr_mem.mpr (show (a0 :: a1 :: a2 :: a3 :: a4 :: some (.int x) :: t)[5]? = some (some (.int x)) from rfl))
  refine lv_iinc hc.1 hc.2.1 hd (ev_ls_has hl) hkk hv (Nat.lt_of_lt_of_le (by simp only [List.length_cons]; omega) hl.2.2.1) rfl (fun lsB hB => ?_)
  exact k p l e R s m args below meth c A H locs cells slots lsB Qf hc h1 h2 hw hS (ev_ls_st1 (L := 0) hl.2.2.1 (ev_hp (i := 4) (a := a4) rfl hp) hB) hr
theorem ev_iload_6 {a0 a1 a2 a3 a4 a5 : Option Value} {t : List (Option Value)} {x : Int32} (hd : fe M pc (.iload 6) 2 pc') (k : Ev G M d kc ks Q pc' (a0 :: a1 :: a2 :: a3 :: a4 :: a5 :: some (.int x) :: t) (.int x :: st) h) : Ev G M d kc ks Q pc (a0 :: a1 :: a2 :: a3 :: a4 :: a5 :: some (.int x) :: t) st h := by
  obtain ⟨hd, rfl⟩ := hd
  intro p l e R s m args below meth c A H locs cells slots lsA Qf hc h1 h2 hw hS hl hr
  exact lv_iload hc.1 hc.2.1 hd (hl.2.2.2 6 _ rfl) (k p l e R s m args below meth c A H locs cells slots lsA Qf hc h1 h2 hw hS hl hr)
theorem ev_lload_6 {a0 a1 a2 a3 a4 a5 : Option Value} {t : List (Option Value)} {x : Int64} (hd : fe M pc (.lload 6) 2 pc') (k : Ev G M d kc ks Q pc' (a0 :: a1 :: a2 :: a3 :: a4 :: a5 :: some (.long x) :: t) (.long x :: st) h) : Ev G M d kc ks Q pc (a0 :: a1 :: a2 :: a3 :: a4 :: a5 :: some (.long x) :: t) st h := by
  obtain ⟨hd, rfl⟩ := hd
  intro p l e R s m args below meth c A H locs cells slots lsA Qf hc h1 h2 hw hS hl hr
  exact lv_lload hc.1 hc.2.1 hd (hl.2.2.2 6 _ rfl) (k p l e R s m args below meth c A H locs cells slots lsA Qf hc h1 h2 hw hS hl hr)
theorem ev_aload_6 {a0 a1 a2 a3 a4 a5 : Option Value} {t : List (Option Value)} {x : Nat} (hd : fe M pc (.aload 6) 2 pc') (k : Ev G M d kc ks Q pc' (a0 :: a1 :: a2 :: a3 :: a4 :: a5 :: some (.ref x) :: t) (.ref x :: st) h) : Ev G M d kc ks Q pc (a0 :: a1 :: a2 :: a3 :: a4 :: a5 :: some (.ref x) :: t) st h := by
  obtain ⟨hd, rfl⟩ := hd
  intro p l e R s m args below meth c A H locs cells slots lsA Qf hc h1 h2 hw hS hl hr
  exact lv_aload hc.1 hc.2.1 hd (hl.2.2.2 6 _ rfl) (k p l e R s m args below meth c A H locs cells slots lsA Qf hc h1 h2 hw hS hl hr)
theorem ev_aloadN_6 {a0 a1 a2 a3 a4 a5 : Option Value} {t : List (Option Value)} (hd : fe M pc (.aload 6) 2 pc') (k : Ev G M d kc ks Q pc' (a0 :: a1 :: a2 :: a3 :: a4 :: a5 :: some .null :: t) (.null :: st) h) : Ev G M d kc ks Q pc (a0 :: a1 :: a2 :: a3 :: a4 :: a5 :: some .null :: t) st h := by
  obtain ⟨hd, rfl⟩ := hd
  intro p l e R s m args below meth c A H locs cells slots lsA Qf hc h1 h2 hw hS hl hr
  exact lv_aloadN hc.1 hc.2.1 hd (hl.2.2.2 6 _ rfl) (k p l e R s m args below meth c A H locs cells slots lsA Qf hc h1 h2 hw hS hl hr)
theorem ev_istore_6 {a0 a1 a2 a3 a4 a5 a6 : Option Value} {t : List (Option Value)} {x : Int32} (hd : fe M pc (.istore 6) 2 pc') (hp : ev_nl a5 = true) (k : Ev G M d kc ks Q pc' (a0 :: a1 :: a2 :: a3 :: a4 :: a5 :: some (.int x) :: t) st h) : Ev G M d kc ks Q pc (a0 :: a1 :: a2 :: a3 :: a4 :: a5 :: a6 :: t) (.int x :: st) h := by
  obtain ⟨hd, rfl⟩ := hd
  intro p l e R s m args below meth c A H locs cells slots lsA Qf hc h1 h2 hw hS hl hr
  refine lv_istore hc.1 hc.2.1 hd (ev_ls_has hl) (Nat.lt_of_lt_of_le (by simp only [List.length_cons]; omega) hl.2.2.1) rfl (fun lsB hB => ?_)
  exact k p l e R s m args below meth c A H locs cells slots lsB Qf hc h1 h2 hw hS (ev_ls_st1 (L := 0) hl.2.2.1 (ev_hp (i := 5) (a := a5) rfl hp) hB) hr
theorem ev_astore_6 {a0 a1 a2 a3 a4 a5 a6 : Option Value} {t : List (Option Value)} {x : Nat} (hd : fe M pc (.astore 6) 2 pc') (hp : ev_nl a5 = true) (k : Ev G M d kc ks Q pc' (a0 :: a1 :: a2 :: a3 :: a4 :: a5 :: some (.ref x) :: t) st h) : Ev G M d kc ks Q pc (a0 :: a1 :: a2 :: a3 :: a4 :: a5 :: a6 :: t) (.ref x :: st) h := by
  obtain ⟨hd, rfl⟩ := hd
  intro p l e R s m args below meth c A H locs cells slots lsA Qf hc h1 h2 hw hS hl hr
  refine lv_astore hc.1 hc.2.1 hd (ev_ls_has hl) (Nat.lt_of_lt_of_le (by simp only [List.length_cons]; omega) hl.2.2.1) rfl (fun lsB hB => ?_)
  exact k p l e R s m args below meth c A H locs cells slots lsB Qf hc h1 h2 hw hS (ev_ls_st1 (L := 0) hl.2.2.1 (ev_hp (i := 5) (a := a5) rfl hp) hB) hr
theorem ev_astoreN_6 {a0 a1 a2 a3 a4 a5 a6 : Option Value} {t : List (Option Value)}  (hd : fe M pc (.astore 6) 2 pc') (hp : ev_nl a5 = true) (k : Ev G M d kc ks Q pc' (a0 :: a1 :: a2 :: a3 :: a4 :: a5 :: some (.null) :: t) st h) : Ev G M d kc ks Q pc (a0 :: a1 :: a2 :: a3 :: a4 :: a5 :: a6 :: t) (.null :: st) h := by
  obtain ⟨hd, rfl⟩ := hd
  intro p l e R s m args below meth c A H locs cells slots lsA Qf hc h1 h2 hw hS hl hr
  refine lv_astoreN hc.1 hc.2.1 hd (ev_ls_has hl) (Nat.lt_of_lt_of_le (by simp only [List.length_cons]; omega) hl.2.2.1) rfl (fun lsB hB => ?_)
  exact k p l e R s m args below meth c A H locs cells slots lsB Qf hc h1 h2 hw hS (ev_ls_st1 (L := 0) hl.2.2.1 (ev_hp (i := 5) (a := a5) rfl hp) hB) hr
theorem ev_lstore_6 {a0 a1 a2 a3 a4 a5 a6 a7 : Option Value} {t : List (Option Value)} {x : Int64} (hd : fe M pc (.lstore 6) 2 pc') (hp : ev_nl a5 = true) (k : Ev G M d kc ks Q pc' (a0 :: a1 :: a2 :: a3 :: a4 :: a5 :: some (.long x) :: none :: t) st h) : Ev G M d kc ks Q pc (a0 :: a1 :: a2 :: a3 :: a4 :: a5 :: a6 :: a7 :: t) (.long x :: st) h := by
  obtain ⟨hd, rfl⟩ := hd
  intro p l e R s m args below meth c A H locs cells slots lsA Qf hc h1 h2 hw hS hl hr
  refine lv_lstore hc.1 hc.2.1 hd (ev_ls_has hl) (Nat.lt_of_lt_of_le (by simp only [List.length_cons]; omega) hl.2.2.1) rfl (fun lsB hB => ?_)
  exact k p l e R s m args below meth c A H locs cells slots lsB Qf hc h1 h2 hw hS (ev_ls_st2 hl.2.2.1 (ev_hp (i := 5) (a := a5) rfl hp) hB) hr
theorem ev_iinc_6 {a0 a1 a2 a3 a4 a5 : Option Value} {t : List (Option Value)} {x v : Int32} {n : Int} (hd : fe M pc (.iinc 6 n) 3 pc') (hv : x + Int32.ofInt n = v) (hp : ev_nl a5 = true) (k : Ev G M d kc ks Q pc' (a0 :: a1 :: a2 :: a3 :: a4 :: a5 :: some (.int v) :: t) st h) : Ev G M d kc ks Q pc (a0 :: a1 :: a2 :: a3 :: a4 :: a5 :: some (.int x) :: t) st h := by
  obtain ⟨hd, rfl⟩ := hd
  intro p l e R s m args below meth c A H locs cells slots lsA Qf hc h1 h2 hw hS hl hr
  obtain ⟨kk, hkk⟩ := List.getElem?_of_mem (ev_pr_mem.mpr (show (a0 :: a1 :: a2 :: a3 :: a4 :: a5 :: some (.int x) :: t)[6]? = some (some (.int x)) from rfl))
  refine lv_iinc hc.1 hc.2.1 hd (ev_ls_has hl) hkk hv (Nat.lt_of_lt_of_le (by simp only [List.length_cons]; omega) hl.2.2.1) rfl (fun lsB hB => ?_)
  exact k p l e R s m args below meth c A H locs cells slots lsB Qf hc h1 h2 hw hS (ev_ls_st1 (L := 0) hl.2.2.1 (ev_hp (i := 5) (a := a5) rfl hp) hB) hr
theorem ev_iload_7 {a0 a1 a2 a3 a4 a5 a6 : Option Value} {t : List (Option Value)} {x : Int32} (hd : fe M pc (.iload 7) 2 pc') (k : Ev G M d kc ks Q pc' (a0 :: a1 :: a2 :: a3 :: a4 :: a5 :: a6 :: some (.int x) :: t) (.int x :: st) h) : Ev G M d kc ks Q pc (a0 :: a1 :: a2 :: a3 :: a4 :: a5 :: a6 :: some (.int x) :: t) st h := by
  obtain ⟨hd, rfl⟩ := hd
  intro p l e R s m args below meth c A H locs cells slots lsA Qf hc h1 h2 hw hS hl hr
  exact lv_iload hc.1 hc.2.1 hd (hl.2.2.2 7 _ rfl) (k p l e R s m args below meth c A H locs cells slots lsA Qf hc h1 h2 hw hS hl hr)
theorem ev_lload_7 {a0 a1 a2 a3 a4 a5 a6 : Option Value} {t : List (Option Value)} {x : Int64} (hd : fe M pc (.lload 7) 2 pc') (k : Ev G M d kc ks Q pc' (a0 :: a1 :: a2 :: a3 :: a4 :: a5 :: a6 :: some (.long x) :: t) (.long x :: st) h) : Ev G M d kc ks Q pc (a0 :: a1 :: a2 :: a3 :: a4 :: a5 :: a6 :: some (.long x) :: t) st h := by
  obtain ⟨hd, rfl⟩ := hd
  intro p l e R s m args below meth c A H locs cells slots lsA Qf hc h1 h2 hw hS hl hr
  exact lv_lload hc.1 hc.2.1 hd (hl.2.2.2 7 _ rfl) (k p l e R s m args below meth c A H locs cells slots lsA Qf hc h1 h2 hw hS hl hr)
theorem ev_aload_7 {a0 a1 a2 a3 a4 a5 a6 : Option Value} {t : List (Option Value)} {x : Nat} (hd : fe M pc (.aload 7) 2 pc') (k : Ev G M d kc ks Q pc' (a0 :: a1 :: a2 :: a3 :: a4 :: a5 :: a6 :: some (.ref x) :: t) (.ref x :: st) h) : Ev G M d kc ks Q pc (a0 :: a1 :: a2 :: a3 :: a4 :: a5 :: a6 :: some (.ref x) :: t) st h := by
  obtain ⟨hd, rfl⟩ := hd
  intro p l e R s m args below meth c A H locs cells slots lsA Qf hc h1 h2 hw hS hl hr
  exact lv_aload hc.1 hc.2.1 hd (hl.2.2.2 7 _ rfl) (k p l e R s m args below meth c A H locs cells slots lsA Qf hc h1 h2 hw hS hl hr)
theorem ev_aloadN_7 {a0 a1 a2 a3 a4 a5 a6 : Option Value} {t : List (Option Value)} (hd : fe M pc (.aload 7) 2 pc') (k : Ev G M d kc ks Q pc' (a0 :: a1 :: a2 :: a3 :: a4 :: a5 :: a6 :: some .null :: t) (.null :: st) h) : Ev G M d kc ks Q pc (a0 :: a1 :: a2 :: a3 :: a4 :: a5 :: a6 :: some .null :: t) st h := by
  obtain ⟨hd, rfl⟩ := hd
  intro p l e R s m args below meth c A H locs cells slots lsA Qf hc h1 h2 hw hS hl hr
  exact lv_aloadN hc.1 hc.2.1 hd (hl.2.2.2 7 _ rfl) (k p l e R s m args below meth c A H locs cells slots lsA Qf hc h1 h2 hw hS hl hr)
theorem ev_istore_7 {a0 a1 a2 a3 a4 a5 a6 a7 : Option Value} {t : List (Option Value)} {x : Int32} (hd : fe M pc (.istore 7) 2 pc') (hp : ev_nl a6 = true) (k : Ev G M d kc ks Q pc' (a0 :: a1 :: a2 :: a3 :: a4 :: a5 :: a6 :: some (.int x) :: t) st h) : Ev G M d kc ks Q pc (a0 :: a1 :: a2 :: a3 :: a4 :: a5 :: a6 :: a7 :: t) (.int x :: st) h := by
  obtain ⟨hd, rfl⟩ := hd
  intro p l e R s m args below meth c A H locs cells slots lsA Qf hc h1 h2 hw hS hl hr
  refine lv_istore hc.1 hc.2.1 hd (ev_ls_has hl) (Nat.lt_of_lt_of_le (by simp only [List.length_cons]; omega) hl.2.2.1) rfl (fun lsB hB => ?_)
  exact k p l e R s m args below meth c A H locs cells slots lsB Qf hc h1 h2 hw hS (ev_ls_st1 (L := 0) hl.2.2.1 (ev_hp (i := 6) (a := a6) rfl hp) hB) hr
theorem ev_astore_7 {a0 a1 a2 a3 a4 a5 a6 a7 : Option Value} {t : List (Option Value)} {x : Nat} (hd : fe M pc (.astore 7) 2 pc') (hp : ev_nl a6 = true) (k : Ev G M d kc ks Q pc' (a0 :: a1 :: a2 :: a3 :: a4 :: a5 :: a6 :: some (.ref x) :: t) st h) : Ev G M d kc ks Q pc (a0 :: a1 :: a2 :: a3 :: a4 :: a5 :: a6 :: a7 :: t) (.ref x :: st) h := by
  obtain ⟨hd, rfl⟩ := hd
  intro p l e R s m args below meth c A H locs cells slots lsA Qf hc h1 h2 hw hS hl hr
  refine lv_astore hc.1 hc.2.1 hd (ev_ls_has hl) (Nat.lt_of_lt_of_le (by simp only [List.length_cons]; omega) hl.2.2.1) rfl (fun lsB hB => ?_)
  exact k p l e R s m args below meth c A H locs cells slots lsB Qf hc h1 h2 hw hS (ev_ls_st1 (L := 0) hl.2.2.1 (ev_hp (i := 6) (a := a6) rfl hp) hB) hr
theorem ev_astoreN_7 {a0 a1 a2 a3 a4 a5 a6 a7 : Option Value} {t : List (Option Value)}  (hd : fe M pc (.astore 7) 2 pc') (hp : ev_nl a6 = true) (k : Ev G M d kc ks Q pc' (a0 :: a1 :: a2 :: a3 :: a4 :: a5 :: a6 :: some (.null) :: t) st h) : Ev G M d kc ks Q pc (a0 :: a1 :: a2 :: a3 :: a4 :: a5 :: a6 :: a7 :: t) (.null :: st) h := by
  obtain ⟨hd, rfl⟩ := hd
  intro p l e R s m args below meth c A H locs cells slots lsA Qf hc h1 h2 hw hS hl hr
  refine lv_astoreN hc.1 hc.2.1 hd (ev_ls_has hl) (Nat.lt_of_lt_of_le (by simp only [List.length_cons]; omega) hl.2.2.1) rfl (fun lsB hB => ?_)
  exact k p l e R s m args below meth c A H locs cells slots lsB Qf hc h1 h2 hw hS (ev_ls_st1 (L := 0) hl.2.2.1 (ev_hp (i := 6) (a := a6) rfl hp) hB) hr
theorem ev_lstore_7 {a0 a1 a2 a3 a4 a5 a6 a7 a8 : Option Value} {t : List (Option Value)} {x : Int64} (hd : fe M pc (.lstore 7) 2 pc') (hp : ev_nl a6 = true) (k : Ev G M d kc ks Q pc' (a0 :: a1 :: a2 :: a3 :: a4 :: a5 :: a6 :: some (.long x) :: none :: t) st h) : Ev G M d kc ks Q pc (a0 :: a1 :: a2 :: a3 :: a4 :: a5 :: a6 :: a7 :: a8 :: t) (.long x :: st) h := by
  obtain ⟨hd, rfl⟩ := hd
  intro p l e R s m args below meth c A H locs cells slots lsA Qf hc h1 h2 hw hS hl hr
  refine lv_lstore hc.1 hc.2.1 hd (ev_ls_has hl) (Nat.lt_of_lt_of_le (by simp only [List.length_cons]; omega) hl.2.2.1) rfl (fun lsB hB => ?_)
  exact k p l e R s m args below meth c A H locs cells slots lsB Qf hc h1 h2 hw hS (ev_ls_st2 hl.2.2.1 (ev_hp (i := 6) (a := a6) rfl hp) hB) hr
theorem ev_iinc_7 {a0 a1 a2 a3 a4 a5 a6 : Option Value} {t : List (Option Value)} {x v : Int32} {n : Int} (hd : fe M pc (.iinc 7 n) 3 pc') (hv : x + Int32.ofInt n = v) (hp : ev_nl a6 = true) (k : Ev G M d kc ks Q pc' (a0 :: a1 :: a2 :: a3 :: a4 :: a5 :: a6 :: some (.int v) :: t) st h) : Ev G M d kc ks Q pc (a0 :: a1 :: a2 :: a3 :: a4 :: a5 :: a6 :: some (.int x) :: t) st h := by
  obtain ⟨hd, rfl⟩ := hd
  intro p l e R s m args below meth c A H locs cells slots lsA Qf hc h1 h2 hw hS hl hr
  obtain ⟨kk, hkk⟩ := List.getElem?_of_mem (ev_pr_mem.mpr (show (a0 :: a1 :: a2 :: a3 :: a4 :: a5 :: a6 :: some (.int x) :: t)[7]? = some (some (.int x)) from rfl))
  refine lv_iinc hc.1 hc.2.1 hd (ev_ls_has hl) hkk hv (Nat.lt_of_lt_of_le (by simp only [List.length_cons]; omega) hl.2.2.1) rfl (fun lsB hB => ?_)
  exact k p l e R s m args below meth c A H locs cells slots lsB Qf hc h1 h2 hw hS (ev_ls_st1 (L := 0) hl.2.2.1 (ev_hp (i := 6) (a := a6) rfl hp) hB) hr
theorem ev_iload_8 {a0 a1 a2 a3 a4 a5 a6 a7 : Option Value} {t : List (Option Value)} {x : Int32} (hd : fe M pc (.iload 8) 2 pc') (k : Ev G M d kc ks Q pc' (a0 :: a1 :: a2 :: a3 :: a4 :: a5 :: a6 :: a7 :: some (.int x) :: t) (.int x :: st) h) : Ev G M d kc ks Q pc (a0 :: a1 :: a2 :: a3 :: a4 :: a5 :: a6 :: a7 :: some (.int x) :: t) st h := by
  obtain ⟨hd, rfl⟩ := hd
  intro p l e R s m args below meth c A H locs cells slots lsA Qf hc h1 h2 hw hS hl hr
  exact lv_iload hc.1 hc.2.1 hd (hl.2.2.2 8 _ rfl) (k p l e R s m args below meth c A H locs cells slots lsA Qf hc h1 h2 hw hS hl hr)
theorem ev_lload_8 {a0 a1 a2 a3 a4 a5 a6 a7 : Option Value} {t : List (Option Value)} {x : Int64} (hd : fe M pc (.lload 8) 2 pc') (k : Ev G M d kc ks Q pc' (a0 :: a1 :: a2 :: a3 :: a4 :: a5 :: a6 :: a7 :: some (.long x) :: t) (.long x :: st) h) : Ev G M d kc ks Q pc (a0 :: a1 :: a2 :: a3 :: a4 :: a5 :: a6 :: a7 :: some (.long x) :: t) st h := by
  obtain ⟨hd, rfl⟩ := hd
  intro p l e R s m args below meth c A H locs cells slots lsA Qf hc h1 h2 hw hS hl hr
  exact lv_lload hc.1 hc.2.1 hd (hl.2.2.2 8 _ rfl) (k p l e R s m args below meth c A H locs cells slots lsA Qf hc h1 h2 hw hS hl hr)
theorem ev_aload_8 {a0 a1 a2 a3 a4 a5 a6 a7 : Option Value} {t : List (Option Value)} {x : Nat} (hd : fe M pc (.aload 8) 2 pc') (k : Ev G M d kc ks Q pc' (a0 :: a1 :: a2 :: a3 :: a4 :: a5 :: a6 :: a7 :: some (.ref x) :: t) (.ref x :: st) h) : Ev G M d kc ks Q pc (a0 :: a1 :: a2 :: a3 :: a4 :: a5 :: a6 :: a7 :: some (.ref x) :: t) st h := by
  obtain ⟨hd, rfl⟩ := hd
  intro p l e R s m args below meth c A H locs cells slots lsA Qf hc h1 h2 hw hS hl hr
  exact lv_aload hc.1 hc.2.1 hd (hl.2.2.2 8 _ rfl) (k p l e R s m args below meth c A H locs cells slots lsA Qf hc h1 h2 hw hS hl hr)
theorem ev_aloadN_8 {a0 a1 a2 a3 a4 a5 a6 a7 : Option Value} {t : List (Option Value)} (hd : fe M pc (.aload 8) 2 pc') (k : Ev G M d kc ks Q pc' (a0 :: a1 :: a2 :: a3 :: a4 :: a5 :: a6 :: a7 :: some .null :: t) (.null :: st) h) : Ev G M d kc ks Q pc (a0 :: a1 :: a2 :: a3 :: a4 :: a5 :: a6 :: a7 :: some .null :: t) st h := by
  obtain ⟨hd, rfl⟩ := hd
  intro p l e R s m args below meth c A H locs cells slots lsA Qf hc h1 h2 hw hS hl hr
  exact lv_aloadN hc.1 hc.2.1 hd (hl.2.2.2 8 _ rfl) (k p l e R s m args below meth c A H locs cells slots lsA Qf hc h1 h2 hw hS hl hr)
theorem ev_istore_8 {a0 a1 a2 a3 a4 a5 a6 a7 a8 : Option Value} {t : List (Option Value)} {x : Int32} (hd : fe M pc (.istore 8) 2 pc') (hp : ev_nl a7 = true) (k : Ev G M d kc ks Q pc' (a0 :: a1 :: a2 :: a3 :: a4 :: a5 :: a6 :: a7 :: some (.int x) :: t) st h) : Ev G M d kc ks Q pc (a0 :: a1 :: a2 :: a3 :: a4 :: a5 :: a6 :: a7 :: a8 :: t) (.int x :: st) h := by
  obtain ⟨hd, rfl⟩ := hd
  intro p l e R s m args below meth c A H locs cells slots lsA Qf hc h1 h2 hw hS hl hr
  refine lv_istore hc.1 hc.2.1 hd (ev_ls_has hl) (Nat.lt_of_lt_of_le (by simp only [List.length_cons]; omega) hl.2.2.1) rfl (fun lsB hB => ?_)
  exact k p l e R s m args below meth c A H locs cells slots lsB Qf hc h1 h2 hw hS (ev_ls_st1 (L := 0) hl.2.2.1 (ev_hp (i := 7) (a := a7) rfl hp) hB) hr
theorem ev_astore_8 {a0 a1 a2 a3 a4 a5 a6 a7 a8 : Option Value} {t : List (Option Value)} {x : Nat} (hd : fe M pc (.astore 8) 2 pc') (hp : ev_nl a7 = true) (k : Ev G M d kc ks Q pc' (a0 :: a1 :: a2 :: a3 :: a4 :: a5 :: a6 :: a7 :: some (.ref x) :: t) st h) : Ev G M d kc ks Q pc (a0 :: a1 :: a2 :: a3 :: a4 :: a5 :: a6 :: a7 :: a8 :: t) (.ref x :: st) h := by
  obtain ⟨hd, rfl⟩ := hd
  intro p l e R s m args below meth c A H locs cells slots lsA Qf hc h1 h2 hw hS hl hr
  refine lv_astore hc.1 hc.2.1 hd (ev_ls_has hl) (Nat.lt_of_lt_of_le (by simp only [List.length_cons]; omega) hl.2.2.1) rfl (fun lsB hB => ?_)
  exact k p l e R s m args below meth c A H locs cells slots lsB Qf hc h1 h2 hw hS (ev_ls_st1 (L := 0) hl.2.2.1 (ev_hp (i := 7) (a := a7) rfl hp) hB) hr
theorem ev_astoreN_8 {a0 a1 a2 a3 a4 a5 a6 a7 a8 : Option Value} {t : List (Option Value)}  (hd : fe M pc (.astore 8) 2 pc') (hp : ev_nl a7 = true) (k : Ev G M d kc ks Q pc' (a0 :: a1 :: a2 :: a3 :: a4 :: a5 :: a6 :: a7 :: some (.null) :: t) st h) : Ev G M d kc ks Q pc (a0 :: a1 :: a2 :: a3 :: a4 :: a5 :: a6 :: a7 :: a8 :: t) (.null :: st) h := by
  obtain ⟨hd, rfl⟩ := hd
  intro p l e R s m args below meth c A H locs cells slots lsA Qf hc h1 h2 hw hS hl hr
  refine lv_astoreN hc.1 hc.2.1 hd (ev_ls_has hl) (Nat.lt_of_lt_of_le (by simp only [List.length_cons]; omega) hl.2.2.1) rfl (fun lsB hB => ?_)
  exact k p l e R s m args below meth c A H locs cells slots lsB Qf hc h1 h2 hw hS (ev_ls_st1 (L := 0) hl.2.2.1 (ev_hp (i := 7) (a := a7) rfl hp) hB) hr
theorem ev_lstore_8 {a0 a1 a2 a3 a4 a5 a6 a7 a8 a9 : Option Value} {t : List (Option Value)} {x : Int64} (hd : fe M pc (.lstore 8) 2 pc') (hp : ev_nl a7 = true) (k : Ev G M d kc ks Q pc' (a0 :: a1 :: a2 :: a3 :: a4 :: a5 :: a6 :: a7 :: some (.long x) :: none :: t) st h) : Ev G M d kc ks Q pc (a0 :: a1 :: a2 :: a3 :: a4 :: a5 :: a6 :: a7 :: a8 :: a9 :: t) (.long x :: st) h := by
  obtain ⟨hd, rfl⟩ := hd
  intro p l e R s m args below meth c A H locs cells slots lsA Qf hc h1 h2 hw hS hl hr
  refine lv_lstore hc.1 hc.2.1 hd (ev_ls_has hl) (Nat.lt_of_lt_of_le (by simp only [List.length_cons]; omega) hl.2.2.1) rfl (fun lsB hB => ?_)
  exact k p l e R s m args below meth c A H locs cells slots lsB Qf hc h1 h2 hw hS (ev_ls_st2 hl.2.2.1 (ev_hp (i := 7) (a := a7) rfl hp) hB) hr
theorem ev_iinc_8 {a0 a1 a2 a3 a4 a5 a6 a7 : Option Value} {t : List (Option Value)} {x v : Int32} {n : Int} (hd : fe M pc (.iinc 8 n) 3 pc') (hv : x + Int32.ofInt n = v) (hp : ev_nl a7 = true) (k : Ev G M d kc ks Q pc' (a0 :: a1 :: a2 :: a3 :: a4 :: a5 :: a6 :: a7 :: some (.int v) :: t) st h) : Ev G M d kc ks Q pc (a0 :: a1 :: a2 :: a3 :: a4 :: a5 :: a6 :: a7 :: some (.int x) :: t) st h := by
  obtain ⟨hd, rfl⟩ := hd
  intro p l e R s m args below meth c A H locs cells slots lsA Qf hc h1 h2 hw hS hl hr
  obtain ⟨kk, hkk⟩ := List.getElem?_of_mem (ev_pr_mem.mpr (show (a0 :: a1 :: a2 :: a3 :: a4 :: a5 :: a6 :: a7 :: some (.int x) :: t)[8]? = some (some (.int x)) from rfl))
  refine lv_iinc hc.1 hc.2.1 hd (ev_ls_has hl) hkk hv (Nat.lt_of_lt_of_le (by simp only [List.length_cons]; omega) hl.2.2.1) rfl (fun lsB hB => ?_)
  exact k p l e R s m args below meth c A H locs cells slots lsB Qf hc h1 h2 hw hS (ev_ls_st1 (L := 0) hl.2.2.1 (ev_hp (i := 7) (a := a7) rfl hp) hB) hr
theorem ev_iload_9 {a0 a1 a2 a3 a4 a5 a6 a7 a8 : Option Value} {t : List (Option Value)} {x : Int32} (hd : fe M pc (.iload 9) 2 pc') (k : Ev G M d kc ks Q pc' (a0 :: a1 :: a2 :: a3 :: a4 :: a5 :: a6 :: a7 :: a8 :: some (.int x) :: t) (.int x :: st) h) : Ev G M d kc ks Q pc (a0 :: a1 :: a2 :: a3 :: a4 :: a5 :: a6 :: a7 :: a8 :: some (.int x) :: t) st h := by
  obtain ⟨hd, rfl⟩ := hd
  intro p l e R s m args below meth c A H locs cells slots lsA Qf hc h1 h2 hw hS hl hr
  exact lv_iload hc.1 hc.2.1 hd (hl.2.2.2 9 _ rfl) (k p l e R s m args below meth c A H locs cells slots lsA Qf hc h1 h2 hw hS hl hr)
theorem ev_lload_9 {a0 a1 a2 a3 a4 a5 a6 a7 a8 : Option Value} {t : List (Option Value)} {x : Int64} (hd : fe M pc (.lload 9) 2 pc') (k : Ev G M d kc ks Q pc' (a0 :: a1 :: a2 :: a3 :: a4 :: a5 :: a6 :: a7 :: a8 :: some (.long x) :: t) (.long x :: st) h) : Ev G M d kc ks Q pc (a0 :: a1 :: a2 :: a3 :: a4 :: a5 :: a6 :: a7 :: a8 :: some (.long x) :: t) st h := by
  obtain ⟨hd, rfl⟩ := hd
  intro p l e R s m args below meth c A H locs cells slots lsA Qf hc h1 h2 hw hS hl hr
  exact lv_lload hc.1 hc.2.1 hd (hl.2.2.2 9 _ rfl) (k p l e R s m args below meth c A H locs cells slots lsA Qf hc h1 h2 hw hS hl hr)
theorem ev_aload_9 {a0 a1 a2 a3 a4 a5 a6 a7 a8 : Option Value} {t : List (Option Value)} {x : Nat} (hd : fe M pc (.aload 9) 2 pc') (k : Ev G M d kc ks Q pc' (a0 :: a1 :: a2 :: a3 :: a4 :: a5 :: a6 :: a7 :: a8 :: some (.ref x) :: t) (.ref x :: st) h) : Ev G M d kc ks Q pc (a0 :: a1 :: a2 :: a3 :: a4 :: a5 :: a6 :: a7 :: a8 :: some (.ref x) :: t) st h := by
  obtain ⟨hd, rfl⟩ := hd
  intro p l e R s m args below meth c A H locs cells slots lsA Qf hc h1 h2 hw hS hl hr
  exact lv_aload hc.1 hc.2.1 hd (hl.2.2.2 9 _ rfl) (k p l e R s m args below meth c A H locs cells slots lsA Qf hc h1 h2 hw hS hl hr)
theorem ev_aloadN_9 {a0 a1 a2 a3 a4 a5 a6 a7 a8 : Option Value} {t : List (Option Value)} (hd : fe M pc (.aload 9) 2 pc') (k : Ev G M d kc ks Q pc' (a0 :: a1 :: a2 :: a3 :: a4 :: a5 :: a6 :: a7 :: a8 :: some .null :: t) (.null :: st) h) : Ev G M d kc ks Q pc (a0 :: a1 :: a2 :: a3 :: a4 :: a5 :: a6 :: a7 :: a8 :: some .null :: t) st h := by
  obtain ⟨hd, rfl⟩ := hd
  intro p l e R s m args below meth c A H locs cells slots lsA Qf hc h1 h2 hw hS hl hr
  exact lv_aloadN hc.1 hc.2.1 hd (hl.2.2.2 9 _ rfl) (k p l e R s m args below meth c A H locs cells slots lsA Qf hc h1 h2 hw hS hl hr)
theorem ev_istore_9 {a0 a1 a2 a3 a4 a5 a6 a7 a8 a9 : Option Value} {t : List (Option Value)} {x : Int32} (hd : fe M pc (.istore 9) 2 pc') (hp : ev_nl a8 = true) (k : Ev G M d kc ks Q pc' (a0 :: a1 :: a2 :: a3 :: a4 :: a5 :: a6 :: a7 :: a8 :: some (.int x) :: t) st h) : Ev G M d kc ks Q pc (a0 :: a1 :: a2 :: a3 :: a4 :: a5 :: a6 :: a7 :: a8 :: a9 :: t) (.int x :: st) h := by
  obtain ⟨hd, rfl⟩ := hd
  intro p l e R s m args below meth c A H locs cells slots lsA Qf hc h1 h2 hw hS hl hr
  refine lv_istore hc.1 hc.2.1 hd (ev_ls_has hl) (Nat.lt_of_lt_of_le (by simp only [List.length_cons]; omega) hl.2.2.1) rfl (fun lsB hB => ?_)
  exact k p l e R s m args below meth c A H locs cells slots lsB Qf hc h1 h2 hw hS (ev_ls_st1 (L := 0) hl.2.2.1 (ev_hp (i := 8) (a := a8) rfl hp) hB) hr
theorem ev_astore_9 {a0 a1 a2 a3 a4 a5 a6 a7 a8 a9 : Option Value} {t : List (Option Value)} {x : Nat} (hd : fe M pc (.astore 9) 2 pc') (hp : ev_nl a8 = true) (k : Ev G M d kc ks Q pc' (a0 :: a1 :: a2 :: a3 :: a4 :: a5 :: a6 :: a7 :: a8 :: some (.ref x) :: t) st h) : Ev G M d kc ks Q pc (a0 :: a1 :: a2 :: a3 :: a4 :: a5 :: a6 :: a7 :: a8 :: a9 :: t) (.ref x :: st) h := by
  obtain ⟨hd, rfl⟩ := hd
  intro p l e R s m args below meth c A H locs cells slots lsA Qf hc h1 h2 hw hS hl hr
  refine lv_astore hc.1 hc.2.1 hd (ev_ls_has hl) (Nat.lt_of_lt_of_le (by simp only [List.length_cons]; omega) hl.2.2.1) rfl (fun lsB hB => ?_)
  exact k p l e R s m args below meth c A H locs cells slots lsB Qf hc h1 h2 hw hS (ev_ls_st1 (L := 0) hl.2.2.1 (ev_hp (i := 8) (a := a8) rfl hp) hB) hr
theorem ev_astoreN_9 {a0 a1 a2 a3 a4 a5 a6 a7 a8 a9 : Option Value} {t : List (Option Value)}  (hd : fe M pc (.astore 9) 2 pc') (hp : ev_nl a8 = true) (k : Ev G M d kc ks Q pc' (a0 :: a1 :: a2 :: a3 :: a4 :: a5 :: a6 :: a7 :: a8 :: some (.null) :: t) st h) : Ev G M d kc ks Q pc (a0 :: a1 :: a2 :: a3 :: a4 :: a5 :: a6 :: a7 :: a8 :: a9 :: t) (.null :: st) h := by
  obtain ⟨hd, rfl⟩ := hd
  intro p l e R s m args below meth c A H locs cells slots lsA Qf hc h1 h2 hw hS hl hr
  refine lv_astoreN hc.1 hc.2.1 hd (ev_ls_has hl) (Nat.lt_of_lt_of_le (by simp only [List.length_cons]; omega) hl.2.2.1) rfl (fun lsB hB => ?_)
  exact k p l e R s m args below meth c A H locs cells slots lsB Qf hc h1 h2 hw hS (ev_ls_st1 (L := 0) hl.2.2.1 (ev_hp (i := 8) (a := a8) rfl hp) hB) hr
theorem ev_lstore_9 {a0 a1 a2 a3 a4 a5 a6 a7 a8 a9 a10 : Option Value} {t : List (Option Value)} {x : Int64} (hd : fe M pc (.lstore 9) 2 pc') (hp : ev_nl a8 = true) (k : Ev G M d kc ks Q pc' (a0 :: a1 :: a2 :: a3 :: a4 :: a5 :: a6 :: a7 :: a8 :: some (.long x) :: none :: t) st h) : Ev G M d kc ks Q pc (a0 :: a1 :: a2 :: a3 :: a4 :: a5 :: a6 :: a7 :: a8 :: a9 :: a10 :: t) (.long x :: st) h := by
  obtain ⟨hd, rfl⟩ := hd
  intro p l e R s m args below meth c A H locs cells slots lsA Qf hc h1 h2 hw hS hl hr
  refine lv_lstore hc.1 hc.2.1 hd (ev_ls_has hl) (Nat.lt_of_lt_of_le (by simp only [List.length_cons]; omega) hl.2.2.1) rfl (fun lsB hB => ?_)
  exact k p l e R s m args below meth c A H locs cells slots lsB Qf hc h1 h2 hw hS (ev_ls_st2 hl.2.2.1 (ev_hp (i := 8) (a := a8) rfl hp) hB) hr
theorem ev_iinc_9 {a0 a1 a2 a3 a4 a5 a6 a7 a8 : Option Value} {t : List (Option Value)} {x v : Int32} {n : Int} (hd : fe M pc (.iinc 9 n) 3 pc') (hv : x + Int32.ofInt n = v) (hp : ev_nl a8 = true) (k : Ev G M d kc ks Q pc' (a0 :: a1 :: a2 :: a3 :: a4 :: a5 :: a6 :: a7 :: a8 :: some (.int v) :: t) st h) : Ev G M d kc ks Q pc (a0 :: a1 :: a2 :: a3 :: a4 :: a5 :: a6 :: a7 :: a8 :: some (.int x) :: t) st h := by
  obtain ⟨hd, rfl⟩ := hd
  intro p l e R s m args below meth c A H locs cells slots lsA Qf hc h1 h2 hw hS hl hr
  obtain ⟨kk, hkk⟩ := List.getElem?_of_mem (ev_pr_mem.mpr (show (a0 :: a1 :: a2 :: a3 :: a4 :: a5 :: a6 :: a7 :: a8 :: some (.int x) :: t)[9]? = some (some (.int x)) from rfl))
  refine lv_iinc hc.1 hc.2.1 hd (ev_ls_has hl) hkk hv (Nat.lt_of_lt_of_le (by simp only [List.length_cons]; omega) hl.2.2.1) rfl (fun lsB hB => ?_)
  exact k p l e R s m args below meth c A H locs cells slots lsB Qf hc h1 h2 hw hS (ev_ls_st1 (L := 0) hl.2.2.1 (ev_hp (i := 8) (a := a8) rfl hp) hB) hr
theorem ev_iload_10 {a0 a1 a2 a3 a4 a5 a6 a7 a8 a9 : Option Value} {t : List (Option Value)} {x : Int32} (hd : fe M pc (.iload 10) 2 pc') (k : Ev G M d kc ks Q pc' (a0 :: a1 :: a2 :: a3 :: a4 :: a5 :: a6 :: a7 :: a8 :: a9 :: some (.int x) :: t) (.int x :: st) h) : Ev G M d kc ks Q pc (a0 :: a1 :: a2 :: a3 :: a4 :: a5 :: a6 :: a7 :: a8 :: a9 :: some (.int x) :: t) st h := by
  obtain ⟨hd, rfl⟩ := hd
  intro p l e R s m args below meth c A H locs cells slots lsA Qf hc h1 h2 hw hS hl hr
  exact lv_iload hc.1 hc.2.1 hd (hl.2.2.2 10 _ rfl) (k p l e R s m args below meth c A H locs cells slots lsA Qf hc h1 h2 hw hS hl hr)
theorem ev_lload_10 {a0 a1 a2 a3 a4 a5 a6 a7 a8 a9 : Option Value} {t : List (Option Value)} {x : Int64} (hd : fe M pc (.lload 10) 2 pc') (k : Ev G M d kc ks Q pc' (a0 :: a1 :: a2 :: a3 :: a4 :: a5 :: a6 :: a7 :: a8 :: a9 :: some (.long x) :: t) (.long x :: st) h) : Ev G M d kc ks Q pc (a0 :: a1 :: a2 :: a3 :: a4 :: a5 :: a6 :: a7 :: a8 :: a9 :: some (.long x) :: t) st h := by
  obtain ⟨hd, rfl⟩ := hd
  intro p l e R s m args below meth c A H locs cells slots lsA Qf hc h1 h2 hw hS hl hr
  exact lv_lload hc.1 hc.2.1 hd (hl.2.2.2 10 _ rfl) (k p l e R s m args below meth c A H locs cells slots lsA Qf hc h1 h2 hw hS hl hr)
theorem ev_aload_10 {a0 a1 a2 a3 a4 a5 a6 a7 a8 a9 : Option Value} {t : List (Option Value)} {x : Nat} (hd : fe M pc (.aload 10) 2 pc') (k : Ev G M d kc ks Q pc' (a0 :: a1 :: a2 :: a3 :: a4 :: a5 :: a6 :: a7 :: a8 :: a9 :: some (.ref x) :: t) (.ref x :: st) h) : Ev G M d kc ks Q pc (a0 :: a1 :: a2 :: a3 :: a4 :: a5 :: a6 :: a7 :: a8 :: a9 :: some (.ref x) :: t) st h := by
  obtain ⟨hd, rfl⟩ := hd
  intro p l e R s m args below meth c A H locs cells slots lsA Qf hc h1 h2 hw hS hl hr
  exact lv_aload hc.1 hc.2.1 hd (hl.2.2.2 10 _ rfl) (k p l e R s m args below meth c A H locs cells slots lsA Qf hc h1 h2 hw hS hl hr)
theorem ev_aloadN_10 {a0 a1 a2 a3 a4 a5 a6 a7 a8 a9 : Option Value} {t : List (Option Value)} (hd : fe M pc (.aload 10) 2 pc') (k : Ev G M d kc ks Q pc' (a0 :: a1 :: a2 :: a3 :: a4 :: a5 :: a6 :: a7 :: a8 :: a9 :: some .null :: t) (.null :: st) h) : Ev G M d kc ks Q pc (a0 :: a1 :: a2 :: a3 :: a4 :: a5 :: a6 :: a7 :: a8 :: a9 :: some .null :: t) st h := by
  obtain ⟨hd, rfl⟩ := hd
  intro p l e R s m args below meth c A H locs cells slots lsA Qf hc h1 h2 hw hS hl hr
  exact lv_aloadN hc.1 hc.2.1 hd (hl.2.2.2 10 _ rfl) (k p l e R s m args below meth c A H locs cells slots lsA Qf hc h1 h2 hw hS hl hr)
theorem ev_istore_10 {a0 a1 a2 a3 a4 a5 a6 a7 a8 a9 a10 : Option Value} {t : List (Option Value)} {x : Int32} (hd : fe M pc (.istore 10) 2 pc') (hp : ev_nl a9 = true) (k : Ev G M d kc ks Q pc' (a0 :: a1 :: a2 :: a3 :: a4 :: a5 :: a6 :: a7 :: a8 :: a9 :: some (.int x) :: t) st h) : Ev G M d kc ks Q pc (a0 :: a1 :: a2 :: a3 :: a4 :: a5 :: a6 :: a7 :: a8 :: a9 :: a10 :: t) (.int x :: st) h := by
  obtain ⟨hd, rfl⟩ := hd
  intro p l e R s m args below meth c A H locs cells slots lsA Qf hc h1 h2 hw hS hl hr
  refine lv_istore hc.1 hc.2.1 hd (ev_ls_has hl) (Nat.lt_of_lt_of_le (by simp only [List.length_cons]; omega) hl.2.2.1) rfl (fun lsB hB => ?_)
  exact k p l e R s m args below meth c A H locs cells slots lsB Qf hc h1 h2 hw hS (ev_ls_st1 (L := 0) hl.2.2.1 (ev_hp (i := 9) (a := a9) rfl hp) hB) hr
theorem ev_astore_10 {a0 a1 a2 a3 a4 a5 a6 a7 a8 a9 a10 : Option Value} {t : List (Option Value)} {x : Nat} (hd : fe M pc (.astore 10) 2 pc') (hp : ev_nl a9 = true) (k : Ev G M d kc ks Q pc' (a0 :: a1 :: a2 :: a3 :: a4 :: a5 :: a6 :: a7 :: a8 :: a9 :: some (.ref x) :: t) st h) : Ev G M d kc ks Q pc (a0 :: a1 :: a2 :: a3 :: a4 :: a5 :: a6 :: a7 :: a8 :: a9 :: a10 :: t) (.ref x :: st) h := by
  obtain ⟨hd, rfl⟩ := hd
  intro p l e R s m args below meth c A H locs cells slots lsA Qf hc h1 h2 hw hS hl hr
  refine lv_astore hc.1 hc.2.1 hd (ev_ls_has hl) (Nat.lt_of_lt_of_le (by simp only [List.length_cons]; omega) hl.2.2.1) rfl (fun lsB hB => ?_)
  exact k p l e R s m args below meth c A H locs cells slots lsB Qf hc h1 h2 hw hS (ev_ls_st1 (L := 0) hl.2.2.1 (ev_hp (i := 9) (a := a9) rfl hp) hB) hr
theorem ev_astoreN_10 {a0 a1 a2 a3 a4 a5 a6 a7 a8 a9 a10 : Option Value} {t : List (Option Value)}  (hd : fe M pc (.astore 10) 2 pc') (hp : ev_nl a9 = true) (k : Ev G M d kc ks Q pc' (a0 :: a1 :: a2 :: a3 :: a4 :: a5 :: a6 :: a7 :: a8 :: a9 :: some (.null) :: t) st h) : Ev G M d kc ks Q pc (a0 :: a1 :: a2 :: a3 :: a4 :: a5 :: a6 :: a7 :: a8 :: a9 :: a10 :: t) (.null :: st) h := by
  obtain ⟨hd, rfl⟩ := hd
  intro p l e R s m args below meth c A H locs cells slots lsA Qf hc h1 h2 hw hS hl hr
  refine lv_astoreN hc.1 hc.2.1 hd (ev_ls_has hl) (Nat.lt_of_lt_of_le (by simp only [List.length_cons]; omega) hl.2.2.1) rfl (fun lsB hB => ?_)
  exact k p l e R s m args below meth c A H locs cells slots lsB Qf hc h1 h2 hw hS (ev_ls_st1 (L := 0) hl.2.2.1 (ev_hp (i := 9) (a := a9) rfl hp) hB) hr
theorem ev_lstore_10 {a0 a1 a2 a3 a4 a5 a6 a7 a8 a9 a10 a11 : Option Value} {t : List (Option Value)} {x : Int64} (hd : fe M pc (.lstore 10) 2 pc') (hp : ev_nl a9 = true) (k : Ev G M d kc ks Q pc' (a0 :: a1 :: a2 :: a3 :: a4 :: a5 :: a6 :: a7 :: a8 :: a9 :: some (.long x) :: none :: t) st h) : Ev G M d kc ks Q pc (a0 :: a1 :: a2 :: a3 :: a4 :: a5 :: a6 :: a7 :: a8 :: a9 :: a10 :: a11 :: t) (.long x :: st) h := by
  obtain ⟨hd, rfl⟩ := hd
  intro p l e R s m args below meth c A H locs cells slots lsA Qf hc h1 h2 hw hS hl hr
  refine lv_lstore hc.1 hc.2.1 hd (ev_ls_has hl) (Nat.lt_of_lt_of_le (by simp only [List.length_cons]; omega) hl.2.2.1) rfl (fun lsB hB => ?_)
  exact k p l e R s m args below meth c A H locs cells slots lsB Qf hc h1 h2 hw hS (ev_ls_st2 hl.2.2.1 (ev_hp (i := 9) (a := a9) rfl hp) hB) hr
theorem ev_iinc_10 {a0 a1 a2 a3 a4 a5 a6 a7 a8 a9 : Option Value} {t : List (Option Value)} {x v : Int32} {n : Int} (hd : fe M pc (.iinc 10 n) 3 pc') (hv : x + Int32.ofInt n = v) (hp : ev_nl a9 = true) (k : Ev G M d kc ks Q pc' (a0 :: a1 :: a2 :: a3 :: a4 :: a5 :: a6 :: a7 :: a8 :: a9 :: some (.int v) :: t) st h) : Ev G M d kc ks Q pc (a0 :: a1 :: a2 :: a3 :: a4 :: a5 :: a6 :: a7 :: a8 :: a9 :: some (.int x) :: t) st h := by
  obtain ⟨hd, rfl⟩ := hd
  intro p l e R s m args below meth c A H locs cells slots lsA Qf hc h1 h2 hw hS hl hr
  obtain ⟨kk, hkk⟩ := List.getElem?_of_mem (ev_pr_mem.mpr (show (a0 :: a1 :: a2 :: a3 :: a4 :: a5 :: a6 :: a7 :: a8 :: a9 :: some (.int x) :: t)[10]? = some (some (.int x)) from rfl))
  refine lv_iinc hc.1 hc.2.1 hd (ev_ls_has hl) hkk hv (Nat.lt_of_lt_of_le (by simp only [List.length_cons]; omega) hl.2.2.1) rfl (fun lsB hB => ?_)
  exact k p l e R s m args below meth c A H locs cells slots lsB Qf hc h1 h2 hw hS (ev_ls_st1 (L := 0) hl.2.2.1 (ev_hp (i := 9) (a := a9) rfl hp) hB) hr
theorem ev_iload_11 {a0 a1 a2 a3 a4 a5 a6 a7 a8 a9 a10 : Option Value} {t : List (Option Value)} {x : Int32} (hd : fe M pc (.iload 11) 2 pc') (k : Ev G M d kc ks Q pc' (a0 :: a1 :: a2 :: a3 :: a4 :: a5 :: a6 :: a7 :: a8 :: a9 :: a10 :: some (.int x) :: t) (.int x :: st) h) : Ev G M d kc ks Q pc (a0 :: a1 :: a2 :: a3 :: a4 :: a5 :: a6 :: a7 :: a8 :: a9 :: a10 :: some (.int x) :: t) st h := by
  obtain ⟨hd, rfl⟩ := hd
  intro p l e R s m args below meth c A H locs cells slots lsA Qf hc h1 h2 hw hS hl hr
  exact lv_iload hc.1 hc.2.1 hd (hl.2.2.2 11 _ rfl) (k p l e R s m args below meth c A H locs cells slots lsA Qf hc h1 h2 hw hS hl hr)
theorem ev_lload_11 {a0 a1 a2 a3 a4 a5 a6 a7 a8 a9 a10 : Option Value} {t : List (Option Value)} {x : Int64} (hd : fe M pc (.lload 11) 2 pc') (k : Ev G M d kc ks Q pc' (a0 :: a1 :: a2 :: a3 :: a4 :: a5 :: a6 :: a7 :: a8 :: a9 :: a10 :: some (.long x) :: t) (.long x :: st) h) : Ev G M d kc ks Q pc (a0 :: a1 :: a2 :: a3 :: a4 :: a5 :: a6 :: a7 :: a8 :: a9 :: a10 :: some (.long x) :: t) st h := by
  obtain ⟨hd, rfl⟩ := hd
  intro p l e R s m args below meth c A H locs cells slots lsA Qf hc h1 h2 hw hS hl hr
  exact lv_lload hc.1 hc.2.1 hd (hl.2.2.2 11 _ rfl) (k p l e R s m args below meth c A H locs cells slots lsA Qf hc h1 h2 hw hS hl hr)
theorem ev_aload_11 {a0 a1 a2 a3 a4 a5 a6 a7 a8 a9 a10 : Option Value} {t : List (Option Value)} {x : Nat} (hd : fe M pc (.aload 11) 2 pc') (k : Ev G M d kc ks Q pc' (a0 :: a1 :: a2 :: a3 :: a4 :: a5 :: a6 :: a7 :: a8 :: a9 :: a10 :: some (.ref x) :: t) (.ref x :: st) h) : Ev G M d kc ks Q pc (a0 :: a1 :: a2 :: a3 :: a4 :: a5 :: a6 :: a7 :: a8 :: a9 :: a10 :: some (.ref x) :: t) st h := by
  obtain ⟨hd, rfl⟩ := hd
  intro p l e R s m args below meth c A H locs cells slots lsA Qf hc h1 h2 hw hS hl hr
  exact lv_aload hc.1 hc.2.1 hd (hl.2.2.2 11 _ rfl) (k p l e R s m args below meth c A H locs cells slots lsA Qf hc h1 h2 hw hS hl hr)
theorem ev_aloadN_11 {a0 a1 a2 a3 a4 a5 a6 a7 a8 a9 a10 : Option Value} {t : List (Option Value)} (hd : fe M pc (.aload 11) 2 pc') (k : Ev G M d kc ks Q pc' (a0 :: a1 :: a2 :: a3 :: a4 :: a5 :: a6 :: a7 :: a8 :: a9 :: a10 :: some .null :: t) (.null :: st) h) : Ev G M d kc ks Q pc (a0 :: a1 :: a2 :: a3 :: a4 :: a5 :: a6 :: a7 :: a8 :: a9 :: a10 :: some .null :: t) st h := by
  obtain ⟨hd, rfl⟩ := hd
  intro p l e R s m args below meth c A H locs cells slots lsA Qf hc h1 h2 hw hS hl hr
  exact lv_aloadN hc.1 hc.2.1 hd (hl.2.2.2 11 _ rfl) (k p l e R s m args below meth c A H locs cells slots lsA Qf hc h1 h2 hw hS hl hr)
theorem ev_istore_11 {a0 a1 a2 a3 a4 a5 a6 a7 a8 a9 a10 a11 : Option Value} {t : List (Option Value)} {x : Int32} (hd : fe M pc (.istore 11) 2 pc') (hp : ev_nl a10 = true) (k : Ev G M d kc ks Q pc' (a0 :: a1 :: a2 :: a3 :: a4 :: a5 :: a6 :: a7 :: a8 :: a9 :: a10 :: some (.int x) :: t) st h) : Ev G M d kc ks Q pc (a0 :: a1 :: a2 :: a3 :: a4 :: a5 :: a6 :: a7 :: a8 :: a9 :: a10 :: a11 :: t) (.int x :: st) h := by
  obtain ⟨hd, rfl⟩ := hd
  intro p l e R s m args below meth c A H locs cells slots lsA Qf hc h1 h2 hw hS hl hr
  refine lv_istore hc.1 hc.2.1 hd (ev_ls_has hl) (Nat.lt_of_lt_of_le (by simp only [List.length_cons]; omega) hl.2.2.1) rfl (fun lsB hB => ?_)
  exact k p l e R s m args below meth c A H locs cells slots lsB Qf hc h1 h2 hw hS (ev_ls_st1 (L := 0) hl.2.2.1 (ev_hp (i := 10) (a := a10) rfl hp) hB) hr
theorem ev_astore_11 {a0 a1 a2 a3 a4 a5 a6 a7 a8 a9 a10 a11 : Option Value} {t : List (Option Value)} {x : Nat} (hd : fe M pc (.astore 11) 2 pc') (hp : ev_nl a10 = true) (k : Ev G M d kc ks Q pc' (a0 :: a1 :: a2 :: a3 :: a4 :: a5 :: a6 :: a7 :: a8 :: a9 :: a10 :: some (.ref x) :: t) st h) : Ev G M d kc ks Q pc (a0 :: a1 :: a2 :: a3 :: a4 :: a5 :: a6 :: a7 :: a8 :: a9 :: a10 :: a11 :: t) (.ref x :: st) h := by
  obtain ⟨hd, rfl⟩ := hd
  intro p l e R s m args below meth c A H locs cells slots lsA Qf hc h1 h2 hw hS hl hr
  refine lv_astore hc.1 hc.2.1 hd (ev_ls_has hl) (Nat.lt_of_lt_of_le (by simp only [List.length_cons]; omega) hl.2.2.1) rfl (fun lsB hB => ?_)
  exact k p l e R s m args below meth c A H locs cells slots lsB Qf hc h1 h2 hw hS (ev_ls_st1 (L := 0) hl.2.2.1 (ev_hp (i := 10) (a := a10) rfl hp) hB) hr
theorem ev_astoreN_11 {a0 a1 a2 a3 a4 a5 a6 a7 a8 a9 a10 a11 : Option Value} {t : List (Option Value)}  (hd : fe M pc (.astore 11) 2 pc') (hp : ev_nl a10 = true) (k : Ev G M d kc ks Q pc' (a0 :: a1 :: a2 :: a3 :: a4 :: a5 :: a6 :: a7 :: a8 :: a9 :: a10 :: some (.null) :: t) st h) : Ev G M d kc ks Q pc (a0 :: a1 :: a2 :: a3 :: a4 :: a5 :: a6 :: a7 :: a8 :: a9 :: a10 :: a11 :: t) (.null :: st) h := by
  obtain ⟨hd, rfl⟩ := hd
  intro p l e R s m args below meth c A H locs cells slots lsA Qf hc h1 h2 hw hS hl hr
  refine lv_astoreN hc.1 hc.2.1 hd (ev_ls_has hl) (Nat.lt_of_lt_of_le (by simp only [List.length_cons]; omega) hl.2.2.1) rfl (fun lsB hB => ?_)
  exact k p l e R s m args below meth c A H locs cells slots lsB Qf hc h1 h2 hw hS (ev_ls_st1 (L := 0) hl.2.2.1 (ev_hp (i := 10) (a := a10) rfl hp) hB) hr
theorem ev_lstore_11 {a0 a1 a2 a3 a4 a5 a6 a7 a8 a9 a10 a11 a12 : Option Value} {t : List (Option Value)} {x : Int64} (hd : fe M pc (.lstore 11) 2 pc') (hp : ev_nl a10 = true) (k : Ev G M d kc ks Q pc' (a0 :: a1 :: a2 :: a3 :: a4 :: a5 :: a6 :: a7 :: a8 :: a9 :: a10 :: some (.long x) :: none :: t) st h) : Ev G M d kc ks Q pc (a0 :: a1 :: a2 :: a3 :: a4 :: a5 :: a6 :: a7 :: a8 :: a9 :: a10 :: a11 :: a12 :: t) (.long x :: st) h := by
  obtain ⟨hd, rfl⟩ := hd
  intro p l e R s m args below meth c A H locs cells slots lsA Qf hc h1 h2 hw hS hl hr
  refine lv_lstore hc.1 hc.2.1 hd (ev_ls_has hl) (Nat.lt_of_lt_of_le (by simp only [List.length_cons]; omega) hl.2.2.1) rfl (fun lsB hB => ?_)
  exact k p l e R s m args below meth c A H locs cells slots lsB Qf hc h1 h2 hw hS (ev_ls_st2 hl.2.2.1 (ev_hp (i := 10) (a := a10) rfl hp) hB) hr
theorem ev_iinc_11 {a0 a1 a2 a3 a4 a5 a6 a7 a8 a9 a10 : Option Value} {t : List (Option Value)} {x v : Int32} {n : Int} (hd : fe M pc (.iinc 11 n) 3 pc') (hv : x + Int32.ofInt n = v) (hp : ev_nl a10 = true) (k : Ev G M d kc ks Q pc' (a0 :: a1 :: a2 :: a3 :: a4 :: a5 :: a6 :: a7 :: a8 :: a9 :: a10 :: some (.int v) :: t) st h) : Ev G M d kc ks Q pc (a0 :: a1 :: a2 :: a3 :: a4 :: a5 :: a6 :: a7 :: a8 :: a9 :: a10 :: some (.int x) :: t) st h := by
  obtain ⟨hd, rfl⟩ := hd
  intro p l e R s m args below meth c A H locs cells slots lsA Qf hc h1 h2 hw hS hl hr
  obtain ⟨kk, hkk⟩ := List.getElem?_of_mem (ev_pr_mem.mpr (show (a0 :: a1 :: a2 :: a3 :: a4 :: a5 :: a6 :: a7 :: a8 :: a9 :: a10 :: some (.int x) :: t)[11]? = some (some (.int x)) from rfl))
  refine lv_iinc hc.1 hc.2.1 hd (ev_ls_has hl) hkk hv (Nat.lt_of_lt_of_le (by simp only [List.length_cons]; omega) hl.2.2.1) rfl (fun lsB hB => ?_)
  exact k p l e R s m args below meth c A H locs cells slots lsB Qf hc h1 h2 hw hS (ev_ls_st1 (L := 0) hl.2.2.1 (ev_hp (i := 10) (a := a10) rfl hp) hB) hr
theorem ev_iload_12 {a0 a1 a2 a3 a4 a5 a6 a7 a8 a9 a10 a11 : Option Value} {t : List (Option Value)} {x : Int32} (hd : fe M pc (.iload 12) 2 pc') (k : Ev G M d kc ks Q pc' (a0 :: a1 :: a2 :: a3 :: a4 :: a5 :: a6 :: a7 :: a8 :: a9 :: a10 :: a11 :: some (.int x) :: t) (.int x :: st) h) : Ev G M d kc ks Q pc (a0 :: a1 :: a2 :: a3 :: a4 :: a5 :: a6 :: a7 :: a8 :: a9 :: a10 :: a11 :: some (.int x) :: t) st h := by
  obtain ⟨hd, rfl⟩ := hd
  intro p l e R s m args below meth c A H locs cells slots lsA Qf hc h1 h2 hw hS hl hr
  exact lv_iload hc.1 hc.2.1 hd (hl.2.2.2 12 _ rfl) (k p l e R s m args below meth c A H locs cells slots lsA Qf hc h1 h2 hw hS hl hr)
theorem ev_lload_12 {a0 a1 a2 a3 a4 a5 a6 a7 a8 a9 a10 a11 : Option Value} {t : List (Option Value)} {x : Int64} (hd : fe M pc (.lload 12) 2 pc') (k : Ev G M d kc ks Q pc' (a0 :: a1 :: a2 :: a3 :: a4 :: a5 :: a6 :: a7 :: a8 :: a9 :: a10 :: a11 :: some (.long x) :: t) (.long x :: st) h) : Ev G M d kc ks Q pc (a0 :: a1 :: a2 :: a3 :: a4 :: a5 :: a6 :: a7 :: a8 :: a9 :: a10 :: a11 :: some (.long x) :: t) st h := by
  obtain ⟨hd, rfl⟩ := hd
  intro p l e R s m args below meth c A H locs cells slots lsA Qf hc h1 h2 hw hS hl hr
  exact lv_lload hc.1 hc.2.1 hd (hl.2.2.2 12 _ rfl) (k p l e R s m args below meth c A H locs cells slots lsA Qf hc h1 h2 hw hS hl hr)
theorem ev_aload_12 {a0 a1 a2 a3 a4 a5 a6 a7 a8 a9 a10 a11 : Option Value} {t : List (Option Value)} {x : Nat} (hd : fe M pc (.aload 12) 2 pc') (k : Ev G M d kc ks Q pc' (a0 :: a1 :: a2 :: a3 :: a4 :: a5 :: a6 :: a7 :: a8 :: a9 :: a10 :: a11 :: some (.ref x) :: t) (.ref x :: st) h) : Ev G M d kc ks Q pc (a0 :: a1 :: a2 :: a3 :: a4 :: a5 :: a6 :: a7 :: a8 :: a9 :: a10 :: a11 :: some (.ref x) :: t) st h := by
  obtain ⟨hd, rfl⟩ := hd
  intro p l e R s m args below meth c A H locs cells slots lsA Qf hc h1 h2 hw hS hl hr
  exact lv_aload hc.1 hc.2.1 hd (hl.2.2.2 12 _ rfl) (k p l e R s m args below meth c A H locs cells slots lsA Qf hc h1 h2 hw hS hl hr)
theorem ev_aloadN_12 {a0 a1 a2 a3 a4 a5 a6 a7 a8 a9 a10 a11 : Option Value} {t : List (Option Value)} (hd : fe M pc (.aload 12) 2 pc') (k : Ev G M d kc ks Q pc' (a0 :: a1 :: a2 :: a3 :: a4 :: a5 :: a6 :: a7 :: a8 :: a9 :: a10 :: a11 :: some .null :: t) (.null :: st) h) : Ev G M d kc ks Q pc (a0 :: a1 :: a2 :: a3 :: a4 :: a5 :: a6 :: a7 :: a8 :: a9 :: a10 :: a11 :: some .null :: t) st h := by
  obtain ⟨hd, rfl⟩ := hd
  intro p l e R s m args below meth c A H locs cells slots lsA Qf hc h1 h2 hw hS hl hr
  exact lv_aloadN hc.1 hc.2.1 hd (hl.2.2.2 12 _ rfl) (k p l e R s m args below meth c A H locs cells slots lsA Qf hc h1 h2 hw hS hl hr)
theorem ev_istore_12 {a0 a1 a2 a3 a4 a5 a6 a7 a8 a9 a10 a11 a12 : Option Value} {t : List (Option Value)} {x : Int32} (hd : fe M pc (.istore 12) 2 pc') (hp : ev_nl a11 = true) (k : Ev G M d kc ks Q pc' (a0 :: a1 :: a2 :: a3 :: a4 :: a5 :: a6 :: a7 :: a8 :: a9 :: a10 :: a11 :: some (.int x) :: t) st h) : Ev G M d kc ks Q pc (a0 :: a1 :: a2 :: a3 :: a4 :: a5 :: a6 :: a7 :: a8 :: a9 :: a10 :: a11 :: a12 :: t) (.int x :: st) h := by
  obtain ⟨hd, rfl⟩ := hd
  intro p l e R s m args below meth c A H locs cells slots lsA Qf hc h1 h2 hw hS hl hr
  refine lv_istore hc.1 hc.2.1 hd (ev_ls_has hl) (Nat.lt_of_lt_of_le (by simp only [List.length_cons]; omega) hl.2.2.1) rfl (fun lsB hB => ?_)
  exact k p l e R s m args below meth c A H locs cells slots lsB Qf hc h1 h2 hw hS (ev_ls_st1 (L := 0) hl.2.2.1 (ev_hp (i := 11) (a := a11) rfl hp) hB) hr
theorem ev_astore_12 {a0 a1 a2 a3 a4 a5 a6 a7 a8 a9 a10 a11 a12 : Option Value} {t : List (Option Value)} {x : Nat} (hd : fe M pc (.astore 12) 2 pc') (hp : ev_nl a11 = true) (k : Ev G M d kc ks Q pc' (a0 :: a1 :: a2 :: a3 :: a4 :: a5 :: a6 :: a7 :: a8 :: a9 :: a10 :: a11 :: some (.ref x) :: t) st h) : Ev G M d kc ks Q pc (a0 :: a1 :: a2 :: a3 :: a4 :: a5 :: a6 :: a7 :: a8 :: a9 :: a10 :: a11 :: a12 :: t) (.ref x :: st) h := by
  obtain ⟨hd, rfl⟩ := hd
  intro p l e R s m args below meth c A H locs cells slots lsA Qf hc h1 h2 hw hS hl hr
  refine lv_astore hc.1 hc.2.1 hd (ev_ls_has hl) (Nat.lt_of_lt_of_le (by simp only [List.length_cons]; omega) hl.2.2.1) rfl (fun lsB hB => ?_)
  exact k p l e R s m args below meth c A H locs cells slots lsB Qf hc h1 h2 hw hS (ev_ls_st1 (L := 0) hl.2.2.1 (ev_hp (i := 11) (a := a11) rfl hp) hB) hr
theorem ev_astoreN_12 {a0 a1 a2 a3 a4 a5 a6 a7 a8 a9 a10 a11 a12 : Option Value} {t : List (Option Value)}  (hd : fe M pc (.astore 12) 2 pc') (hp : ev_nl a11 = true) (k : Ev G M d kc ks Q pc' (a0 :: a1 :: a2 :: a3 :: a4 :: a5 :: a6 :: a7 :: a8 :: a9 :: a10 :: a11 :: some (.null) :: t) st h) : Ev G M d kc ks Q pc (a0 :: a1 :: a2 :: a3 :: a4 :: a5 :: a6 :: a7 :: a8 :: a9 :: a10 :: a11 :: a12 :: t) (.null :: st) h := by
  obtain ⟨hd, rfl⟩ := hd
  intro p l e R s m args below meth c A H locs cells slots lsA Qf hc h1 h2 hw hS hl hr
  refine lv_astoreN hc.1 hc.2.1 hd (ev_ls_has hl) (Nat.lt_of_lt_of_le (by simp only [List.length_cons]; omega) hl.2.2.1) rfl (fun lsB hB => ?_)
  exact k p l e R s m args below meth c A H locs cells slots lsB Qf hc h1 h2 hw hS (ev_ls_st1 (L := 0) hl.2.2.1 (ev_hp (i := 11) (a := a11) rfl hp) hB) hr
theorem ev_lstore_12 {a0 a1 a2 a3 a4 a5 a6 a7 a8 a9 a10 a11 a12 a13 : Option Value} {t : List (Option Value)} {x : Int64} (hd : fe M pc (.lstore 12) 2 pc') (hp : ev_nl a11 = true) (k : Ev G M d kc ks Q pc' (a0 :: a1 :: a2 :: a3 :: a4 :: a5 :: a6 :: a7 :: a8 :: a9 :: a10 :: a11 :: some (.long x) :: none :: t) st h) : Ev G M d kc ks Q pc (a0 :: a1 :: a2 :: a3 :: a4 :: a5 :: a6 :: a7 :: a8 :: a9 :: a10 :: a11 :: a12 :: a13 :: t) (.long x :: st) h := by
  obtain ⟨hd, rfl⟩ := hd
  intro p l e R s m args below meth c A H locs cells slots lsA Qf hc h1 h2 hw hS hl hr
  refine lv_lstore hc.1 hc.2.1 hd (ev_ls_has hl) (Nat.lt_of_lt_of_le (by simp only [List.length_cons]; omega) hl.2.2.1) rfl (fun lsB hB => ?_)
  exact k p l e R s m args below meth c A H locs cells slots lsB Qf hc h1 h2 hw hS (ev_ls_st2 hl.2.2.1 (ev_hp (i := 11) (a := a11) rfl hp) hB) hr
theorem ev_iinc_12 {a0 a1 a2 a3 a4 a5 a6 a7 a8 a9 a10 a11 : Option Value} {t : List (Option Value)} {x v : Int32} {n : Int} (hd : fe M pc (.iinc 12 n) 3 pc') (hv : x + Int32.ofInt n = v) (hp : ev_nl a11 = true) (k : Ev G M d kc ks Q pc' (a0 :: a1 :: a2 :: a3 :: a4 :: a5 :: a6 :: a7 :: a8 :: a9 :: a10 :: a11 :: some (.int v) :: t) st h) : Ev G M d kc ks Q pc (a0 :: a1 :: a2 :: a3 :: a4 :: a5 :: a6 :: a7 :: a8 :: a9 :: a10 :: a11 :: some (.int x) :: t) st h := by
  obtain ⟨hd, rfl⟩ := hd
  intro p l e R s m args below meth c A H locs cells slots lsA Qf hc h1 h2 hw hS hl hr
  obtain ⟨kk, hkk⟩ := List.getElem?_of_mem (ev_pr_mem.mpr (show (a0 :: a1 :: a2 :: a3 :: a4 :: a5 :: a6 :: a7 :: a8 :: a9 :: a10 :: a11 :: some (.int x) :: t)[12]? = some (some (.int x)) from rfl))
  refine lv_iinc hc.1 hc.2.1 hd (ev_ls_has hl) hkk hv (Nat.lt_of_lt_of_le (by simp only [List.length_cons]; omega) hl.2.2.1) rfl (fun lsB hB => ?_)
  exact k p l e R s m args below meth c A H locs cells slots lsB Qf hc h1 h2 hw hS (ev_ls_st1 (L := 0) hl.2.2.1 (ev_hp (i := 11) (a := a11) rfl hp) hB) hr
theorem ev_iload_13 {a0 a1 a2 a3 a4 a5 a6 a7 a8 a9 a10 a11 a12 : Option Value} {t : List (Option Value)} {x : Int32} (hd : fe M pc (.iload 13) 2 pc') (k : Ev G M d kc ks Q pc' (a0 :: a1 :: a2 :: a3 :: a4 :: a5 :: a6 :: a7 :: a8 :: a9 :: a10 :: a11 :: a12 :: some (.int x) :: t) (.int x :: st) h) : Ev G M d kc ks Q pc (a0 :: a1 :: a2 :: a3 :: a4 :: a5 :: a6 :: a7 :: a8 :: a9 :: a10 :: a11 :: a12 :: some (.int x) :: t) st h := by
  obtain ⟨hd, rfl⟩ := hd
  intro p l e R s m args below meth c A H locs cells slots lsA Qf hc h1 h2 hw hS hl hr
  exact lv_iload hc.1 hc.2.1 hd (hl.2.2.2 13 _ rfl) (k p l e R s m args below meth c A H locs cells slots lsA Qf hc h1 h2 hw hS hl hr)
theorem ev_lload_13 {a0 a1 a2 a3 a4 a5 a6 a7 a8 a9 a10 a11 a12 : Option Value} {t : List (Option Value)} {x : Int64} (hd : fe M pc (.lload 13) 2 pc') (k : Ev G M d kc ks Q pc' (a0 :: a1 :: a2 :: a3 :: a4 :: a5 :: a6 :: a7 :: a8 :: a9 :: a10 :: a11 :: a12 :: some (.long x) :: t) (.long x :: st) h) : Ev G M d kc ks Q pc (a0 :: a1 :: a2 :: a3 :: a4 :: a5 :: a6 :: a7 :: a8 :: a9 :: a10 :: a11 :: a12 :: some (.long x) :: t) st h := by
  obtain ⟨hd, rfl⟩ := hd
  intro p l e R s m args below meth c A H locs cells slots lsA Qf hc h1 h2 hw hS hl hr
  exact lv_lload hc.1 hc.2.1 hd (hl.2.2.2 13 _ rfl) (k p l e R s m args below meth c A H locs cells slots lsA Qf hc h1 h2 hw hS hl hr)
theorem ev_aload_13 {a0 a1 a2 a3 a4 a5 a6 a7 a8 a9 a10 a11 a12 : Option Value} {t : List (Option Value)} {x : Nat} (hd : fe M pc (.aload 13) 2 pc') (k : Ev G M d kc ks Q pc' (a0 :: a1 :: a2 :: a3 :: a4 :: a5 :: a6 :: a7 :: a8 :: a9 :: a10 :: a11 :: a12 :: some (.ref x) :: t) (.ref x :: st) h) : Ev G M d kc ks Q pc (a0 :: a1 :: a2 :: a3 :: a4 :: a5 :: a6 :: a7 :: a8 :: a9 :: a10 :: a11 :: a12 :: some (.ref x) :: t) st h := by
  obtain ⟨hd, rfl⟩ := hd
  intro p l e R s m args below meth c A H locs cells slots lsA Qf hc h1 h2 hw hS hl hr
  exact lv_aload hc.1 hc.2.1 hd (hl.2.2.2 13 _ rfl) (k p l e R s m args below meth c A H locs cells slots lsA Qf hc h1 h2 hw hS hl hr)
theorem ev_aloadN_13 {a0 a1 a2 a3 a4 a5 a6 a7 a8 a9 a10 a11 a12 : Option Value} {t : List (Option Value)} (hd : fe M pc (.aload 13) 2 pc') (k : Ev G M d kc ks Q pc' (a0 :: a1 :: a2 :: a3 :: a4 :: a5 :: a6 :: a7 :: a8 :: a9 :: a10 :: a11 :: a12 :: some .null :: t) (.null :: st) h) : Ev G M d kc ks Q pc (a0 :: a1 :: a2 :: a3 :: a4 :: a5 :: a6 :: a7 :: a8 :: a9 :: a10 :: a11 :: a12 :: some .null :: t) st h := by
  obtain ⟨hd, rfl⟩ := hd
  intro p l e R s m args below meth c A H locs cells slots lsA Qf hc h1 h2 hw hS hl hr
  exact lv_aloadN hc.1 hc.2.1 hd (hl.2.2.2 13 _ rfl) (k p l e R s m args below meth c A H locs cells slots lsA Qf hc h1 h2 hw hS hl hr)
theorem ev_istore_13 {a0 a1 a2 a3 a4 a5 a6 a7 a8 a9 a10 a11 a12 a13 : Option Value} {t : List (Option Value)} {x : Int32} (hd : fe M pc (.istore 13) 2 pc') (hp : ev_nl a12 = true) (k : Ev G M d kc ks Q pc' (a0 :: a1 :: a2 :: a3 :: a4 :: a5 :: a6 :: a7 :: a8 :: a9 :: a10 :: a11 :: a12 :: some (.int x) :: t) st h) : Ev G M d kc ks Q pc (a0 :: a1 :: a2 :: a3 :: a4 :: a5 :: a6 :: a7 :: a8 :: a9 :: a10 :: a11 :: a12 :: a13 :: t) (.int x :: st) h := by
  obtain ⟨hd, rfl⟩ := hd
  intro p l e R s m args below meth c A H locs cells slots lsA Qf hc h1 h2 hw hS hl hr
  refine lv_istore hc.1 hc.2.1 hd (ev_ls_has hl) (Nat.lt_of_lt_of_le (by simp only [List.length_cons]; omega) hl.2.2.1) rfl (fun lsB hB => ?_)
  exact k p l e R s m args below meth c A H locs cells slots lsB Qf hc h1 h2 hw hS (ev_ls_st1 (L := 0) hl.2.2.1 (ev_hp (i := 12) (a := a12) rfl hp) hB) hr
theorem ev_astore_13 {a0 a1 a2 a3 a4 a5 a6 a7 a8 a9 a10 a11 a12 a13 : Option Value} {t : List (Option Value)} {x : Nat} (hd : fe M pc (.astore 13) 2 pc') (hp : ev_nl a12 = true) (k : Ev G M d kc ks Q pc' (a0 :: a1 :: a2 :: a3 :: a4 :: a5 :: a6 :: a7 :: a8 :: a9 :: a10 :: a11 :: a12 :: some (.ref x) :: t) st h) : Ev G M d kc ks Q pc (a0 :: a1 :: a2 :: a3 :: a4 :: a5 :: a6 :: a7 :: a8 :: a9 :: a10 :: a11 :: a12 :: a13 :: t) (.ref x :: st) h := by
  obtain ⟨hd, rfl⟩ := hd
  intro p l e R s m args below meth c A H locs cells slots lsA Qf hc h1 h2 hw hS hl hr
  refine lv_astore hc.1 hc.2.1 hd (ev_ls_has hl) (Nat.lt_of_lt_of_le (by simp only [List.length_cons]; omega) hl.2.2.1) rfl (fun lsB hB => ?_)
  exact k p l e R s m args below meth c A H locs cells slots lsB Qf hc h1 h2 hw hS (ev_ls_st1 (L := 0) hl.2.2.1 (ev_hp (i := 12) (a := a12) rfl hp) hB) hr
theorem ev_astoreN_13 {a0 a1 a2 a3 a4 a5 a6 a7 a8 a9 a10 a11 a12 a13 : Option Value} {t : List (Option Value)}  (hd : fe M pc (.astore 13) 2 pc') (hp : ev_nl a12 = true) (k : Ev G M d kc ks Q pc' (a0 :: a1 :: a2 :: a3 :: a4 :: a5 :: a6 :: a7 :: a8 :: a9 :: a10 :: a11 :: a12 :: some (.null) :: t) st h) : Ev G M d kc ks Q pc (a0 :: a1 :: a2 :: a3 :: a4 :: a5 :: a6 :: a7 :: a8 :: a9 :: a10 :: a11 :: a12 :: a13 :: t) (.null :: st) h := by
  obtain ⟨hd, rfl⟩ := hd
  intro p l e R s m args below meth c A H locs cells slots lsA Qf hc h1 h2 hw hS hl hr
  refine lv_astoreN hc.1 hc.2.1 hd (ev_ls_has hl) (Nat.lt_of_lt_of_le (by simp only [List.length_cons]; omega) hl.2.2.1) rfl (fun lsB hB => ?_)
  exact k p l e R s m args below meth c A H locs cells slots lsB Qf hc h1 h2 hw hS (ev_ls_st1 (L := 0) hl.2.2.1 (ev_hp (i := 12) (a := a12) rfl hp) hB) hr
theorem ev_lstore_13 {a0 a1 a2 a3 a4 a5 a6 a7 a8 a9 a10 a11 a12 a13 a14 : Option Value} {t : List (Option Value)} {x : Int64} (hd : fe M pc (.lstore 13) 2 pc') (hp : ev_nl a12 = true) (k : Ev G M d kc ks Q pc' (a0 :: a1 :: a2 :: a3 :: a4 :: a5 :: a6 :: a7 :: a8 :: a9 :: a10 :: a11 :: a12 :: some (.long x) :: none :: t) st h) : Ev G M d kc ks Q pc (a0 :: a1 :: a2 :: a3 :: a4 :: a5 :: a6 :: a7 :: a8 :: a9 :: a10 :: a11 :: a12 :: a13 :: a14 :: t) (.long x :: st) h := by
  obtain ⟨hd, rfl⟩ := hd
  intro p l e R s m args below meth c A H locs cells slots lsA Qf hc h1 h2 hw hS hl hr
  refine lv_lstore hc.1 hc.2.1 hd (ev_ls_has hl) (Nat.lt_of_lt_of_le (by simp only [List.length_cons]; omega) hl.2.2.1) rfl (fun lsB hB => ?_)
  exact k p l e R s m args below meth c A H locs cells slots lsB Qf hc h1 h2 hw hS (ev_ls_st2 hl.2.2.1 (ev_hp (i := 12) (a := a12) rfl hp) hB) hr
theorem ev_iinc_13 {a0 a1 a2 a3 a4 a5 a6 a7 a8 a9 a10 a11 a12 : Option Value} {t : List (Option Value)} {x v : Int32} {n : Int} (hd : fe M pc (.iinc 13 n) 3 pc') (hv : x + Int32.ofInt n = v) (hp : ev_nl a12 = true) (k : Ev G M d kc ks Q pc' (a0 :: a1 :: a2 :: a3 :: a4 :: a5 :: a6 :: a7 :: a8 :: a9 :: a10 :: a11 :: a12 :: some (.int v) :: t) st h) : Ev G M d kc ks Q pc (a0 :: a1 :: a2 :: a3 :: a4 :: a5 :: a6 :: a7 :: a8 :: a9 :: a10 :: a11 :: a12 :: some (.int x) :: t) st h := by
  obtain ⟨hd, rfl⟩ := hd
  intro p l e R s m args below meth c A H locs cells slots lsA Qf hc h1 h2 hw hS hl hr
  obtain ⟨kk, hkk⟩ := List.getElem?_of_mem (ev_pr_mem.mpr (show (a0 :: a1 :: a2 :: a3 :: a4 :: a5 :: a6 :: a7 :: a8 :: a9 :: a10 :: a11 :: a12 :: some (.int x) :: t)[13]? = some (some (.int x)) from rfl))
  refine lv_iinc hc.1 hc.2.1 hd (ev_ls_has hl) hkk hv (Nat.lt_of_lt_of_le (by simp only [List.length_cons]; omega) hl.2.2.1) rfl (fun lsB hB => ?_)
  exact k p l e R s m args below meth c A H locs cells slots lsB Qf hc h1 h2 hw hS (ev_ls_st1 (L := 0) hl.2.2.1 (ev_hp (i := 12) (a := a12) rfl hp) hB) hr
theorem ev_iload_14 {a0 a1 a2 a3 a4 a5 a6 a7 a8 a9 a10 a11 a12 a13 : Option Value} {t : List (Option Value)} {x : Int32} (hd : fe M pc (.iload 14) 2 pc') (k : Ev G M d kc ks Q pc' (a0 :: a1 :: a2 :: a3 :: a4 :: a5 :: a6 :: a7 :: a8 :: a9 :: a10 :: a11 :: a12 :: a13 :: some (.int x) :: t) (.int x :: st) h) : Ev G M d kc ks Q pc (a0 :: a1 :: a2 :: a3 :: a4 :: a5 :: a6 :: a7 :: a8 :: a9 :: a10 :: a11 :: a12 :: a13 :: some (.int x) :: t) st h := by
  obtain ⟨hd, rfl⟩ := hd
  intro p l e R s m args below meth c A H locs cells slots lsA Qf hc h1 h2 hw hS hl hr
  exact lv_iload hc.1 hc.2.1 hd (hl.2.2.2 14 _ rfl) (k p l e R s m args below meth c A H locs cells slots lsA Qf hc h1 h2 hw hS hl hr)
theorem ev_lload_14 {a0 a1 a2 a3 a4 a5 a6 a7 a8 a9 a10 a11 a12 a13 : Option Value} {t : List (Option Value)} {x : Int64} (hd : fe M pc (.lload 14) 2 pc') (k : Ev G M d kc ks Q pc' (a0 :: a1 :: a2 :: a3 :: a4 :: a5 :: a6 :: a7 :: a8 :: a9 :: a10 :: a11 :: a12 :: a13 :: some (.long x) :: t) (.long x :: st) h) : Ev G M d kc ks Q pc (a0 :: a1 :: a2 :: a3 :: a4 :: a5 :: a6 :: a7 :: a8 :: a9 :: a10 :: a11 :: a12 :: a13 :: some (.long x) :: t) st h := by
  obtain ⟨hd, rfl⟩ := hd
  intro p l e R s m args below meth c A H locs cells slots lsA Qf hc h1 h2 hw hS hl hr
  exact lv_lload hc.1 hc.2.1 hd (hl.2.2.2 14 _ rfl) (k p l e R s m args below meth c A H locs cells slots lsA Qf hc h1 h2 hw hS hl hr)
theorem ev_aload_14 {a0 a1 a2 a3 a4 a5 a6 a7 a8 a9 a10 a11 a12 a13 : Option Value} {t : List (Option Value)} {x : Nat} (hd : fe M pc (.aload 14) 2 pc') (k : Ev G M d kc ks Q pc' (a0 :: a1 :: a2 :: a3 :: a4 :: a5 :: a6 :: a7 :: a8 :: a9 :: a10 :: a11 :: a12 :: a13 :: some (.ref x) :: t) (.ref x :: st) h) : Ev G M d kc ks Q pc (a0 :: a1 :: a2 :: a3 :: a4 :: a5 :: a6 :: a7 :: a8 :: a9 :: a10 :: a11 :: a12 :: a13 :: some (.ref x) :: t) st h := by
  obtain ⟨hd, rfl⟩ := hd
  intro p l e R s m args below meth c A H locs cells slots lsA Qf hc h1 h2 hw hS hl hr
  exact lv_aload hc.1 hc.2.1 hd (hl.2.2.2 14 _ rfl) (k p l e R s m args below meth c A H locs cells slots lsA Qf hc h1 h2 hw hS hl hr)
theorem ev_aloadN_14 {a0 a1 a2 a3 a4 a5 a6 a7 a8 a9 a10 a11 a12 a13 : Option Value} {t : List (Option Value)} (hd : fe M pc (.aload 14) 2 pc') (k : Ev G M d kc ks Q pc' (a0 :: a1 :: a2 :: a3 :: a4 :: a5 :: a6 :: a7 :: a8 :: a9 :: a10 :: a11 :: a12 :: a13 :: some .null :: t) (.null :: st) h) : Ev G M d kc ks Q pc (a0 :: a1 :: a2 :: a3 :: a4 :: a5 :: a6 :: a7 :: a8 :: a9 :: a10 :: a11 :: a12 :: a13 :: some .null :: t) st h := by
  obtain ⟨hd, rfl⟩ := hd
  intro p l e R s m args below meth c A H locs cells slots lsA Qf hc h1 h2 hw hS hl hr
  exact lv_aloadN hc.1 hc.2.1 hd (hl.2.2.2 14 _ rfl) (k p l e R s m args below meth c A H locs cells slots lsA Qf hc h1 h2 hw hS hl hr)
theorem ev_istore_14 {a0 a1 a2 a3 a4 a5 a6 a7 a8 a9 a10 a11 a12 a13 a14 : Option Value} {t : List (Option Value)} {x : Int32} (hd : fe M pc (.istore 14) 2 pc') (hp : ev_nl a13 = true) (k : Ev G M d kc ks Q pc' (a0 :: a1 :: a2 :: a3 :: a4 :: a5 :: a6 :: a7 :: a8 :: a9 :: a10 :: a11 :: a12 :: a13 :: some (.int x) :: t) st h) : Ev G M d kc ks Q pc (a0 :: a1 :: a2 :: a3 :: a4 :: a5 :: a6 :: a7 :: a8 :: a9 :: a10 :: a11 :: a12 :: a13 :: a14 :: t) (.int x :: st) h := by
  obtain ⟨hd, rfl⟩ := hd
  intro p l e R s m args below meth c A H locs cells slots lsA Qf hc h1 h2 hw hS hl hr
  refine lv_istore hc.1 hc.2.1 hd (ev_ls_has hl) (Nat.lt_of_lt_of_le (by simp only [List.length_cons]; omega) hl.2.2.1) rfl (fun lsB hB => ?_)
  exact k p l e R s m args below meth c A H locs cells slots lsB Qf hc h1 h2 hw hS (ev_ls_st1 (L := 0) hl.2.2.1 (ev_hp (i := 13) (a := a13) rfl hp) hB) hr
theorem ev_astore_14 {a0 a1 a2 a3 a4 a5 a6 a7 a8 a9 a10 a11 a12 a13 a14 : Option Value} {t : List (Option Value)} {x : Nat} (hd : fe M pc (.astore 14) 2 pc') (hp : ev_nl a13 = true) (k : Ev G M d kc ks Q pc' (a0 :: a1 :: a2 :: a3 :: a4 :: a5 :: a6 :: a7 :: a8 :: a9 :: a10 :: a11 :: a12 :: a13 :: some (.ref x) :: t) st h) : Ev G M d kc ks Q pc (a0 :: a1 :: a2 :: a3 :: a4 :: a5 :: a6 :: a7 :: a8 :: a9 :: a10 :: a11 :: a12 :: a13 :: a14 :: t) (.ref x :: st) h := by
  obtain ⟨hd, rfl⟩ := hd
  intro p l e R s m args below meth c A H locs cells slots lsA Qf hc h1 h2 hw hS hl hr
  refine lv_astore hc.1 hc.2.1 hd (ev_ls_has hl) (Nat.lt_of_lt_of_le (by simp only [List.length_cons]; omega) hl.2.2.1) rfl (fun lsB hB => ?_)
  exact k p l e R s m args below meth c A H locs cells slots lsB Qf hc h1 h2 hw hS (ev_ls_st1 (L := 0) hl.2.2.1 (ev_hp (i := 13) (a := a13) rfl hp) hB) hr
theorem ev_astoreN_14 {a0 a1 a2 a3 a4 a5 a6 a7 a8 a9 a10 a11 a12 a13 a14 : Option Value} {t : List (Option Value)}  (hd : fe M pc (.astore 14) 2 pc') (hp : ev_nl a13 = true) (k : Ev G M d kc ks Q pc' (a0 :: a1 :: a2 :: a3 :: a4 :: a5 :: a6 :: a7 :: a8 :: a9 :: a10 :: a11 :: a12 :: a13 :: some (.null) :: t) st h) : Ev G M d kc ks Q pc (a0 :: a1 :: a2 :: a3 :: a4 :: a5 :: a6 :: a7 :: a8 :: a9 :: a10 :: a11 :: a12 :: a13 :: a14 :: t) (.null :: st) h := by
  obtain ⟨hd, rfl⟩ := hd
  intro p l e R s m args below meth c A H locs cells slots lsA Qf hc h1 h2 hw hS hl hr
  refine lv_astoreN hc.1 hc.2.1 hd (ev_ls_has hl) (Nat.lt_of_lt_of_le (by simp only [List.length_cons]; omega) hl.2.2.1) rfl (fun lsB hB => ?_)
  exact k p l e R s m args below meth c A H locs cells slots lsB Qf hc h1 h2 hw hS (ev_ls_st1 (L := 0) hl.2.2.1 (ev_hp (i := 13) (a := a13) rfl hp) hB) hr
theorem ev_lstore_14 {a0 a1 a2 a3 a4 a5 a6 a7 a8 a9 a10 a11 a12 a13 a14 a15 : Option Value} {t : List (Option Value)} {x : Int64} (hd : fe M pc (.lstore 14) 2 pc') (hp : ev_nl a13 = true) (k : Ev G M d kc ks Q pc' (a0 :: a1 :: a2 :: a3 :: a4 :: a5 :: a6 :: a7 :: a8 :: a9 :: a10 :: a11 :: a12 :: a13 :: some (.long x) :: none :: t) st h) : Ev G M d kc ks Q pc (a0 :: a1 :: a2 :: a3 :: a4 :: a5 :: a6 :: a7 :: a8 :: a9 :: a10 :: a11 :: a12 :: a13 :: a14 :: a15 :: t) (.long x :: st) h := by
  obtain ⟨hd, rfl⟩ := hd
  intro p l e R s m args below meth c A H locs cells slots lsA Qf hc h1 h2 hw hS hl hr
  refine lv_lstore hc.1 hc.2.1 hd (ev_ls_has hl) (Nat.lt_of_lt_of_le (by simp only [List.length_cons]; omega) hl.2.2.1) rfl (fun lsB hB => ?_)
  exact k p l e R s m args below meth c A H locs cells slots lsB Qf hc h1 h2 hw hS (ev_ls_st2 hl.2.2.1 (ev_hp (i := 13) (a := a13) rfl hp) hB) hr
theorem ev_iinc_14 {a0 a1 a2 a3 a4 a5 a6 a7 a8 a9 a10 a11 a12 a13 : Option Value} {t : List (Option Value)} {x v : Int32} {n : Int} (hd : fe M pc (.iinc 14 n) 3 pc') (hv : x + Int32.ofInt n = v) (hp : ev_nl a13 = true) (k : Ev G M d kc ks Q pc' (a0 :: a1 :: a2 :: a3 :: a4 :: a5 :: a6 :: a7 :: a8 :: a9 :: a10 :: a11 :: a12 :: a13 :: some (.int v) :: t) st h) : Ev G M d kc ks Q pc (a0 :: a1 :: a2 :: a3 :: a4 :: a5 :: a6 :: a7 :: a8 :: a9 :: a10 :: a11 :: a12 :: a13 :: some (.int x) :: t) st h := by
  obtain ⟨hd, rfl⟩ := hd
  intro p l e R s m args below meth c A H locs cells slots lsA Qf hc h1 h2 hw hS hl hr
  obtain ⟨kk, hkk⟩ := List.getElem?_of_mem (ev_pr_mem.mpr (show (a0 :: a1 :: a2 :: a3 :: a4 :: a5 :: a6 :: a7 :: a8 :: a9 :: a10 :: a11 :: a12 :: a13 :: some (.int x) :: t)[14]? = some (some (.int x)) from rfl))
  refine lv_iinc hc.1 hc.2.1 hd (ev_ls_has hl) hkk hv (Nat.lt_of_lt_of_le (by simp only [List.length_cons]; omega) hl.2.2.1) rfl (fun lsB hB => ?_)
  exact k p l e R s m args below meth c A H locs cells slots lsB Qf hc h1 h2 hw hS (ev_ls_st1 (L := 0) hl.2.2.1 (ev_hp (i := 13) (a := a13) rfl hp) hB) hr
theorem ev_iload_15 {a0 a1 a2 a3 a4 a5 a6 a7 a8 a9 a10 a11 a12 a13 a14 : Option Value} {t : List (Option Value)} {x : Int32} (hd : fe M pc (.iload 15) 2 pc') (k : Ev G M d kc ks Q pc' (a0 :: a1 :: a2 :: a3 :: a4 :: a5 :: a6 :: a7 :: a8 :: a9 :: a10 :: a11 :: a12 :: a13 :: a14 :: some (.int x) :: t) (.int x :: st) h) : Ev G M d kc ks Q pc (a0 :: a1 :: a2 :: a3 :: a4 :: a5 :: a6 :: a7 :: a8 :: a9 :: a10 :: a11 :: a12 :: a13 :: a14 :: some (.int x) :: t) st h := by
  obtain ⟨hd, rfl⟩ := hd
  intro p l e R s m args below meth c A H locs cells slots lsA Qf hc h1 h2 hw hS hl hr
  exact lv_iload hc.1 hc.2.1 hd (hl.2.2.2 15 _ rfl) (k p l e R s m args below meth c A H locs cells slots lsA Qf hc h1 h2 hw hS hl hr)
theorem ev_lload_15 {a0 a1 a2 a3 a4 a5 a6 a7 a8 a9 a10 a11 a12 a13 a14 : Option Value} {t : List (Option Value)} {x : Int64} (hd : fe M pc (.lload 15) 2 pc') (k : Ev G M d kc ks Q pc' (a0 :: a1 :: a2 :: a3 :: a4 :: a5 :: a6 :: a7 :: a8 :: a9 :: a10 :: a11 :: a12 :: a13 :: a14 :: some (.long x) :: t) (.long x :: st) h) : Ev G M d kc ks Q pc (a0 :: a1 :: a2 :: a3 :: a4 :: a5 :: a6 :: a7 :: a8 :: a9 :: a10 :: a11 :: a12 :: a13 :: a14 :: some (.long x) :: t) st h := by
  obtain ⟨hd, rfl⟩ := hd
  intro p l e R s m args below meth c A H locs cells slots lsA Qf hc h1 h2 hw hS hl hr
  exact lv_lload hc.1 hc.2.1 hd (hl.2.2.2 15 _ rfl) (k p l e R s m args below meth c A H locs cells slots lsA Qf hc h1 h2 hw hS hl hr)
theorem ev_aload_15 {a0 a1 a2 a3 a4 a5 a6 a7 a8 a9 a10 a11 a12 a13 a14 : Option Value} {t : List (Option Value)} {x : Nat} (hd : fe M pc (.aload 15) 2 pc') (k : Ev G M d kc ks Q pc' (a0 :: a1 :: a2 :: a3 :: a4 :: a5 :: a6 :: a7 :: a8 :: a9 :: a10 :: a11 :: a12 :: a13 :: a14 :: some (.ref x) :: t) (.ref x :: st) h) : Ev G M d kc ks Q pc (a0 :: a1 :: a2 :: a3 :: a4 :: a5 :: a6 :: a7 :: a8 :: a9 :: a10 :: a11 :: a12 :: a13 :: a14 :: some (.ref x) :: t) st h := by
  obtain ⟨hd, rfl⟩ := hd
  intro p l e R s m args below meth c A H locs cells slots lsA Qf hc h1 h2 hw hS hl hr
  exact lv_aload hc.1 hc.2.1 hd (hl.2.2.2 15 _ rfl) (k p l e R s m args below meth c A H locs cells slots lsA Qf hc h1 h2 hw hS hl hr)
theorem ev_aloadN_15 {a0 a1 a2 a3 a4 a5 a6 a7 a8 a9 a10 a11 a12 a13 a14 : Option Value} {t : List (Option Value)} (hd : fe M pc (.aload 15) 2 pc') (k : Ev G M d kc ks Q pc' (a0 :: a1 :: a2 :: a3 :: a4 :: a5 :: a6 :: a7 :: a8 :: a9 :: a10 :: a11 :: a12 :: a13 :: a14 :: some .null :: t) (.null :: st) h) : Ev G M d kc ks Q pc (a0 :: a1 :: a2 :: a3 :: a4 :: a5 :: a6 :: a7 :: a8 :: a9 :: a10 :: a11 :: a12 :: a13 :: a14 :: some .null :: t) st h := by
  obtain ⟨hd, rfl⟩ := hd
  intro p l e R s m args below meth c A H locs cells slots lsA Qf hc h1 h2 hw hS hl hr
  exact lv_aloadN hc.1 hc.2.1 hd (hl.2.2.2 15 _ rfl) (k p l e R s m args below meth c A H locs cells slots lsA Qf hc h1 h2 hw hS hl hr)
theorem ev_istore_15 {a0 a1 a2 a3 a4 a5 a6 a7 a8 a9 a10 a11 a12 a13 a14 a15 : Option Value} {t : List (Option Value)} {x : Int32} (hd : fe M pc (.istore 15) 2 pc') (hp : ev_nl a14 = true) (k : Ev G M d kc ks Q pc' (a0 :: a1 :: a2 :: a3 :: a4 :: a5 :: a6 :: a7 :: a8 :: a9 :: a10 :: a11 :: a12 :: a13 :: a14 :: some (.int x) :: t) st h) : Ev G M d kc ks Q pc (a0 :: a1 :: a2 :: a3 :: a4 :: a5 :: a6 :: a7 :: a8 :: a9 :: a10 :: a11 :: a12 :: a13 :: a14 :: a15 :: t) (.int x :: st) h := by
  obtain ⟨hd, rfl⟩ := hd
  intro p l e R s m args below meth c A H locs cells slots lsA Qf hc h1 h2 hw hS hl hr
  refine lv_istore hc.1 hc.2.1 hd (ev_ls_has hl) (Nat.lt_of_lt_of_le (by simp only [List.length_cons]; omega) hl.2.2.1) rfl (fun lsB hB => ?_)
  exact k p l e R s m args below meth c A H locs cells slots lsB Qf hc h1 h2 hw hS (ev_ls_st1 (L := 0) hl.2.2.1 (ev_hp (i := 14) (a := a14) rfl hp) hB) hr
theorem ev_astore_15 {a0 a1 a2 a3 a4 a5 a6 a7 a8 a9 a10 a11 a12 a13 a14 a15 : Option Value} {t : List (Option Value)} {x : Nat} (hd : fe M pc (.astore 15) 2 pc') (hp : ev_nl a14 = true) (k : Ev G M d kc ks Q pc' (a0 :: a1 :: a2 :: a3 :: a4 :: a5 :: a6 :: a7 :: a8 :: a9 :: a10 :: a11 :: a12 :: a13 :: a14 :: some (.ref x) :: t) st h) : Ev G M d kc ks Q pc (a0 :: a1 :: a2 :: a3 :: a4 :: a5 :: a6 :: a7 :: a8 :: a9 :: a10 :: a11 :: a12 :: a13 :: a14 :: a15 :: t) (.ref x :: st) h := by
  obtain ⟨hd, rfl⟩ := hd
  intro p l e R s m args below meth c A H locs cells slots lsA Qf hc h1 h2 hw hS hl hr
  refine lv_astore hc.1 hc.2.1 hd (ev_ls_has hl) (Nat.lt_of_lt_of_le (by simp only [List.length_cons]; omega) hl.2.2.1) rfl (fun lsB hB => ?_)
  exact k p l e R s m args below meth c A H locs cells slots lsB Qf hc h1 h2 hw hS (ev_ls_st1 (L := 0) hl.2.2.1 (ev_hp (i := 14) (a := a14) rfl hp) hB) hr
theorem ev_astoreN_15 {a0 a1 a2 a3 a4 a5 a6 a7 a8 a9 a10 a11 a12 a13 a14 a15 : Option Value} {t : List (Option Value)}  (hd : fe M pc (.astore 15) 2 pc') (hp : ev_nl a14 = true) (k : Ev G M d kc ks Q pc' (a0 :: a1 :: a2 :: a3 :: a4 :: a5 :: a6 :: a7 :: a8 :: a9 :: a10 :: a11 :: a12 :: a13 :: a14 :: some (.null) :: t) st h) : Ev G M d kc ks Q pc (a0 :: a1 :: a2 :: a3 :: a4 :: a5 :: a6 :: a7 :: a8 :: a9 :: a10 :: a11 :: a12 :: a13 :: a14 :: a15 :: t) (.null :: st) h := by
  obtain ⟨hd, rfl⟩ := hd
  intro p l e R s m args below meth c A H locs cells slots lsA Qf hc h1 h2 hw hS hl hr
  refine lv_astoreN hc.1 hc.2.1 hd (ev_ls_has hl) (Nat.lt_of_lt_of_le (by simp only [List.length_cons]; omega) hl.2.2.1) rfl (fun lsB hB => ?_)
  exact k p l e R s m args below meth c A H locs cells slots lsB Qf hc h1 h2 hw hS (ev_ls_st1 (L := 0) hl.2.2.1 (ev_hp (i := 14) (a := a14) rfl hp) hB) hr
theorem ev_lstore_15 {a0 a1 a2 a3 a4 a5 a6 a7 a8 a9 a10 a11 a12 a13 a14 a15 a16 : Option Value} {t : List (Option Value)} {x : Int64} (hd : fe M pc (.lstore 15) 2 pc') (hp : ev_nl a14 = true) (k : Ev G M d kc ks Q pc' (a0 :: a1 :: a2 :: a3 :: a4 :: a5 :: a6 :: a7 :: a8 :: a9 :: a10 :: a11 :: a12 :: a13 :: a14 :: some (.long x) :: none :: t) st h) : Ev G M d kc ks Q pc (a0 :: a1 :: a2 :: a3 :: a4 :: a5 :: a6 :: a7 :: a8 :: a9 :: a10 :: a11 :: a12 :: a13 :: a14 :: a15 :: a16 :: t) (.long x :: st) h := by
  obtain ⟨hd, rfl⟩ := hd
  intro p l e R s m args below meth c A H locs cells slots lsA Qf hc h1 h2 hw hS hl hr
  refine lv_lstore hc.1 hc.2.1 hd (ev_ls_has hl) (Nat.lt_of_lt_of_le (by simp only [List.length_cons]; omega) hl.2.2.1) rfl (fun lsB hB => ?_)
  exact k p l e R s m args below meth c A H locs cells slots lsB Qf hc h1 h2 hw hS (ev_ls_st2 hl.2.2.1 (ev_hp (i := 14) (a := a14) rfl hp) hB) hr
theorem ev_iinc_15 {a0 a1 a2 a3 a4 a5 a6 a7 a8 a9 a10 a11 a12 a13 a14 : Option Value} {t : List (Option Value)} {x v : Int32} {n : Int} (hd : fe M pc (.iinc 15 n) 3 pc') (hv : x + Int32.ofInt n = v) (hp : ev_nl a14 = true) (k : Ev G M d kc ks Q pc' (a0 :: a1 :: a2 :: a3 :: a4 :: a5 :: a6 :: a7 :: a8 :: a9 :: a10 :: a11 :: a12 :: a13 :: a14 :: some (.int v) :: t) st h) : Ev G M d kc ks Q pc (a0 :: a1 :: a2 :: a3 :: a4 :: a5 :: a6 :: a7 :: a8 :: a9 :: a10 :: a11 :: a12 :: a13 :: a14 :: some (.int x) :: t) st h := by
  obtain ⟨hd, rfl⟩ := hd
  intro p l e R s m args below meth c A H locs cells slots lsA Qf hc h1 h2 hw hS hl hr
  obtain ⟨kk, hkk⟩ := List.getElem?_of_mem (ev_pr_mem.mpr (show (a0 :: a1 :: a2 :: a3 :: a4 :: a5 :: a6 :: a7 :: a8 :: a9 :: a10 :: a11 :: a12 :: a13 :: a14 :: some (.int x) :: t)[15]? = some (some (.int x)) from rfl))
  refine lv_iinc hc.1 hc.2.1 hd (ev_ls_has hl) hkk hv (Nat.lt_of_lt_of_le (by simp only [List.length_cons]; omega) hl.2.2.1) rfl (fun lsB hB => ?_)
  exact k p l e R s m args below meth c A H locs cells slots lsB Qf hc h1 h2 hw hS (ev_ls_st1 (L := 0) hl.2.2.1 (ev_hp (i := 14) (a := a14) rfl hp) hB) hr
theorem ev_iload_16 {a0 a1 a2 a3 a4 a5 a6 a7 a8 a9 a10 a11 a12 a13 a14 a15 : Option Value} {t : List (Option Value)} {x : Int32} (hd : fe M pc (.iload 16) 2 pc') (k : Ev G M d kc ks Q pc' (a0 :: a1 :: a2 :: a3 :: a4 :: a5 :: a6 :: a7 :: a8 :: a9 :: a10 :: a11 :: a12 :: a13 :: a14 :: a15 :: some (.int x) :: t) (.int x :: st) h) : Ev G M d kc ks Q pc (a0 :: a1 :: a2 :: a3 :: a4 :: a5 :: a6 :: a7 :: a8 :: a9 :: a10 :: a11 :: a12 :: a13 :: a14 :: a15 :: some (.int x) :: t) st h := by
  obtain ⟨hd, rfl⟩ := hd
  intro p l e R s m args below meth c A H locs cells slots lsA Qf hc h1 h2 hw hS hl hr
  exact lv_iload hc.1 hc.2.1 hd (hl.2.2.2 16 _ rfl) (k p l e R s m args below meth c A H locs cells slots lsA Qf hc h1 h2 hw hS hl hr)
theorem ev_lload_16 {a0 a1 a2 a3 a4 a5 a6 a7 a8 a9 a10 a11 a12 a13 a14 a15 : Option Value} {t : List (Option Value)} {x : Int64} (hd : fe M pc (.lload 16) 2 pc') (k : Ev G M d kc ks Q pc' (a0 :: a1 :: a2 :: a3 :: a4 :: a5 :: a6 :: a7 :: a8 :: a9 :: a10 :: a11 :: a12 :: a13 :: a14 :: a15 :: some (.long x) :: t) (.long x :: st) h) : Ev G M d kc ks Q pc (a0 :: a1 :: a2 :: a3 :: a4 :: a5 :: a6 :: a7 :: a8 :: a9 :: a10 :: a11 :: a12 :: a13 :: a14 :: a15 :: some (.long x) :: t) st h := by
  obtain ⟨hd, rfl⟩ := hd
  intro p l e R s m args below meth c A H locs cells slots lsA Qf hc h1 h2 hw hS hl hr
  exact lv_lload hc.1 hc.2.1 hd (hl.2.2.2 16 _ rfl) (k p l e R s m args below meth c A H locs cells slots lsA Qf hc h1 h2 hw hS hl hr)
theorem ev_aload_16 {a0 a1 a2 a3 a4 a5 a6 a7 a8 a9 a10 a11 a12 a13 a14 a15 : Option Value} {t : List (Option Value)} {x : Nat} (hd : fe M pc (.aload 16) 2 pc') (k : Ev G M d kc ks Q pc' (a0 :: a1 :: a2 :: a3 :: a4 :: a5 :: a6 :: a7 :: a8 :: a9 :: a10 :: a11 :: a12 :: a13 :: a14 :: a15 :: some (.ref x) :: t) (.ref x :: st) h) : Ev G M d kc ks Q pc (a0 :: a1 :: a2 :: a3 :: a4 :: a5 :: a6 :: a7 :: a8 :: a9 :: a10 :: a11 :: a12 :: a13 :: a14 :: a15 :: some (.ref x) :: t) st h := by
  obtain ⟨hd, rfl⟩ := hd
  intro p l e R s m args below meth c A H locs cells slots lsA Qf hc h1 h2 hw hS hl hr
  exact lv_aload hc.1 hc.2.1 hd (hl.2.2.2 16 _ rfl) (k p l e R s m args below meth c A H locs cells slots lsA Qf hc h1 h2 hw hS hl hr)
theorem ev_aloadN_16 {a0 a1 a2 a3 a4 a5 a6 a7 a8 a9 a10 a11 a12 a13 a14 a15 : Option Value} {t : List (Option Value)} (hd : fe M pc (.aload 16) 2 pc') (k : Ev G M d kc ks Q pc' (a0 :: a1 :: a2 :: a3 :: a4 :: a5 :: a6 :: a7 :: a8 :: a9 :: a10 :: a11 :: a12 :: a13 :: a14 :: a15 :: some .null :: t) (.null :: st) h) : Ev G M d kc ks Q pc (a0 :: a1 :: a2 :: a3 :: a4 :: a5 :: a6 :: a7 :: a8 :: a9 :: a10 :: a11 :: a12 :: a13 :: a14 :: a15 :: some .null :: t) st h := by
  obtain ⟨hd, rfl⟩ := hd
  intro p l e R s m args below meth c A H locs cells slots lsA Qf hc h1 h2 hw hS hl hr
  exact lv_aloadN hc.1 hc.2.1 hd (hl.2.2.2 16 _ rfl) (k p l e R s m args below meth c A H locs cells slots lsA Qf hc h1 h2 hw hS hl hr)
theorem ev_istore_16 {a0 a1 a2 a3 a4 a5 a6 a7 a8 a9 a10 a11 a12 a13 a14 a15 a16 : Option Value} {t : List (Option Value)} {x : Int32} (hd : fe M pc (.istore 16) 2 pc') (hp : ev_nl a15 = true) (k : Ev G M d kc ks Q pc' (a0 :: a1 :: a2 :: a3 :: a4 :: a5 :: a6 :: a7 :: a8 :: a9 :: a10 :: a11 :: a12 :: a13 :: a14 :: a15 :: some (.int x) :: t) st h) : Ev G M d kc ks Q pc (a0 :: a1 :: a2 :: a3 :: a4 :: a5 :: a6 :: a7 :: a8 :: a9 :: a10 :: a11 :: a12 :: a13 :: a14 :: a15 :: a16 :: t) (.int x :: st) h := by
  obtain ⟨hd, rfl⟩ := hd
  intro p l e R s m args below meth c A H locs cells slots lsA Qf hc h1 h2 hw hS hl hr
  refine lv_istore hc.1 hc.2.1 hd (ev_ls_has hl) (Nat.lt_of_lt_of_le (by simp only [List.length_cons]; omega) hl.2.2.1) rfl (fun lsB hB => ?_)
  exact k p l e R s m args below meth c A H locs cells slots lsB Qf hc h1 h2 hw hS (ev_ls_st1 (L := 0) hl.2.2.1 (ev_hp (i := 15) (a := a15) rfl hp) hB) hr
theorem ev_astore_16 {a0 a1 a2 a3 a4 a5 a6 a7 a8 a9 a10 a11 a12 a13 a14 a15 a16 : Option Value} {t : List (Option Value)} {x : Nat} (hd : fe M pc (.astore 16) 2 pc') (hp : ev_nl a15 = true) (k : Ev G M d kc ks Q pc' (a0 :: a1 :: a2 :: a3 :: a4 :: a5 :: a6 :: a7 :: a8 :: a9 :: a10 :: a11 :: a12 :: a13 :: a14 :: a15 :: some (.ref x) :: t) st h) : Ev G M d kc ks Q pc (a0 :: a1 :: a2 :: a3 :: a4 :: a5 :: a6 :: a7 :: a8 :: a9 :: a10 :: a11 :: a12 :: a13 :: a14 :: a15 :: a16 :: t) (.ref x :: st) h := by
  obtain ⟨hd, rfl⟩ := hd
  intro p l e R s m args below meth c A H locs cells slots lsA Qf hc h1 h2 hw hS hl hr
  refine lv_astore hc.1 hc.2.1 hd (ev_ls_has hl) (Nat.lt_of_lt_of_le (by simp only [List.length_cons]; omega) hl.2.2.1) rfl (fun lsB hB => ?_)
  exact k p l e R s m args below meth c A H locs cells slots lsB Qf hc h1 h2 hw hS (ev_ls_st1 (L := 0) hl.2.2.1 (ev_hp (i := 15) (a := a15) rfl hp) hB) hr
theorem ev_astoreN_16 {a0 a1 a2 a3 a4 a5 a6 a7 a8 a9 a10 a11 a12 a13 a14 a15 a16 : Option Value} {t : List (Option Value)}  (hd : fe M pc (.astore 16) 2 pc') (hp : ev_nl a15 = true) (k : Ev G M d kc ks Q pc' (a0 :: a1 :: a2 :: a3 :: a4 :: a5 :: a6 :: a7 :: a8 :: a9 :: a10 :: a11 :: a12 :: a13 :: a14 :: a15 :: some (.null) :: t) st h) : Ev G M d kc ks Q pc (a0 :: a1 :: a2 :: a3 :: a4 :: a5 :: a6 :: a7 :: a8 :: a9 :: a10 :: a11 :: a12 :: a13 :: a14 :: a15 :: a16 :: t) (.null :: st) h := by
  obtain ⟨hd, rfl⟩ := hd
  intro p l e R s m args below meth c A H locs cells slots lsA Qf hc h1 h2 hw hS hl hr
  refine lv_astoreN hc.1 hc.2.1 hd (ev_ls_has hl) (Nat.lt_of_lt_of_le (by simp only [List.length_cons]; omega) hl.2.2.1) rfl (fun lsB hB => ?_)
  exact k p l e R s m args below meth c A H locs cells slots lsB Qf hc h1 h2 hw hS (ev_ls_st1 (L := 0) hl.2.2.1 (ev_hp (i := 15) (a := a15) rfl hp) hB) hr
theorem ev_lstore_16 {a0 a1 a2 a3 a4 a5 a6 a7 a8 a9 a10 a11 a12 a13 a14 a15 a16 a17 : Option Value} {t : List (Option Value)} {x : Int64} (hd : fe M pc (.lstore 16) 2 pc') (hp : ev_nl a15 = true) (k : Ev G M d kc ks Q pc' (a0 :: a1 :: a2 :: a3 :: a4 :: a5 :: a6 :: a7 :: a8 :: a9 :: a10 :: a11 :: a12 :: a13 :: a14 :: a15 :: some (.long x) :: none :: t) st h) : Ev G M d kc ks Q pc (a0 :: a1 :: a2 :: a3 :: a4 :: a5 :: a6 :: a7 :: a8 :: a9 :: a10 :: a11 :: a12 :: a13 :: a14 :: a15 :: a16 :: a17 :: t) (.long x :: st) h := by
  obtain ⟨hd, rfl⟩ := hd
  intro p l e R s m args below meth c A H locs cells slots lsA Qf hc h1 h2 hw hS hl hr
  refine lv_lstore hc.1 hc.2.1 hd (ev_ls_has hl) (Nat.lt_of_lt_of_le (by simp only [List.length_cons]; omega) hl.2.2.1) rfl (fun lsB hB => ?_)
  exact k p l e R s m args below meth c A H locs cells slots lsB Qf hc h1 h2 hw hS (ev_ls_st2 hl.2.2.1 (ev_hp (i := 15) (a := a15) rfl hp) hB) hr
theorem ev_iinc_16 {a0 a1 a2 a3 a4 a5 a6 a7 a8 a9 a10 a11 a12 a13 a14 a15 : Option Value} {t : List (Option Value)} {x v : Int32} {n : Int} (hd : fe M pc (.iinc 16 n) 3 pc') (hv : x + Int32.ofInt n = v) (hp : ev_nl a15 = true) (k : Ev G M d kc ks Q pc' (a0 :: a1 :: a2 :: a3 :: a4 :: a5 :: a6 :: a7 :: a8 :: a9 :: a10 :: a11 :: a12 :: a13 :: a14 :: a15 :: some (.int v) :: t) st h) : Ev G M d kc ks Q pc (a0 :: a1 :: a2 :: a3 :: a4 :: a5 :: a6 :: a7 :: a8 :: a9 :: a10 :: a11 :: a12 :: a13 :: a14 :: a15 :: some (.int x) :: t) st h := by
  obtain ⟨hd, rfl⟩ := hd
  intro p l e R s m args below meth c A H locs cells slots lsA Qf hc h1 h2 hw hS hl hr
  obtain ⟨kk, hkk⟩ := List.getElem?_of_mem (ev_pr_mem.mpr (show (a0 :: a1 :: a2 :: a3 :: a4 :: a5 :: a6 :: a7 :: a8 :: a9 :: a10 :: a11 :: a12 :: a13 :: a14 :: a15 :: some (.int x) :: t)[16]? = some (some (.int x)) from rfl))
  refine lv_iinc hc.1 hc.2.1 hd (ev_ls_has hl) hkk hv (Nat.lt_of_lt_of_le (by simp only [List.length_cons]; omega) hl.2.2.1) rfl (fun lsB hB => ?_)
  exact k p l e R s m args below meth c A H locs cells slots lsB Qf hc h1 h2 hw hS (ev_ls_st1 (L := 0) hl.2.2.1 (ev_hp (i := 15) (a := a15) rfl hp) hB) hr
theorem ev_iload_17 {a0 a1 a2 a3 a4 a5 a6 a7 a8 a9 a10 a11 a12 a13 a14 a15 a16 : Option Value} {t : List (Option Value)} {x : Int32} (hd : fe M pc (.iload 17) 2 pc') (k : Ev G M d kc ks Q pc' (a0 :: a1 :: a2 :: a3 :: a4 :: a5 :: a6 :: a7 :: a8 :: a9 :: a10 :: a11 :: a12 :: a13 :: a14 :: a15 :: a16 :: some (.int x) :: t) (.int x :: st) h) : Ev G M d kc ks Q pc (a0 :: a1 :: a2 :: a3 :: a4 :: a5 :: a6 :: a7 :: a8 :: a9 :: a10 :: a11 :: a12 :: a13 :: a14 :: a15 :: a16 :: some (.int x) :: t) st h := by
  obtain ⟨hd, rfl⟩ := hd
  intro p l e R s m args below meth c A H locs cells slots lsA Qf hc h1 h2 hw hS hl hr
  exact lv_iload hc.1 hc.2.1 hd (hl.2.2.2 17 _ rfl) (k p l e R s m args below meth c A H locs cells slots lsA Qf hc h1 h2 hw hS hl hr)
theorem ev_lload_17 {a0 a1 a2 a3 a4 a5 a6 a7 a8 a9 a10 a11 a12 a13 a14 a15 a16 : Option Value} {t : List (Option Value)} {x : Int64} (hd : fe M pc (.lload 17) 2 pc') (k : Ev G M d kc ks Q pc' (a0 :: a1 :: a2 :: a3 :: a4 :: a5 :: a6 :: a7 :: a8 :: a9 :: a10 :: a11 :: a12 :: a13 :: a14 :: a15 :: a16 :: some (.long x) :: t) (.long x :: st) h) : Ev G M d kc ks Q pc (a0 :: a1 :: a2 :: a3 :: a4 :: a5 :: a6 :: a7 :: a8 :: a9 :: a10 :: a11 :: a12 :: a13 :: a14 :: a15 :: a16 :: some (.long x) :: t) st h := by
  obtain ⟨hd, rfl⟩ := hd
  intro p l e R s m args below meth c A H locs cells slots lsA Qf hc h1 h2 hw hS hl hr
  exact lv_lload hc.1 hc.2.1 hd (hl.2.2.2 17 _ rfl) (k p l e R s m args below meth c A H locs cells slots lsA Qf hc h1 h2 hw hS hl hr)
theorem ev_aload_17 {a0 a1 a2 a3 a4 a5 a6 a7 a8 a9 a10 a11 a12 a13 a14 a15 a16 : Option Value} {t : List (Option Value)} {x : Nat} (hd : fe M pc (.aload 17) 2 pc') (k : Ev G M d kc ks Q pc' (a0 :: a1 :: a2 :: a3 :: a4 :: a5 :: a6 :: a7 :: a8 :: a9 :: a10 :: a11 :: a12 :: a13 :: a14 :: a15 :: a16 :: some (.ref x) :: t) (.ref x :: st) h) : Ev G M d kc ks Q pc (a0 :: a1 :: a2 :: a3 :: a4 :: a5 :: a6 :: a7 :: a8 :: a9 :: a10 :: a11 :: a12 :: a13 :: a14 :: a15 :: a16 :: some (.ref x) :: t) st h := by
  obtain ⟨hd, rfl⟩ := hd
  intro p l e R s m args below meth c A H locs cells slots lsA Qf hc h1 h2 hw hS hl hr
  exact lv_aload hc.1 hc.2.1 hd (hl.2.2.2 17 _ rfl) (k p l e R s m args below meth c A H locs cells slots lsA Qf hc h1 h2 hw hS hl hr)
theorem ev_aloadN_17 {a0 a1 a2 a3 a4 a5 a6 a7 a8 a9 a10 a11 a12 a13 a14 a15 a16 : Option Value} {t : List (Option Value)} (hd : fe M pc (.aload 17) 2 pc') (k : Ev G M d kc ks Q pc' (a0 :: a1 :: a2 :: a3 :: a4 :: a5 :: a6 :: a7 :: a8 :: a9 :: a10 :: a11 :: a12 :: a13 :: a14 :: a15 :: a16 :: some .null :: t) (.null :: st) h) : Ev G M d kc ks Q pc (a0 :: a1 :: a2 :: a3 :: a4 :: a5 :: a6 :: a7 :: a8 :: a9 :: a10 :: a11 :: a12 :: a13 :: a14 :: a15 :: a16 :: some .null :: t) st h := by
  obtain ⟨hd, rfl⟩ := hd
  intro p l e R s m args below meth c A H locs cells slots lsA Qf hc h1 h2 hw hS hl hr
  exact lv_aloadN hc.1 hc.2.1 hd (hl.2.2.2 17 _ rfl) (k p l e R s m args below meth c A H locs cells slots lsA Qf hc h1 h2 hw hS hl hr)
theorem ev_istore_17 {a0 a1 a2 a3 a4 a5 a6 a7 a8 a9 a10 a11 a12 a13 a14 a15 a16 a17 : Option Value} {t : List (Option Value)} {x : Int32} (hd : fe M pc (.istore 17) 2 pc') (hp : ev_nl a16 = true) (k : Ev G M d kc ks Q pc' (a0 :: a1 :: a2 :: a3 :: a4 :: a5 :: a6 :: a7 :: a8 :: a9 :: a10 :: a11 :: a12 :: a13 :: a14 :: a15 :: a16 :: some (.int x) :: t) st h) : Ev G M d kc ks Q pc (a0 :: a1 :: a2 :: a3 :: a4 :: a5 :: a6 :: a7 :: a8 :: a9 :: a10 :: a11 :: a12 :: a13 :: a14 :: a15 :: a16 :: a17 :: t) (.int x :: st) h := by
  obtain ⟨hd, rfl⟩ := hd
  intro p l e R s m args below meth c A H locs cells slots lsA Qf hc h1 h2 hw hS hl hr
  refine lv_istore hc.1 hc.2.1 hd (ev_ls_has hl) (Nat.lt_of_lt_of_le (by simp only [List.length_cons]; omega) hl.2.2.1) rfl (fun lsB hB => ?_)
  exact k p l e R s m args below meth c A H locs cells slots lsB Qf hc h1 h2 hw hS (ev_ls_st1 (L := 0) hl.2.2.1 (ev_hp (i := 16) (a := a16) rfl hp) hB) hr
theorem ev_astore_17 {a0 a1 a2 a3 a4 a5 a6 a7 a8 a9 a10 a11 a12 a13 a14 a15 a16 a17 : Option Value} {t : List (Option Value)} {x : Nat} (hd : fe M pc (.astore 17) 2 pc') (hp : ev_nl a16 = true) (k : Ev G M d kc ks Q pc' (a0 :: a1 :: a2 :: a3 :: a4 :: a5 :: a6 :: a7 :: a8 :: a9 :: a10 :: a11 :: a12 :: a13 :: a14 :: a15 :: a16 :: some (.ref x) :: t) st h) : Ev G M d kc ks Q pc (a0 :: a1 :: a2 :: a3 :: a4 :: a5 :: a6 :: a7 :: a8 :: a9 :: a10 :: a11 :: a12 :: a13 :: a14 :: a15 :: a16 :: a17 :: t) (.ref x :: st) h := by
  obtain ⟨hd, rfl⟩ := hd
  intro p l e R s m args below meth c A H locs cells slots lsA Qf hc h1 h2 hw hS hl hr
  refine lv_astore hc.1 hc.2.1 hd (ev_ls_has hl) (Nat.lt_of_lt_of_le (by simp only [List.length_cons]; omega) hl.2.2.1) rfl (fun lsB hB => ?_)
  exact k p l e R s m args below meth c A H locs cells slots lsB Qf hc h1 h2 hw hS (ev_ls_st1 (L := 0) hl.2.2.1 (ev_hp (i := 16) (a := a16) rfl hp) hB) hr
theorem ev_astoreN_17 {a0 a1 a2 a3 a4 a5 a6 a7 a8 a9 a10 a11 a12 a13 a14 a15 a16 a17 : Option Value} {t : List (Option Value)}  (hd : fe M pc (.astore 17) 2 pc') (hp : ev_nl a16 = true) (k : Ev G M d kc ks Q pc' (a0 :: a1 :: a2 :: a3 :: a4 :: a5 :: a6 :: a7 :: a8 :: a9 :: a10 :: a11 :: a12 :: a13 :: a14 :: a15 :: a16 :: some (.null) :: t) st h) : Ev G M d kc ks Q pc (a0 :: a1 :: a2 :: a3 :: a4 :: a5 :: a6 :: a7 :: a8 :: a9 :: a10 :: a11 :: a12 :: a13 :: a14 :: a15 :: a16 :: a17 :: t) (.null :: st) h := by
  obtain ⟨hd, rfl⟩ := hd
  intro p l e R s m args below meth c A H locs cells slots lsA Qf hc h1 h2 hw hS hl hr
  refine lv_astoreN hc.1 hc.2.1 hd (ev_ls_has hl) (Nat.lt_of_lt_of_le (by simp only [List.length_cons]; omega) hl.2.2.1) rfl (fun lsB hB => ?_)
  exact k p l e R s m args below meth c A H locs cells slots lsB Qf hc h1 h2 hw hS (ev_ls_st1 (L := 0) hl.2.2.1 (ev_hp (i := 16) (a := a16) rfl hp) hB) hr
theorem ev_lstore_17 {a0 a1 a2 a3 a4 a5 a6 a7 a8 a9 a10 a11 a12 a13 a14 a15 a16 a17 a18 : Option Value} {t : List (Option Value)} {x : Int64} (hd : fe M pc (.lstore 17) 2 pc') (hp : ev_nl a16 = true) (k : Ev G M d kc ks Q pc' (a0 :: a1 :: a2 :: a3 :: a4 :: a5 :: a6 :: a7 :: a8 :: a9 :: a10 :: a11 :: a12 :: a13 :: a14 :: a15 :: a16 :: some (.long x) :: none :: t) st h) : Ev G M d kc ks Q pc (a0 :: a1 :: a2 :: a3 :: a4 :: a5 :: a6 :: a7 :: a8 :: a9 :: a10 :: a11 :: a12 :: a13 :: a14 :: a15 :: a16 :: a17 :: a18 :: t) (.long x :: st) h := by
  obtain ⟨hd, rfl⟩ := hd
  intro p l e R s m args below meth c A H locs cells slots lsA Qf hc h1 h2 hw hS hl hr
  refine lv_lstore hc.1 hc.2.1 hd (ev_ls_has hl) (Nat.lt_of_lt_of_le (by simp only [List.length_cons]; omega) hl.2.2.1) rfl (fun lsB hB => ?_)
  exact k p l e R s m args below meth c A H locs cells slots lsB Qf hc h1 h2 hw hS (ev_ls_st2 hl.2.2.1 (ev_hp (i := 16) (a := a16) rfl hp) hB) hr
theorem ev_iinc_17 {a0 a1 a2 a3 a4 a5 a6 a7 a8 a9 a10 a11 a12 a13 a14 a15 a16 : Option Value} {t : List (Option Value)} {x v : Int32} {n : Int} (hd : fe M pc (.iinc 17 n) 3 pc') (hv : x + Int32.ofInt n = v) (hp : ev_nl a16 = true) (k : Ev G M d kc ks Q pc' (a0 :: a1 :: a2 :: a3 :: a4 :: a5 :: a6 :: a7 :: a8 :: a9 :: a10 :: a11 :: a12 :: a13 :: a14 :: a15 :: a16 :: some (.int v) :: t) st h) : Ev G M d kc ks Q pc (a0 :: a1 :: a2 :: a3 :: a4 :: a5 :: a6 :: a7 :: a8 :: a9 :: a10 :: a11 :: a12 :: a13 :: a14 :: a15 :: a16 :: some (.int x) :: t) st h := by
  obtain ⟨hd, rfl⟩ := hd
  intro p l e R s m args below meth c A H locs cells slots lsA Qf hc h1 h2 hw hS hl hr
  obtain ⟨kk, hkk⟩ := List.getElem?_of_mem (ev_pr_mem.mpr (show (a0 :: a1 :: a2 :: a3 :: a4 :: a5 :: a6 :: a7 :: a8 :: a9 :: a10 :: a11 :: a12 :: a13 :: a14 :: a15 :: a16 :: some (.int x) :: t)[17]? = some (some (.int x)) from rfl))
  refine lv_iinc hc.1 hc.2.1 hd (ev_ls_has hl) hkk hv (Nat.lt_of_lt_of_le (by simp only [List.length_cons]; omega) hl.2.2.1) rfl (fun lsB hB => ?_)
  exact k p l e R s m args below meth c A H locs cells slots lsB Qf hc h1 h2 hw hS (ev_ls_st1 (L := 0) hl.2.2.1 (ev_hp (i := 16) (a := a16) rfl hp) hB) hr
theorem ev_iload_18 {a0 a1 a2 a3 a4 a5 a6 a7 a8 a9 a10 a11 a12 a13 a14 a15 a16 a17 : Option Value} {t : List (Option Value)} {x : Int32} (hd : fe M pc (.iload 18) 2 pc') (k : Ev G M d kc ks Q pc' (a0 :: a1 :: a2 :: a3 :: a4 :: a5 :: a6 :: a7 :: a8 :: a9 :: a10 :: a11 :: a12 :: a13 :: a14 :: a15 :: a16 :: a17 :: some (.int x) :: t) (.int x :: st) h) : Ev G M d kc ks Q pc (a0 :: a1 :: a2 :: a3 :: a4 :: a5 :: a6 :: a7 :: a8 :: a9 :: a10 :: a11 :: a12 :: a13 :: a14 :: a15 :: a16 :: a17 :: some (.int x) :: t) st h := by
  obtain ⟨hd, rfl⟩ := hd
  intro p l e R s m args below meth c A H locs cells slots lsA Qf hc h1 h2 hw hS hl hr
  exact lv_iload hc.1 hc.2.1 hd (hl.2.2.2 18 _ rfl) (k p l e R s m args below meth c A H locs cells slots lsA Qf hc h1 h2 hw hS hl hr)
theorem ev_lload_18 {a0 a1 a2 a3 a4 a5 a6 a7 a8 a9 a10 a11 a12 a13 a14 a15 a16 a17 : Option Value} {t : List (Option Value)} {x : Int64} (hd : fe M pc (.lload 18) 2 pc') (k : Ev G M d kc ks Q pc' (a0 :: a1 :: a2 :: a3 :: a4 :: a5 :: a6 :: a7 :: a8 :: a9 :: a10 :: a11 :: a12 :: a13 :: a14 :: a15 :: a16 :: a17 :: some (.long x) :: t) (.long x :: st) h) : Ev G M d kc ks Q pc (a0 :: a1 :: a2 :: a3 :: a4 :: a5 :: a6 :: a7 :: a8 :: a9 :: a10 :: a11 :: a12 :: a13 :: a14 :: a15 :: a16 :: a17 :: some (.long x) :: t) st h := by
  obtain ⟨hd, rfl⟩ := hd
  intro p l e R s m args below meth c A H locs cells slots lsA Qf hc h1 h2 hw hS hl hr
  exact lv_lload hc.1 hc.2.1 hd (hl.2.2.2 18 _ rfl) (k p l e R s m args below meth c A H locs cells slots lsA Qf hc h1 h2 hw hS hl hr)
theorem ev_aload_18 {a0 a1 a2 a3 a4 a5 a6 a7 a8 a9 a10 a11 a12 a13 a14 a15 a16 a17 : Option Value} {t : List (Option Value)} {x : Nat} (hd : fe M pc (.aload 18) 2 pc') (k : Ev G M d kc ks Q pc' (a0 :: a1 :: a2 :: a3 :: a4 :: a5 :: a6 :: a7 :: a8 :: a9 :: a10 :: a11 :: a12 :: a13 :: a14 :: a15 :: a16 :: a17 :: some (.ref x) :: t) (.ref x :: st) h) : Ev G M d kc ks Q pc (a0 :: a1 :: a2 :: a3 :: a4 :: a5 :: a6 :: a7 :: a8 :: a9 :: a10 :: a11 :: a12 :: a13 :: a14 :: a15 :: a16 :: a17 :: some (.ref x) :: t) st h := by
  obtain ⟨hd, rfl⟩ := hd
  intro p l e R s m args below meth c A H locs cells slots lsA Qf hc h1 h2 hw hS hl hr
  exact lv_aload hc.1 hc.2.1 hd (hl.2.2.2 18 _ rfl) (k p l e R s m args below meth c A H locs cells slots lsA Qf hc h1 h2 hw hS hl hr)
theorem ev_aloadN_18 {a0 a1 a2 a3 a4 a5 a6 a7 a8 a9 a10 a11 a12 a13 a14 a15 a16 a17 : Option Value} {t : List (Option Value)} (hd : fe M pc (.aload 18) 2 pc') (k : Ev G M d kc ks Q pc' (a0 :: a1 :: a2 :: a3 :: a4 :: a5 :: a6 :: a7 :: a8 :: a9 :: a10 :: a11 :: a12 :: a13 :: a14 :: a15 :: a16 :: a17 :: some .null :: t) (.null :: st) h) : Ev G M d kc ks Q pc (a0 :: a1 :: a2 :: a3 :: a4 :: a5 :: a6 :: a7 :: a8 :: a9 :: a10 :: a11 :: a12 :: a13 :: a14 :: a15 :: a16 :: a17 :: some .null :: t) st h := by
  obtain ⟨hd, rfl⟩ := hd
  intro p l e R s m args below meth c A H locs cells slots lsA Qf hc h1 h2 hw hS hl hr
  exact lv_aloadN hc.1 hc.2.1 hd (hl.2.2.2 18 _ rfl) (k p l e R s m args below meth c A H locs cells slots lsA Qf hc h1 h2 hw hS hl hr)
theorem ev_istore_18 {a0 a1 a2 a3 a4 a5 a6 a7 a8 a9 a10 a11 a12 a13 a14 a15 a16 a17 a18 : Option Value} {t : List (Option Value)} {x : Int32} (hd : fe M pc (.istore 18) 2 pc') (hp : ev_nl a17 = true) (k : Ev G M d kc ks Q pc' (a0 :: a1 :: a2 :: a3 :: a4 :: a5 :: a6 :: a7 :: a8 :: a9 :: a10 :: a11 :: a12 :: a13 :: a14 :: a15 :: a16 :: a17 :: some (.int x) :: t) st h) : Ev G M d kc ks Q pc (a0 :: a1 :: a2 :: a3 :: a4 :: a5 :: a6 :: a7 :: a8 :: a9 :: a10 :: a11 :: a12 :: a13 :: a14 :: a15 :: a16 :: a17 :: a18 :: t) (.int x :: st) h := by
  obtain ⟨hd, rfl⟩ := hd
  intro p l e R s m args below meth c A H locs cells slots lsA Qf hc h1 h2 hw hS hl hr
  refine lv_istore hc.1 hc.2.1 hd (ev_ls_has hl) (Nat.lt_of_lt_of_le (by simp only [List.length_cons]; omega) hl.2.2.1) rfl (fun lsB hB => ?_)
  exact k p l e R s m args below meth c A H locs cells slots lsB Qf hc h1 h2 hw hS (ev_ls_st1 (L := 0) hl.2.2.1 (ev_hp (i := 17) (a := a17) rfl hp) hB) hr
theorem ev_astore_18 {a0 a1 a2 a3 a4 a5 a6 a7 a8 a9 a10 a11 a12 a13 a14 a15 a16 a17 a18 : Option Value} {t : List (Option Value)} {x : Nat} (hd : fe M pc (.astore 18) 2 pc') (hp : ev_nl a17 = true) (k : Ev G M d kc ks Q pc' (a0 :: a1 :: a2 :: a3 :: a4 :: a5 :: a6 :: a7 :: a8 :: a9 :: a10 :: a11 :: a12 :: a13 :: a14 :: a15 :: a16 :: a17 :: some (.ref x) :: t) st h) : Ev G M d kc ks Q pc (a0 :: a1 :: a2 :: a3 :: a4 :: a5 :: a6 :: a7 :: a8 :: a9 :: a10 :: a11 :: a12 :: a13 :: a14 :: a15 :: a16 :: a17 :: a18 :: t) (.ref x :: st) h := by
  obtain ⟨hd, rfl⟩ := hd
  intro p l e R s m args below meth c A H locs cells slots lsA Qf hc h1 h2 hw hS hl hr
  refine lv_astore hc.1 hc.2.1 hd (ev_ls_has hl) (Nat.lt_of_lt_of_le (by simp only [List.length_cons]; omega) hl.2.2.1) rfl (fun lsB hB => ?_)
  exact k p l e R s m args below meth c A H locs cells slots lsB Qf hc h1 h2 hw hS (ev_ls_st1 (L := 0) hl.2.2.1 (ev_hp (i := 17) (a := a17) rfl hp) hB) hr
theorem ev_astoreN_18 {a0 a1 a2 a3 a4 a5 a6 a7 a8 a9 a10 a11 a12 a13 a14 a15 a16 a17 a18 : Option Value} {t : List (Option Value)}  (hd : fe M pc (.astore 18) 2 pc') (hp : ev_nl a17 = true) (k : Ev G M d kc ks Q pc' (a0 :: a1 :: a2 :: a3 :: a4 :: a5 :: a6 :: a7 :: a8 :: a9 :: a10 :: a11 :: a12 :: a13 :: a14 :: a15 :: a16 :: a17 :: some (.null) :: t) st h) : Ev G M d kc ks Q pc (a0 :: a1 :: a2 :: a3 :: a4 :: a5 :: a6 :: a7 :: a8 :: a9 :: a10 :: a11 :: a12 :: a13 :: a14 :: a15 :: a16 :: a17 :: a18 :: t) (.null :: st) h := by
  obtain ⟨hd, rfl⟩ := hd
  intro p l e R s m args below meth c A H locs cells slots lsA Qf hc h1 h2 hw hS hl hr
  refine lv_astoreN hc.1 hc.2.1 hd (ev_ls_has hl) (Nat.lt_of_lt_of_le (by simp only [List.length_cons]; omega) hl.2.2.1) rfl (fun lsB hB => ?_)
  exact k p l e R s m args below meth c A H locs cells slots lsB Qf hc h1 h2 hw hS (ev_ls_st1 (L := 0) hl.2.2.1 (ev_hp (i := 17) (a := a17) rfl hp) hB) hr
theorem ev_lstore_18 {a0 a1 a2 a3 a4 a5 a6 a7 a8 a9 a10 a11 a12 a13 a14 a15 a16 a17 a18 a19 : Option Value} {t : List (Option Value)} {x : Int64} (hd : fe M pc (.lstore 18) 2 pc') (hp : ev_nl a17 = true) (k : Ev G M d kc ks Q pc' (a0 :: a1 :: a2 :: a3 :: a4 :: a5 :: a6 :: a7 :: a8 :: a9 :: a10 :: a11 :: a12 :: a13 :: a14 :: a15 :: a16 :: a17 :: some (.long x) :: none :: t) st h) : Ev G M d kc ks Q pc (a0 :: a1 :: a2 :: a3 :: a4 :: a5 :: a6 :: a7 :: a8 :: a9 :: a10 :: a11 :: a12 :: a13 :: a14 :: a15 :: a16 :: a17 :: a18 :: a19 :: t) (.long x :: st) h := by
  obtain ⟨hd, rfl⟩ := hd
  intro p l e R s m args below meth c A H locs cells slots lsA Qf hc h1 h2 hw hS hl hr
  refine lv_lstore hc.1 hc.2.1 hd (ev_ls_has hl) (Nat.lt_of_lt_of_le (by simp only [List.length_cons]; omega) hl.2.2.1) rfl (fun lsB hB => ?_)
  exact k p l e R s m args below meth c A H locs cells slots lsB Qf hc h1 h2 hw hS (ev_ls_st2 hl.2.2.1 (ev_hp (i := 17) (a := a17) rfl hp) hB) hr
theorem ev_iinc_18 {a0 a1 a2 a3 a4 a5 a6 a7 a8 a9 a10 a11 a12 a13 a14 a15 a16 a17 : Option Value} {t : List (Option Value)} {x v : Int32} {n : Int} (hd : fe M pc (.iinc 18 n) 3 pc') (hv : x + Int32.ofInt n = v) (hp : ev_nl a17 = true) (k : Ev G M d kc ks Q pc' (a0 :: a1 :: a2 :: a3 :: a4 :: a5 :: a6 :: a7 :: a8 :: a9 :: a10 :: a11 :: a12 :: a13 :: a14 :: a15 :: a16 :: a17 :: some (.int v) :: t) st h) : Ev G M d kc ks Q pc (a0 :: a1 :: a2 :: a3 :: a4 :: a5 :: a6 :: a7 :: a8 :: a9 :: a10 :: a11 :: a12 :: a13 :: a14 :: a15 :: a16 :: a17 :: some (.int x) :: t) st h := by
  obtain ⟨hd, rfl⟩ := hd
  intro p l e R s m args below meth c A H locs cells slots lsA Qf hc h1 h2 hw hS hl hr
  obtain ⟨kk, hkk⟩ := List.getElem?_of_mem (ev_pr_mem.mpr (show (a0 :: a1 :: a2 :: a3 :: a4 :: a5 :: a6 :: a7 :: a8 :: a9 :: a10 :: a11 :: a12 :: a13 :: a14 :: a15 :: a16 :: a17 :: some (.int x) :: t)[18]? = some (some (.int x)) from rfl))
  refine lv_iinc hc.1 hc.2.1 hd (ev_ls_has hl) hkk hv (Nat.lt_of_lt_of_le (by simp only [List.length_cons]; omega) hl.2.2.1) rfl (fun lsB hB => ?_)
  exact k p l e R s m args below meth c A H locs cells slots lsB Qf hc h1 h2 hw hS (ev_ls_st1 (L := 0) hl.2.2.1 (ev_hp (i := 17) (a := a17) rfl hp) hB) hr
theorem ev_iload_19 {a0 a1 a2 a3 a4 a5 a6 a7 a8 a9 a10 a11 a12 a13 a14 a15 a16 a17 a18 : Option Value} {t : List (Option Value)} {x : Int32} (hd : fe M pc (.iload 19) 2 pc') (k : Ev G M d kc ks Q pc' (a0 :: a1 :: a2 :: a3 :: a4 :: a5 :: a6 :: a7 :: a8 :: a9 :: a10 :: a11 :: a12 :: a13 :: a14 :: a15 :: a16 :: a17 :: a18 :: some (.int x) :: t) (.int x :: st) h) : Ev G M d kc ks Q pc (a0 :: a1 :: a2 :: a3 :: a4 :: a5 :: a6 :: a7 :: a8 :: a9 :: a10 :: a11 :: a12 :: a13 :: a14 :: a15 :: a16 :: a17 :: a18 :: some (.int x) :: t) st h := by
  obtain ⟨hd, rfl⟩ := hd
  intro p l e R s m args below meth c A H locs cells slots lsA Qf hc h1 h2 hw hS hl hr
  exact lv_iload hc.1 hc.2.1 hd (hl.2.2.2 19 _ rfl) (k p l e R s m args below meth c A H locs cells slots lsA Qf hc h1 h2 hw hS hl hr)
theorem ev_lload_19 {a0 a1 a2 a3 a4 a5 a6 a7 a8 a9 a10 a11 a12 a13 a14 a15 a16 a17 a18 : Option Value} {t : List (Option Value)} {x : Int64} (hd : fe M pc (.lload 19) 2 pc') (k : Ev G M d kc ks Q pc' (a0 :: a1 :: a2 :: a3 :: a4 :: a5 :: a6 :: a7 :: a8 :: a9 :: a10 :: a11 :: a12 :: a13 :: a14 :: a15 :: a16 :: a17 :: a18 :: some (.long x) :: t) (.long x :: st) h) : Ev G M d kc ks Q pc (a0 :: a1 :: a2 :: a3 :: a4 :: a5 :: a6 :: a7 :: a8 :: a9 :: a10 :: a11 :: a12 :: a13 :: a14 :: a15 :: a16 :: a17 :: a18 :: some (.long x) :: t) st h := by
  obtain ⟨hd, rfl⟩ := hd
  intro p l e R s m args below meth c A H locs cells slots lsA Qf hc h1 h2 hw hS hl hr
  exact lv_lload hc.1 hc.2.1 hd (hl.2.2.2 19 _ rfl) (k p l e R s m args below meth c A H locs cells slots lsA Qf hc h1 h2 hw hS hl hr)
theorem ev_aload_19 {a0 a1 a2 a3 a4 a5 a6 a7 a8 a9 a10 a11 a12 a13 a14 a15 a16 a17 a18 : Option Value} {t : List (Option Value)} {x : Nat} (hd : fe M pc (.aload 19) 2 pc') (k : Ev G M d kc ks Q pc' (a0 :: a1 :: a2 :: a3 :: a4 :: a5 :: a6 :: a7 :: a8 :: a9 :: a10 :: a11 :: a12 :: a13 :: a14 :: a15 :: a16 :: a17 :: a18 :: some (.ref x) :: t) (.ref x :: st) h) : Ev G M d kc ks Q pc (a0 :: a1 :: a2 :: a3 :: a4 :: a5 :: a6 :: a7 :: a8 :: a9 :: a10 :: a11 :: a12 :: a13 :: a14 :: a15 :: a16 :: a17 :: a18 :: some (.ref x) :: t) st h := by
  obtain ⟨hd, rfl⟩ := hd
  intro p l e R s m args below meth c A H locs cells slots lsA Qf hc h1 h2 hw hS hl hr
  exact lv_aload hc.1 hc.2.1 hd (hl.2.2.2 19 _ rfl) (k p l e R s m args below meth c A H locs cells slots lsA Qf hc h1 h2 hw hS hl hr)
theorem ev_aloadN_19 {a0 a1 a2 a3 a4 a5 a6 a7 a8 a9 a10 a11 a12 a13 a14 a15 a16 a17 a18 : Option Value} {t : List (Option Value)} (hd : fe M pc (.aload 19) 2 pc') (k : Ev G M d kc ks Q pc' (a0 :: a1 :: a2 :: a3 :: a4 :: a5 :: a6 :: a7 :: a8 :: a9 :: a10 :: a11 :: a12 :: a13 :: a14 :: a15 :: a16 :: a17 :: a18 :: some .null :: t) (.null :: st) h) : Ev G M d kc ks Q pc (a0 :: a1 :: a2 :: a3 :: a4 :: a5 :: a6 :: a7 :: a8 :: a9 :: a10 :: a11 :: a12 :: a13 :: a14 :: a15 :: a16 :: a17 :: a18 :: some .null :: t) st h := by
  obtain ⟨hd, rfl⟩ := hd
  intro p l e R s m args below meth c A H locs cells slots lsA Qf hc h1 h2 hw hS hl hr
  exact lv_aloadN hc.1 hc.2.1 hd (hl.2.2.2 19 _ rfl) (k p l e R s m args below meth c A H locs cells slots lsA Qf hc h1 h2 hw hS hl hr)
theorem ev_istore_19 {a0 a1 a2 a3 a4 a5 a6 a7 a8 a9 a10 a11 a12 a13 a14 a15 a16 a17 a18 a19 : Option Value} {t : List (Option Value)} {x : Int32} (hd : fe M pc (.istore 19) 2 pc') (hp : ev_nl a18 = true) (k : Ev G M d kc ks Q pc' (a0 :: a1 :: a2 :: a3 :: a4 :: a5 :: a6 :: a7 :: a8 :: a9 :: a10 :: a11 :: a12 :: a13 :: a14 :: a15 :: a16 :: a17 :: a18 :: some (.int x) :: t) st h) : Ev G M d kc ks Q pc (a0 :: a1 :: a2 :: a3 :: a4 :: a5 :: a6 :: a7 :: a8 :: a9 :: a10 :: a11 :: a12 :: a13 :: a14 :: a15 :: a16 :: a17 :: a18 :: a19 :: t) (.int x :: st) h := by
  obtain ⟨hd, rfl⟩ := hd
  intro p l e R s m args below meth c A H locs cells slots lsA Qf hc h1 h2 hw hS hl hr
  refine lv_istore hc.1 hc.2.1 hd (ev_ls_has hl) (Nat.lt_of_lt_of_le (by simp only [List.length_cons]; omega) hl.2.2.1) rfl (fun lsB hB => ?_)
  exact k p l e R s m args below meth c A H locs cells slots lsB Qf hc h1 h2 hw hS (ev_ls_st1 (L := 0) hl.2.2.1 (ev_hp (i := 18) (a := a18) rfl hp) hB) hr
theorem ev_astore_19 {a0 a1 a2 a3 a4 a5 a6 a7 a8 a9 a10 a11 a12 a13 a14 a15 a16 a17 a18 a19 : Option Value} {t : List (Option Value)} {x : Nat} (hd : fe M pc (.astore 19) 2 pc') (hp : ev_nl a18 = true) (k : Ev G M d kc ks Q pc' (a0 :: a1 :: a2 :: a3 :: a4 :: a5 :: a6 :: a7 :: a8 :: a9 :: a10 :: a11 :: a12 :: a13 :: a14 :: a15 :: a16 :: a17 :: a18 :: some (.ref x) :: t) st h) : Ev G M d kc ks Q pc (a0 :: a1 :: a2 :: a3 :: a4 :: a5 :: a6 :: a7 :: a8 :: a9 :: a10 :: a11 :: a12 :: a13 :: a14 :: a15 :: a16 :: a17 :: a18 :: a19 :: t) (.ref x :: st) h := by
  obtain ⟨hd, rfl⟩ := hd
  intro p l e R s m args below meth c A H locs cells slots lsA Qf hc h1 h2 hw hS hl hr
  refine lv_astore hc.1 hc.2.1 hd (ev_ls_has hl) (Nat.lt_of_lt_of_le (by simp only [List.length_cons]; omega) hl.2.2.1) rfl (fun lsB hB => ?_)
  exact k p l e R s m args below meth c A H locs cells slots lsB Qf hc h1 h2 hw hS (ev_ls_st1 (L := 0) hl.2.2.1 (ev_hp (i := 18) (a := a18) rfl hp) hB) hr
theorem ev_astoreN_19 {a0 a1 a2 a3 a4 a5 a6 a7 a8 a9 a10 a11 a12 a13 a14 a15 a16 a17 a18 a19 : Option Value} {t : List (Option Value)}  (hd : fe M pc (.astore 19) 2 pc') (hp : ev_nl a18 = true) (k : Ev G M d kc ks Q pc' (a0 :: a1 :: a2 :: a3 :: a4 :: a5 :: a6 :: a7 :: a8 :: a9 :: a10 :: a11 :: a12 :: a13 :: a14 :: a15 :: a16 :: a17 :: a18 :: some (.null) :: t) st h) : Ev G M d kc ks Q pc (a0 :: a1 :: a2 :: a3 :: a4 :: a5 :: a6 :: a7 :: a8 :: a9 :: a10 :: a11 :: a12 :: a13 :: a14 :: a15 :: a16 :: a17 :: a18 :: a19 :: t) (.null :: st) h := by
  obtain ⟨hd, rfl⟩ := hd
  intro p l e R s m args below meth c A H locs cells slots lsA Qf hc h1 h2 hw hS hl hr
  refine lv_astoreN hc.1 hc.2.1 hd (ev_ls_has hl) (Nat.lt_of_lt_of_le (by simp only [List.length_cons]; omega) hl.2.2.1) rfl (fun lsB hB => ?_)
  exact k p l e R s m args below meth c A H locs cells slots lsB Qf hc h1 h2 hw hS (ev_ls_st1 (L := 0) hl.2.2.1 (ev_hp (i := 18) (a := a18) rfl hp) hB) hr
theorem ev_lstore_19 {a0 a1 a2 a3 a4 a5 a6 a7 a8 a9 a10 a11 a12 a13 a14 a15 a16 a17 a18 a19 a20 : Option Value} {t : List (Option Value)} {x : Int64} (hd : fe M pc (.lstore 19) 2 pc') (hp : ev_nl a18 = true) (k : Ev G M d kc ks Q pc' (a0 :: a1 :: a2 :: a3 :: a4 :: a5 :: a6 :: a7 :: a8 :: a9 :: a10 :: a11 :: a12 :: a13 :: a14 :: a15 :: a16 :: a17 :: a18 :: some (.long x) :: none :: t) st h) : Ev G M d kc ks Q pc (a0 :: a1 :: a2 :: a3 :: a4 :: a5 :: a6 :: a7 :: a8 :: a9 :: a10 :: a11 :: a12 :: a13 :: a14 :: a15 :: a16 :: a17 :: a18 :: a19 :: a20 :: t) (.long x :: st) h := by
  obtain ⟨hd, rfl⟩ := hd
  intro p l e R s m args below meth c A H locs cells slots lsA Qf hc h1 h2 hw hS hl hr
  refine lv_lstore hc.1 hc.2.1 hd (ev_ls_has hl) (Nat.lt_of_lt_of_le (by simp only [List.length_cons]; omega) hl.2.2.1) rfl (fun lsB hB => ?_)
  exact k p l e R s m args below meth c A H locs cells slots lsB Qf hc h1 h2 hw hS (ev_ls_st2 hl.2.2.1 (ev_hp (i := 18) (a := a18) rfl hp) hB) hr
theorem ev_iinc_19 {a0 a1 a2 a3 a4 a5 a6 a7 a8 a9 a10 a11 a12 a13 a14 a15 a16 a17 a18 : Option Value} {t : List (Option Value)} {x v : Int32} {n : Int} (hd : fe M pc (.iinc 19 n) 3 pc') (hv : x + Int32.ofInt n = v) (hp : ev_nl a18 = true) (k : Ev G M d kc ks Q pc' (a0 :: a1 :: a2 :: a3 :: a4 :: a5 :: a6 :: a7 :: a8 :: a9 :: a10 :: a11 :: a12 :: a13 :: a14 :: a15 :: a16 :: a17 :: a18 :: some (.int v) :: t) st h) : Ev G M d kc ks Q pc (a0 :: a1 :: a2 :: a3 :: a4 :: a5 :: a6 :: a7 :: a8 :: a9 :: a10 :: a11 :: a12 :: a13 :: a14 :: a15 :: a16 :: a17 :: a18 :: some (.int x) :: t) st h := by
  obtain ⟨hd, rfl⟩ := hd
  intro p l e R s m args below meth c A H locs cells slots lsA Qf hc h1 h2 hw hS hl hr
  obtain ⟨kk, hkk⟩ := List.getElem?_of_mem (ev_pr_mem.mpr (show (a0 :: a1 :: a2 :: a3 :: a4 :: a5 :: a6 :: a7 :: a8 :: a9 :: a10 :: a11 :: a12 :: a13 :: a14 :: a15 :: a16 :: a17 :: a18 :: some (.int x) :: t)[19]? = some (some (.int x)) from rfl))
  refine lv_iinc hc.1 hc.2.1 hd (ev_ls_has hl) hkk hv (Nat.lt_of_lt_of_le (by simp only [List.length_cons]; omega) hl.2.2.1) rfl (fun lsB hB => ?_)
  exact k p l e R s m args below meth c A H locs cells slots lsB Qf hc h1 h2 hw hS (ev_ls_st1 (L := 0) hl.2.2.1 (ev_hp (i := 18) (a := a18) rfl hp) hB) hr
def fb (M : ev_M) (pc : Nat) (i : Int → Instr) (tgt pc' : Nat) : Prop := ∃ off : Int, decode M.2.1 pc = .ok (i off, 3) ∧ (pc : Int) + off = (tgt : Int) ∧ pc + 3 = pc'
theorem ev_if_eq {x : Int32} {tgt : Nat} (hd : fb M pc (.ifCond .eq) tgt pc') (kt : x = 0 → Ev G M d kc ks Q tgt ls st h) (kf : ¬ x = 0 → Ev G M d kc ks Q pc' ls st h) : Ev G M d kc ks Q pc ls (.int x :: st) h := by
  obtain ⟨off, hd, ht, rfl⟩ := hd
  intro p l e R s m args below meth c A H locs cells slots lsA Qf hc h1 h2 hw hS hl hr
  exact lv_if_eq hc.1 hc.2.1 hd ht (fun q => kt q p l e R s m args below meth c A H locs cells slots lsA Qf hc h1 h2 hw hS hl hr) (fun q => kf q p l e R s m args below meth c A H locs cells slots lsA Qf hc h1 h2 hw hS hl hr)
theorem ev_icmp_eq {x y : Int32} {tgt : Nat} (hd : fb M pc (.if_icmp .eq) tgt pc') (kt : x = y → Ev G M d kc ks Q tgt ls st h) (kf : ¬ x = y → Ev G M d kc ks Q pc' ls st h) : Ev G M d kc ks Q pc ls (.int y :: .int x :: st) h := by
  obtain ⟨off, hd, ht, rfl⟩ := hd
  intro p l e R s m args below meth c A H locs cells slots lsA Qf hc h1 h2 hw hS hl hr
  exact lv_icmp_eq hc.1 hc.2.1 hd ht (fun q => kt q p l e R s m args below meth c A H locs cells slots lsA Qf hc h1 h2 hw hS hl hr) (fun q => kf q p l e R s m args below meth c A H locs cells slots lsA Qf hc h1 h2 hw hS hl hr)
theorem ev_if_ne {x : Int32} {tgt : Nat} (hd : fb M pc (.ifCond .ne) tgt pc') (kt : ¬ x = 0 → Ev G M d kc ks Q tgt ls st h) (kf : x = 0 → Ev G M d kc ks Q pc' ls st h) : Ev G M d kc ks Q pc ls (.int x :: st) h := by
  obtain ⟨off, hd, ht, rfl⟩ := hd
  intro p l e R s m args below meth c A H locs cells slots lsA Qf hc h1 h2 hw hS hl hr
  exact lv_if_ne hc.1 hc.2.1 hd ht (fun q => kt q p l e R s m args below meth c A H locs cells slots lsA Qf hc h1 h2 hw hS hl hr) (fun q => kf q p l e R s m args below meth c A H locs cells slots lsA Qf hc h1 h2 hw hS hl hr)
theorem ev_icmp_ne {x y : Int32} {tgt : Nat} (hd : fb M pc (.if_icmp .ne) tgt pc') (kt : ¬ x = y → Ev G M d kc ks Q tgt ls st h) (kf : x = y → Ev G M d kc ks Q pc' ls st h) : Ev G M d kc ks Q pc ls (.int y :: .int x :: st) h := by
  obtain ⟨off, hd, ht, rfl⟩ := hd
  intro p l e R s m args below meth c A H locs cells slots lsA Qf hc h1 h2 hw hS hl hr
  exact lv_icmp_ne hc.1 hc.2.1 hd ht (fun q => kt q p l e R s m args below meth c A H locs cells slots lsA Qf hc h1 h2 hw hS hl hr) (fun q => kf q p l e R s m args below meth c A H locs cells slots lsA Qf hc h1 h2 hw hS hl hr)
theorem ev_if_lt {x : Int32} {tgt : Nat} (hd : fb M pc (.ifCond .lt) tgt pc') (kt : x < 0 → Ev G M d kc ks Q tgt ls st h) (kf : ¬ x < 0 → Ev G M d kc ks Q pc' ls st h) : Ev G M d kc ks Q pc ls (.int x :: st) h := by
  obtain ⟨off, hd, ht, rfl⟩ := hd
  intro p l e R s m args below meth c A H locs cells slots lsA Qf hc h1 h2 hw hS hl hr
  exact lv_if_lt hc.1 hc.2.1 hd ht (fun q => kt q p l e R s m args below meth c A H locs cells slots lsA Qf hc h1 h2 hw hS hl hr) (fun q => kf q p l e R s m args below meth c A H locs cells slots lsA Qf hc h1 h2 hw hS hl hr)
theorem ev_icmp_lt {x y : Int32} {tgt : Nat} (hd : fb M pc (.if_icmp .lt) tgt pc') (kt : x < y → Ev G M d kc ks Q tgt ls st h) (kf : ¬ x < y → Ev G M d kc ks Q pc' ls st h) : Ev G M d kc ks Q pc ls (.int y :: .int x :: st) h := by
  obtain ⟨off, hd, ht, rfl⟩ := hd
  intro p l e R s m args below meth c A H locs cells slots lsA Qf hc h1 h2 hw hS hl hr
  exact lv_icmp_lt hc.1 hc.2.1 hd ht (fun q => kt q p l e R s m args below meth c A H locs cells slots lsA Qf hc h1 h2 hw hS hl hr) (fun q => kf q p l e R s m args below meth c A H locs cells slots lsA Qf hc h1 h2 hw hS hl hr)
theorem ev_if_ge {x : Int32} {tgt : Nat} (hd : fb M pc (.ifCond .ge) tgt pc') (kt : 0 ≤ x → Ev G M d kc ks Q tgt ls st h) (kf : ¬ 0 ≤ x → Ev G M d kc ks Q pc' ls st h) : Ev G M d kc ks Q pc ls (.int x :: st) h := by
  obtain ⟨off, hd, ht, rfl⟩ := hd
  intro p l e R s m args below meth c A H locs cells slots lsA Qf hc h1 h2 hw hS hl hr
  exact lv_if_ge hc.1 hc.2.1 hd ht (fun q => kt q p l e R s m args below meth c A H locs cells slots lsA Qf hc h1 h2 hw hS hl hr) (fun q => kf q p l e R s m args below meth c A H locs cells slots lsA Qf hc h1 h2 hw hS hl hr)
theorem ev_icmp_ge {x y : Int32} {tgt : Nat} (hd : fb M pc (.if_icmp .ge) tgt pc') (kt : y ≤ x → Ev G M d kc ks Q tgt ls st h) (kf : ¬ y ≤ x → Ev G M d kc ks Q pc' ls st h) : Ev G M d kc ks Q pc ls (.int y :: .int x :: st) h := by
  obtain ⟨off, hd, ht, rfl⟩ := hd
  intro p l e R s m args below meth c A H locs cells slots lsA Qf hc h1 h2 hw hS hl hr
  exact lv_icmp_ge hc.1 hc.2.1 hd ht (fun q => kt q p l e R s m args below meth c A H locs cells slots lsA Qf hc h1 h2 hw hS hl hr) (fun q => kf q p l e R s m args below meth c A H locs cells slots lsA Qf hc h1 h2 hw hS hl hr)
theorem ev_if_gt {x : Int32} {tgt : Nat} (hd : fb M pc (.ifCond .gt) tgt pc') (kt : 0 < x → Ev G M d kc ks Q tgt ls st h) (kf : ¬ 0 < x → Ev G M d kc ks Q pc' ls st h) : Ev G M d kc ks Q pc ls (.int x :: st) h := by
  obtain ⟨off, hd, ht, rfl⟩ := hd
  intro p l e R s m args below meth c A H locs cells slots lsA Qf hc h1 h2 hw hS hl hr
  exact lv_if_gt hc.1 hc.2.1 hd ht (fun q => kt q p l e R s m args below meth c A H locs cells slots lsA Qf hc h1 h2 hw hS hl hr) (fun q => kf q p l e R s m args below meth c A H locs cells slots lsA Qf hc h1 h2 hw hS hl hr)
theorem ev_icmp_gt {x y : Int32} {tgt : Nat} (hd : fb M pc (.if_icmp .gt) tgt pc') (kt : y < x → Ev G M d kc ks Q tgt ls st h) (kf : ¬ y < x → Ev G M d kc ks Q pc' ls st h) : Ev G M d kc ks Q pc ls (.int y :: .int x :: st) h := by
  obtain ⟨off, hd, ht, rfl⟩ := hd
  intro p l e R s m args below meth c A H locs cells slots lsA Qf hc h1 h2 hw hS hl hr
  exact lv_icmp_gt hc.1 hc.2.1 hd ht (fun q => kt q p l e R s m args below meth c A H locs cells slots lsA Qf hc h1 h2 hw hS hl hr) (fun q => kf q p l e R s m args below meth c A H locs cells slots lsA Qf hc h1 h2 hw hS hl hr)
theorem ev_if_le {x : Int32} {tgt : Nat} (hd : fb M pc (.ifCond .le) tgt pc') (kt : x ≤ 0 → Ev G M d kc ks Q tgt ls st h) (kf : ¬ x ≤ 0 → Ev G M d kc ks Q pc' ls st h) : Ev G M d kc ks Q pc ls (.int x :: st) h := by
  obtain ⟨off, hd, ht, rfl⟩ := hd
  intro p l e R s m args below meth c A H locs cells slots lsA Qf hc h1 h2 hw hS hl hr
  exact lv_if_le hc.1 hc.2.1 hd ht (fun q => kt q p l e R s m args below meth c A H locs cells slots lsA Qf hc h1 h2 hw hS hl hr) (fun q => kf q p l e R s m args below meth c A H locs cells slots lsA Qf hc h1 h2 hw hS hl hr)
theorem ev_icmp_le {x y : Int32} {tgt : Nat} (hd : fb M pc (.if_icmp .le) tgt pc') (kt : x ≤ y → Ev G M d kc ks Q tgt ls st h) (kf : ¬ x ≤ y → Ev G M d kc ks Q pc' ls st h) : Ev G M d kc ks Q pc ls (.int y :: .int x :: st) h := by
  obtain ⟨off, hd, ht, rfl⟩ := hd
  intro p l e R s m args below meth c A H locs cells slots lsA Qf hc h1 h2 hw hS hl hr
  exact lv_icmp_le hc.1 hc.2.1 hd ht (fun q => kt q p l e R s m args below meth c A H locs cells slots lsA Qf hc h1 h2 hw hS hl hr) (fun q => kf q p l e R s m args below meth c A H locs cells slots lsA Qf hc h1 h2 hw hS hl hr)
theorem ev_goto {tgt : Nat} (hd : fb M pc .goto tgt pc') (k : Ev G M d kc ks Q tgt ls st h) : Ev G M d kc ks Q pc ls st h := by
  obtain ⟨off, hd, ht, rfl⟩ := hd
  intro p l e R s m args below meth c A H locs cells slots lsA Qf hc h1 h2 hw hS hl hr
  exact lv_goto hc.1 hc.2.1 hd ht (k p l e R s m args below meth c A H locs cells slots lsA Qf hc h1 h2 hw hS hl hr)
theorem ev_ifnull {x tgt : Nat} (hd : fb M pc .ifnull tgt pc') (k : Ev G M d kc ks Q pc' ls st h) : Ev G M d kc ks Q pc ls (.ref x :: st) h := by
  obtain ⟨off, hd, ht, rfl⟩ := hd
  intro p l e R s m args below meth c A H locs cells slots lsA Qf hc h1 h2 hw hS hl hr
  exact lv_ifnull hc.1 hc.2.1 hd (k p l e R s m args below meth c A H locs cells slots lsA Qf hc h1 h2 hw hS hl hr)
theorem ev_ifnullN {tgt : Nat} (hd : fb M pc .ifnull tgt pc') (k : Ev G M d kc ks Q tgt ls st h) : Ev G M d kc ks Q pc ls (.null :: st) h := by
  obtain ⟨off, hd, ht, rfl⟩ := hd
  intro p l e R s m args below meth c A H locs cells slots lsA Qf hc h1 h2 hw hS hl hr
  exact lv_ifnullN hc.1 hc.2.1 hd ht (k p l e R s m args below meth c A H locs cells slots lsA Qf hc h1 h2 hw hS hl hr)
theorem ev_ifnonnull {x tgt : Nat} (hd : fb M pc .ifnonnull tgt pc') (k : Ev G M d kc ks Q tgt ls st h) : Ev G M d kc ks Q pc ls (.ref x :: st) h := by
  obtain ⟨off, hd, ht, rfl⟩ := hd
  intro p l e R s m args below meth c A H locs cells slots lsA Qf hc h1 h2 hw hS hl hr
  exact lv_ifnonnull hc.1 hc.2.1 hd ht (k p l e R s m args below meth c A H locs cells slots lsA Qf hc h1 h2 hw hS hl hr)
theorem ev_ifnonnullN {tgt : Nat} (hd : fb M pc .ifnonnull tgt pc') (k : Ev G M d kc ks Q pc' ls st h) : Ev G M d kc ks Q pc ls (.null :: st) h := by
  obtain ⟨off, hd, ht, rfl⟩ := hd
  intro p l e R s m args below meth c A H locs cells slots lsA Qf hc h1 h2 hw hS hl hr
  exact lv_ifnonnullN hc.1 hc.2.1 hd (k p l e R s m args below meth c A H locs cells slots lsA Qf hc h1 h2 hw hS hl hr)
theorem ev_tableIn {dflt lo hi : Int} {offs : Array Int} {len : Nat} {x : Int32} {off : Int} {tgt : Nat} (hd : decode M.2.1 pc = .ok (.tableswitch dflt lo hi offs, len)) (g1 : ¬ x.toInt < lo) (g2 : ¬ hi < x.toInt) (ho : offs[(x.toInt - lo).toNat]? = some off) (ht : (pc : Int) + off = (tgt : Int)) (k : Ev G M d kc ks Q tgt ls st h) : Ev G M d kc ks Q pc ls (.int x :: st) h := by
  intro p l e R s m args below meth c A H locs cells slots lsA Qf hc h1 h2 hw hS hl hr
  exact lv_tableIn hc.1 hc.2.1 hd g1 g2 ho ht (k p l e R s m args below meth c A H locs cells slots lsA Qf hc h1 h2 hw hS hl hr)
theorem ev_tableOut {dflt lo hi : Int} {offs : Array Int} {len : Nat} {x : Int32} {tgt : Nat} (hd : decode M.2.1 pc = .ok (.tableswitch dflt lo hi offs, len)) (g1 : x.toInt < lo ∨ hi < x.toInt) (ht : (pc : Int) + dflt = (tgt : Int)) (k : Ev G M d kc ks Q tgt ls st h) : Ev G M d kc ks Q pc ls (.int x :: st) h := by
  intro p l e R s m args below meth c A H locs cells slots lsA Qf hc h1 h2 hw hS hl hr
  exact lv_tableOut hc.1 hc.2.1 hd g1 ht (k p l e R s m args below meth c A H locs cells slots lsA Qf hc h1 h2 hw hS hl hr)
theorem ev_lookup {dflt : Int} {ps : Array (Int × Int)} {len : Nat} {x : Int32} {off : Int} {tgt : Nat} (hd : decode M.2.1 pc = .ok (.lookupswitch dflt ps, len)) (hp : (ps.toList.zip (ps.toList.drop 1)).all (fun (a, next) => a.1 < next.1) = true) (ho : Op.lookupswitch.offset ps.toList dflt x.toInt = off) (ht : (pc : Int) + off = (tgt : Int)) (k : Ev G M d kc ks Q tgt ls st h) : Ev G M d kc ks Q pc ls (.int x :: st) h := by
  intro p l e R s m args below meth c A H locs cells slots lsA Qf hc h1 h2 hw hS hl hr
  exact lv_lookup hc.1 hc.2.1 hd hp ho ht (k p l e R s m args below meth c A H locs cells slots lsA Qf hc h1 h2 hw hS hl hr)
end EVR
end
section
def ev_ck (ci : Nat) (C : String) (T : u_T) (N : Nat) (ty : Nat → FieldType) : Prop :=
  ev_CL[ci]? = some (C, T, N) ∧ (∀ w ∈ u_ws C T N, w ∈ ev_WS) ∧ (∀ k, k < N → parseFieldDescriptor (T k).2.2.1 = some (ty k)) ∧ (∀ a, a < N → ∀ b, b < N → a ≠ b → (T a).2.1 ≠ (T b).2.1)
/-- a field's link, from a class by an index of its pool: the field k of the class ci -/
def ev_fl (own : String) (ix ci k : Nat) (fin : Bool) (fty : FieldType) : Prop :=
  ∃ (C : String) (T : u_T) (N : Nat) (ty : Nat → FieldType), ev_ck ci C T N ty ∧ k < N ∧ ty k = fty ∧ (T k).2.2.2 = fin ∧
    ((Cond.fieldLink own ix (T k).1 (T k).2.1 (T k).2.2.1 ∈ ev_WS ∧ (fin = true → (T k).1 = own)) ∨ (fin = false ∧ ∃ host : String, Cond.fieldLinkNest own ix (T k).1 (T k).2.1 (T k).2.2.1 host ∈ ev_NW) ∨ (∃ host : String, Cond.fieldLinkNest own ix (T k).1 (T k).2.1 (T k).2.2.1 host ∈ ev_NW))
def ev_ty (t : Nat) (ty : FieldType) : Prop := ∀ g : Nat → ClassId, (ev_TY g)[t]? = some (g t, ty)
theorem nm_onT {w : Cond} (h : ev_isN w = true) : w.onTables = true := by
  cases w <;> first | rfl | (simp [ev_isN] at h)
theorem nm_use {w : Cond} {U : State} {args : Array Value} (h : ev_nw U) (hw : w ∈ ev_NW) : w.before args U = true :=
  va_Nw.use (nm_onT (List.mem_filter.mp hw).2) (h.1 w hw)
section EVH
variable {G : ev_G} {M : ev_M} {d kc ks : Nat} {Q : Option Value → ev_H → Prop} {pc pc' : Nat} {ls : List (Option Value)} {st : List Value} {h : ev_H}
theorem ev_get {ix ci k a : Nat} {fin : Bool} {fty : FieldType} {fs : List Value} {v : Value} (hd : fe M pc (.getfield ix) 3 pc') (hf : ev_fl M.1.cls ix ci k fin fty) (ha : h a = some (.inr (ci, fs))) (hv : fs[k]? = some v)
    (kk : Ev G M d kc ks Q pc' ls (v :: st) h) : Ev G M d kc ks Q pc ls (.ref a :: st) h := by
  obtain ⟨hd, rfl⟩ := hd
  intro p l e R s m args below meth c A H locs cells slots lsA Qf hc h1 h2 hw hS hl hr
  obtain ⟨C, T, N, ty, ⟨c1, c2, c3, c4⟩, hk, -, -, hlk⟩ := hf
  obtain ⟨ws, hP, hD, hg, -⟩ := xw_ws hw
  obtain ⟨q0, hq0⟩ := hg a _ ha
  rcases hlk with ⟨hlk, -⟩ | ⟨-, host, hlk⟩ | ⟨host, hlk⟩
  · exact va_get hc.1 hc.2.1 hc.2.2.2.2.1 c2 hc.2.2.2.1 hc.2.2.2.2.2.1 hP q0 hq0 c1 k hk (hc.2.2.2.2.1 _ hlk) (fun _ z => z) hv hd (kk p l e R s m args below meth c A H locs cells slots lsA Qf hc h1 h2 hw hS hl hr)
  · exact va_getN hc.1 hc.2.1 hc.2.2.2.2.1 c2 hc.2.2.2.1 hc.2.2.2.2.2.1 hP q0 hq0 c1 k hk (nm_use hc.2.2.2.2.2.2.2.2.2.1 hlk) (fun _ z => z) hv hd (kk p l e R s m args below meth c A H locs cells slots lsA Qf hc h1 h2 hw hS hl hr)
  · exact va_getN hc.1 hc.2.1 hc.2.2.2.2.1 c2 hc.2.2.2.1 hc.2.2.2.2.2.1 hP q0 hq0 c1 k hk (nm_use hc.2.2.2.2.2.2.2.2.2.1 hlk) (fun _ z => z) hv hd (kk p l e R s m args below meth c A H locs cells slots lsA Qf hc h1 h2 hw hS hl hr)
/-- what putfield may do: no final field, or a final one of its own class in a constructor -/
def ev_pl (M : ev_M) (ix ci k : Nat) (fty : FieldType) : Prop :=
  ∃ (C : String) (T : u_T) (N : Nat) (ty : Nat → FieldType), ev_ck ci C T N ty ∧ k < N ∧ ty k = fty ∧
    ((Cond.fieldLink M.1.cls ix (T k).1 (T k).2.1 (T k).2.2.1 ∈ ev_WS ∧ ((T k).2.2.2 = false ∨ ((T k).2.2.2 = true ∧ (T k).1 = M.1.cls ∧ M.1.name = "<init>"))) ∨ ((T k).2.2.2 = false ∧ ∃ host : String, Cond.fieldLinkNest M.1.cls ix (T k).1 (T k).2.1 (T k).2.2.1 host ∈ ev_NW))
theorem ev_put {ix ci k a : Nat} {fty : FieldType} {fs fs' : List Value} {v : Value} (hd : fe M pc (.putfield ix) 3 pc') (hf : ev_pl M ix ci k fty) (ha : h a = some (.inr (ci, fs))) (hn : narrow fty v = v) (hfit : fits fty v = true) (hlen : k < fs.length) (hs : fs.set k v = fs')
    (kk : Ev G M d kc ks Q pc' ls st (va_up h a (some (.inr (ci, fs'))))) : Ev G M d kc ks Q pc ls (v :: .ref a :: st) h := by
  obtain ⟨hd, rfl⟩ := hd
  subst hs
  intro p l e R s m args below meth c A H locs cells slots lsA Qf hc h1 h2 hw hS hl hr
  obtain ⟨C, T, N, ty, ⟨c1, c2, c3, c4⟩, hk, hty, hlk⟩ := hf
  obtain ⟨ws, hP, hD, hg, hset, -⟩ := xw_ws hw
  obtain ⟨q0, hq0⟩ := hg a _ ha
  have hdd : parseFieldDescriptor (T k).2.2.1 = some fty := by rw [← hty]; exact c3 k hk
  have go : ∀ (H1 : Heap) (locs1 : List Loc), va_P G.1 ev_CL (ws.set q0 (a, .inr (ci, fs.set k v))) H1 → va_D A (ws.set q0 (a, .inr (ci, fs.set k v))) → va_S A s.heap H1 locs1 → W p l e R s m args below meth c H1 locs1 cells slots Qf (F0 m (pc + 3) lsA st) := fun H1 locs1 g1 g2 g3 =>
    kk p l e R s m args below meth c A H1 locs1 cells slots lsA Qf hc h1 h2 (hset a _ q0 _ H1 hq0 g1 g2) g3 hl hr
  rcases hlk with ⟨hlk, hfin | ⟨hfin, ho, hini⟩⟩ | ⟨hfin, host, hlk⟩
  · exact va_put hc.1 hc.2.1 hc.2.2.2.2.1 c2 ty c3 c4 hc.2.2.2.1 hc.2.2.2.2.2.1 hP hD hS q0 hq0 c1 k hk (hc.2.2.2.2.1 _ hlk) (fun _ z => z) hfin hdd hn hfit hlen hd go
  · exact va_putF hc.1 hc.2.1 hc.2.2.2.2.1 c2 ty c3 c4 hc.2.2.2.1 hc.2.2.2.2.2.1 hP hD hS q0 hq0 c1 k hk (hc.2.2.2.2.1 _ hlk) (fun _ z => z) hfin (hc.2.2.2.2.2.2.2.1.trans hini) ho hdd hn hfit hlen hd go
  · exact va_putN hc.1 hc.2.1 hc.2.2.2.2.1 c2 ty c3 c4 hc.2.2.2.1 hc.2.2.2.2.2.1 hP hD hS q0 hq0 c1 k hk (nm_use hc.2.2.2.2.2.2.2.2.2.1 hlk) (fun _ z => z) hfin hdd hn hfit hlen hd go
theorem ev_iaload {t n j a : Nat} {f : Nat → Int32} {i : Int32} (hd : fe M pc .iaload 1 pc') (ht : ev_ty t .int) (ha : h a = some (.inl (G.2 t, n, .inl f))) (hi : i = nI j) (hj : j < n) (hn : n < 2 ^ 31)
    (kk : Ev G M d kc ks Q pc' ls (.int (f j) :: st) h) : Ev G M d kc ks Q pc ls (.int i :: .ref a :: st) h := by
  obtain ⟨hd, rfl⟩ := hd
  subst hi
  intro p l e R s m args below meth c A H locs cells slots lsA Qf hc h1 h2 hw hS hl hr
  obtain ⟨ws, hP, hD, hg, -⟩ := xw_ws hw
  obtain ⟨q0, hq0⟩ := hg a _ ha
  refine va_iald hc.1 hc.2.1 hc.2.2.2.2.2.1 hP q0 t hq0 (ht G.2) (vp_in_nI hj hn) hd ?_
  rw [nI_clamp (Nat.lt_trans hj hn)]
  exact kk p l e R s m args below meth c A H locs cells slots lsA Qf hc h1 h2 hw hS hl hr
theorem ev_laload {t n j a : Nat} {f : Nat → Int64} {i : Int32} (hd : fe M pc .laload 1 pc') (ht : ev_ty t .long) (ha : h a = some (.inl (G.2 t, n, .inr (.inl f)))) (hi : i = nI j) (hj : j < n) (hn : n < 2 ^ 31)
    (kk : Ev G M d kc ks Q pc' ls (.long (f j) :: st) h) : Ev G M d kc ks Q pc ls (.int i :: .ref a :: st) h := by
  obtain ⟨hd, rfl⟩ := hd
  subst hi
  intro p l e R s m args below meth c A H locs cells slots lsA Qf hc h1 h2 hw hS hl hr
  obtain ⟨ws, hP, hD, hg, -⟩ := xw_ws hw
  obtain ⟨q0, hq0⟩ := hg a _ ha
  refine va_lald hc.1 hc.2.1 hc.2.2.2.2.2.1 hP q0 t hq0 (ht G.2) (vp_in_nI hj hn) hd ?_
  rw [nI_clamp (Nat.lt_trans hj hn)]
  exact kk p l e R s m args below meth c A H locs cells slots lsA Qf hc h1 h2 hw hS hl hr
theorem ev_caload {t n j a : Nat} {f : Nat → Int32} {i : Int32} (hd : fe M pc .caload 1 pc') (ht : ev_ty t .char) (ha : h a = some (.inl (G.2 t, n, .inl f))) (hi : i = nI j) (hj : j < n) (hn : n < 2 ^ 31)
    (kk : Ev G M d kc ks Q pc' ls (.int (f j) :: st) h) : Ev G M d kc ks Q pc ls (.int i :: .ref a :: st) h := by
  obtain ⟨hd, rfl⟩ := hd
  subst hi
  intro p l e R s m args below meth c A H locs cells slots lsA Qf hc h1 h2 hw hS hl hr
  obtain ⟨ws, hP, hD, hg, -⟩ := xw_ws hw
  obtain ⟨q0, hq0⟩ := hg a _ ha
  refine va_cald hc.1 hc.2.1 hc.2.2.2.2.2.1 hP q0 t hq0 (ht G.2) (vp_in_nI hj hn) hd ?_
  rw [nI_clamp (Nat.lt_trans hj hn)]
  exact kk p l e R s m args below meth c A H locs cells slots lsA Qf hc h1 h2 hw hS hl hr
theorem ev_baload {t n j a : Nat} {f : Nat → Int32} {i : Int32} (hd : fe M pc .baload 1 pc') (ht : ev_ty t .byte) (ha : h a = some (.inl (G.2 t, n, .inl f))) (hi : i = nI j) (hj : j < n) (hn : n < 2 ^ 31)
    (kk : Ev G M d kc ks Q pc' ls (.int (f j) :: st) h) : Ev G M d kc ks Q pc ls (.int i :: .ref a :: st) h := by
  obtain ⟨hd, rfl⟩ := hd
  subst hi
  intro p l e R s m args below meth c A H locs cells slots lsA Qf hc h1 h2 hw hS hl hr
  obtain ⟨ws, hP, hD, hg, -⟩ := xw_ws hw
  obtain ⟨q0, hq0⟩ := hg a _ ha
  refine va_bald hc.1 hc.2.1 hc.2.2.2.2.2.1 hP q0 t hq0 (ht G.2) (vp_in_nI hj hn) hd ?_
  rw [nI_clamp (Nat.lt_trans hj hn)]
  exact kk p l e R s m args below meth c A H locs cells slots lsA Qf hc h1 h2 hw hS hl hr
theorem ev_zaload {t n j a : Nat} {f : Nat → Int32} {i : Int32} (hd : fe M pc .baload 1 pc') (ht : ev_ty t .boolean) (ha : h a = some (.inl (G.2 t, n, .inl f))) (hi : i = nI j) (hj : j < n) (hn : n < 2 ^ 31)
    (kk : Ev G M d kc ks Q pc' ls (.int (f j) :: st) h) : Ev G M d kc ks Q pc ls (.int i :: .ref a :: st) h := by
  obtain ⟨hd, rfl⟩ := hd
  subst hi
  intro p l e R s m args below meth c A H locs cells slots lsA Qf hc h1 h2 hw hS hl hr
  obtain ⟨ws, hP, hD, hg, -⟩ := xw_ws hw
  obtain ⟨q0, hq0⟩ := hg a _ ha
  refine va_zald hc.1 hc.2.1 hc.2.2.2.2.2.1 hP q0 t hq0 (ht G.2) (vp_in_nI hj hn) hd ?_
  rw [nI_clamp (Nat.lt_trans hj hn)]
  exact kk p l e R s m args below meth c A H locs cells slots lsA Qf hc h1 h2 hw hS hl hr
theorem ev_iastore {t n j a : Nat} {f : Nat → Int32} {i : Int32} {x : Int32} (hd : fe M pc .iastore 1 pc') (ht : ev_ty t .int) (ha : h a = some (.inl (G.2 t, n, .inl (f)))) (hi : i = nI j) (hj : j < n) (hn : n < 2 ^ 31)
    (kk : Ev G M d kc ks Q pc' ls st (va_up h a (some (.inl (G.2 t, n, .inl (upd f j x)))))) : Ev G M d kc ks Q pc ls (.int x :: .int i :: .ref a :: st) h := by
  obtain ⟨hd, rfl⟩ := hd
  subst hi
  intro p l e R s m args below meth c A H locs cells slots lsA Qf hc h1 h2 hw hS hl hr
  obtain ⟨ws, hP, hD, hg, hset, -⟩ := xw_ws hw
  obtain ⟨q0, hq0⟩ := hg a _ ha
  refine va_iast hc.1 hc.2.1 hc.2.2.2.2.2.1 hP hD hS q0 t hq0 (ht G.2) (vp_in_nI hj hn) hd (fun H1 locs1 g1 g2 g3 => ?_)
  rw [nI_clamp (Nat.lt_trans hj hn)] at g1 g2
  exact kk p l e R s m args below meth c A H1 locs1 cells slots lsA Qf hc h1 h2 (hset a _ q0 _ H1 hq0 g1 g2) g3 hl hr
theorem ev_lastore {t n j a : Nat} {f : Nat → Int64} {i : Int32} {x : Int64} (hd : fe M pc .lastore 1 pc') (ht : ev_ty t .long) (ha : h a = some (.inl (G.2 t, n, .inr (.inl (f))))) (hi : i = nI j) (hj : j < n) (hn : n < 2 ^ 31)
    (kk : Ev G M d kc ks Q pc' ls st (va_up h a (some (.inl (G.2 t, n, .inr (.inl (vp_updL f j x))))))) : Ev G M d kc ks Q pc ls (.long x :: .int i :: .ref a :: st) h := by
  obtain ⟨hd, rfl⟩ := hd
  subst hi
  intro p l e R s m args below meth c A H locs cells slots lsA Qf hc h1 h2 hw hS hl hr
  obtain ⟨ws, hP, hD, hg, hset, -⟩ := xw_ws hw
  obtain ⟨q0, hq0⟩ := hg a _ ha
  refine va_last hc.1 hc.2.1 hc.2.2.2.2.2.1 hP hD hS q0 t hq0 (ht G.2) (vp_in_nI hj hn) hd (fun H1 locs1 g1 g2 g3 => ?_)
  rw [nI_clamp (Nat.lt_trans hj hn)] at g1 g2
  exact kk p l e R s m args below meth c A H1 locs1 cells slots lsA Qf hc h1 h2 (hset a _ q0 _ H1 hq0 g1 g2) g3 hl hr
theorem ev_castore {t n j a : Nat} {f : Nat → Int32} {i : Int32} {x : Int32} (hd : fe M pc .castore 1 pc') (ht : ev_ty t .char) (ha : h a = some (.inl (G.2 t, n, .inl (f)))) (hi : i = nI j) (hj : j < n) (hn : n < 2 ^ 31)
    (kk : Ev G M d kc ks Q pc' ls st (va_up h a (some (.inl (G.2 t, n, .inl (upd f j (vp_nar .char x))))))) : Ev G M d kc ks Q pc ls (.int x :: .int i :: .ref a :: st) h := by
  obtain ⟨hd, rfl⟩ := hd
  subst hi
  intro p l e R s m args below meth c A H locs cells slots lsA Qf hc h1 h2 hw hS hl hr
  obtain ⟨ws, hP, hD, hg, hset, -⟩ := xw_ws hw
  obtain ⟨q0, hq0⟩ := hg a _ ha
  refine va_cast hc.1 hc.2.1 hc.2.2.2.2.2.1 hP hD hS q0 t hq0 (ht G.2) (vp_in_nI hj hn) hd (fun H1 locs1 g1 g2 g3 => ?_)
  rw [nI_clamp (Nat.lt_trans hj hn)] at g1 g2
  exact kk p l e R s m args below meth c A H1 locs1 cells slots lsA Qf hc h1 h2 (hset a _ q0 _ H1 hq0 g1 g2) g3 hl hr
theorem ev_bastore {t n j a : Nat} {f : Nat → Int32} {i : Int32} {x : Int32} (hd : fe M pc .bastore 1 pc') (ht : ev_ty t .byte) (ha : h a = some (.inl (G.2 t, n, .inl (f)))) (hi : i = nI j) (hj : j < n) (hn : n < 2 ^ 31)
    (kk : Ev G M d kc ks Q pc' ls st (va_up h a (some (.inl (G.2 t, n, .inl (upd f j (vp_nar .byte x))))))) : Ev G M d kc ks Q pc ls (.int x :: .int i :: .ref a :: st) h := by
  obtain ⟨hd, rfl⟩ := hd
  subst hi
  intro p l e R s m args below meth c A H locs cells slots lsA Qf hc h1 h2 hw hS hl hr
  obtain ⟨ws, hP, hD, hg, hset, -⟩ := xw_ws hw
  obtain ⟨q0, hq0⟩ := hg a _ ha
  refine va_bast hc.1 hc.2.1 hc.2.2.2.2.2.1 hP hD hS q0 t hq0 (ht G.2) (vp_in_nI hj hn) hd (fun H1 locs1 g1 g2 g3 => ?_)
  rw [nI_clamp (Nat.lt_trans hj hn)] at g1 g2
  exact kk p l e R s m args below meth c A H1 locs1 cells slots lsA Qf hc h1 h2 (hset a _ q0 _ H1 hq0 g1 g2) g3 hl hr
theorem ev_zastore {t n j a : Nat} {f : Nat → Int32} {i : Int32} {x : Int32} (hd : fe M pc .bastore 1 pc') (ht : ev_ty t .boolean) (ha : h a = some (.inl (G.2 t, n, .inl (f)))) (hi : i = nI j) (hj : j < n) (hn : n < 2 ^ 31)
    (kk : Ev G M d kc ks Q pc' ls st (va_up h a (some (.inl (G.2 t, n, .inl (upd f j (vp_nar .boolean x))))))) : Ev G M d kc ks Q pc ls (.int x :: .int i :: .ref a :: st) h := by
  obtain ⟨hd, rfl⟩ := hd
  subst hi
  intro p l e R s m args below meth c A H locs cells slots lsA Qf hc h1 h2 hw hS hl hr
  obtain ⟨ws, hP, hD, hg, hset, -⟩ := xw_ws hw
  obtain ⟨q0, hq0⟩ := hg a _ ha
  refine va_zast hc.1 hc.2.1 hc.2.2.2.2.2.1 hP hD hS q0 t hq0 (ht G.2) (vp_in_nI hj hn) hd (fun H1 locs1 g1 g2 g3 => ?_)
  rw [nI_clamp (Nat.lt_trans hj hn)] at g1 g2
  exact kk p l e R s m args below meth c A H1 locs1 cells slots lsA Qf hc h1 h2 (hset a _ q0 _ H1 hq0 g1 g2) g3 hl hr
theorem ev_aaload {t n j a : Nat} {C : String} {f : Nat → Option Nat} {i : Int32} (hd : fe M pc .aaload 1 pc') (ht : ev_ty t (.object C)) (ha : h a = some (.inl (G.2 t, n, .inr (.inr (.inr (.inr f)))))) (hi : i = nI j) (hj : j < n) (hn : n < 2 ^ 31)
    (kk : Ev G M d kc ks Q pc' ls (va_rf (f j) :: st) h) : Ev G M d kc ks Q pc ls (.int i :: .ref a :: st) h := by
  obtain ⟨hd, rfl⟩ := hd
  subst hi
  intro p l e R s m args below meth c A H locs cells slots lsA Qf hc h1 h2 hw hS hl hr
  obtain ⟨ws, hP, hD, hg, -⟩ := xw_ws hw
  obtain ⟨q0, hq0⟩ := hg a _ ha
  refine va_aldq hc.1 hc.2.1 hc.2.2.2.2.2.1 hP q0 t hq0 (ht G.2) (vp_in_nI hj hn) hd ?_
  rw [nI_clamp (Nat.lt_trans hj hn)]
  exact kk p l e R s m args below meth c A H locs cells slots lsA Qf hc h1 h2 hw hS hl hr
theorem ev_aastore {t n j a v ci : Nat} {C : String} {T : u_T} {N : Nat} {vs : List Value} {f : Nat → Option Nat} {i : Int32} (hd : fe M pc .aastore 1 pc') (ht : ev_ty t (.object C)) (ha : h a = some (.inl (G.2 t, n, .inr (.inr (.inr (.inr f)))))) (hv : h v = some (.inr (ci, vs))) (hcl : ev_CL[ci]? = some (C, T, N)) (hi : i = nI j) (hj : j < n) (hn : n < 2 ^ 31)
    (kk : Ev G M d kc ks Q pc' ls st (va_up h a (some (.inl (G.2 t, n, .inr (.inr (.inr (.inr (va_up f j (some v)))))))))) : Ev G M d kc ks Q pc ls (.ref v :: .int i :: .ref a :: st) h := by
  obtain ⟨hd, rfl⟩ := hd
  subst hi
  intro p l e R s m args below meth c A H locs cells slots lsA Qf hc h1 h2 hw hS hl hr
  obtain ⟨ws, hP, hD, hg, hset, -⟩ := xw_ws hw
  obtain ⟨q0, hq0⟩ := hg a _ ha
  obtain ⟨q1, hq1⟩ := hg v _ hv
  refine va_astq hc.1 hc.2.1 hc.2.2.2.2.2.1 hP hD hS q0 t q1 ci hq0 (ht G.2) hq1 hcl (vp_in_nI hj hn) hd (fun H1 locs1 g1 g2 g3 => ?_)
  rw [nI_clamp (Nat.lt_trans hj hn)] at g1 g2
  exact kk p l e R s m args below meth c A H1 locs1 cells slots lsA Qf hc h1 h2 (hset a _ q0 _ H1 hq0 g1 g2) g3 hl hr
theorem ev_alen {t a : Nat} {ty : FieldType} {x : vp_A} {v : Int32} (hd : fe M pc .arraylength 1 pc') (ht : ev_ty t ty) (ha : h a = some (.inl (G.2 t, x))) (hv : nI x.1 = v)
    (kk : Ev G M d kc ks Q pc' ls (.int v :: st) h) : Ev G M d kc ks Q pc ls (.ref a :: st) h := by
  obtain ⟨hd, rfl⟩ := hd
  intro p l e R s m args below meth c A H locs cells slots lsA Qf hc h1 h2 hw hS hl hr
  obtain ⟨ws, hP, hD, hg, -⟩ := xw_ws hw
  obtain ⟨q0, hq0⟩ := hg a _ ha
  exact va_alen hc.1 hc.2.1 hc.2.2.2.2.2.1 hP q0 t hq0 (ht G.2) hv hd (kk p l e R s m args below meth c A H locs cells slots lsA Qf hc h1 h2 hw hS hl hr)
theorem ev_sld {b L j : Nat} {xs : Nat → Int32} {i : Int32} (hX : M.2.2.2.2 = some (b, L, xs)) (hd : fe M pc .iaload 1 pc') (hi : i = nI j) (hj : j < L) (hn : L < 2 ^ 31)
    (kk : Ev G M d kc ks Q pc' ls (.int (xs j) :: st) h) : Ev G M d kc ks Q pc ls (.int i :: .ref b :: st) h := by
  obtain ⟨hd, rfl⟩ := hd
  subst hi
  intro p l e R s m args below meth c A H locs cells slots lsA Qf hc h1 h2 hw hS hl hr
  obtain ⟨x1, x2, x3⟩ := hc.2.2.2.2.2.2.2.2.2.2 b L xs hX
  refine va_sld hc.1 hc.2.1 x1 x2 x3 hS (vp_in_nI hj hn) hd ?_
  rw [nI_clamp (Nat.lt_trans hj hn)]
  exact kk p l e R s m args below meth c A H locs cells slots lsA Qf hc h1 h2 hw hS hl hr
theorem ev_slen {b L : Nat} {xs : Nat → Int32} (hX : M.2.2.2.2 = some (b, L, xs)) (hd : fe M pc .arraylength 1 pc')
    (kk : Ev G M d kc ks Q pc' ls (.int (nI L) :: st) h) : Ev G M d kc ks Q pc ls (.ref b :: st) h := by
  obtain ⟨hd, rfl⟩ := hd
  intro p l e R s m args below meth c A H locs cells slots lsA Qf hc h1 h2 hw hS hl hr
  obtain ⟨x1, x2, x3⟩ := hc.2.2.2.2.2.2.2.2.2.2 b L xs hX
  exact va_slen hc.1 hc.2.1 x1 x2 x3 hS hd (kk p l e R s m args below meth c A H locs cells slots lsA Qf hc h1 h2 hw hS hl hr)
theorem nm_ra {U : State} {c1 c2 : ClassId} {ty : FieldType} (h1 : va_RA U c1 ty) (h2 : va_RA U c2 ty) : c1 = c2 := by
  cases ty with
  | object C =>
    obtain ⟨-, -, -, -, -, a⟩ := h1
    obtain ⟨-, -, -, -, -, b⟩ := h2
    exact Option.some.inj (a.symm.trans b)
  | _ => exact Option.some.inj (h1.symm.trans h2)
theorem ev_newa {atype : ArrayType} {ty : FieldType} {t N kc' ks' : Nat} {n : Int32} {a0 : vp_A} (hd : fe M pc (.newarray atype) 2 pc') (hty : newarray.typeOf atype = ty) (ht : ev_ty t ty) (hac : Cond.arrayClass ty ∈ ev_WS) (ha0 : ∀ cA : ClassId, vp_cell cA a0 = arrV cA N (fun _ => defaultValue ty)) (hn : n = nI N) (hN : N < 2 ^ 20)
    (hk : kc = kc' + 1) (hs : ks = ks' + N) (kk : ∀ q : Nat, h q = none → Ev G M d kc' ks' Q pc' ls (.ref q :: st) (va_up h q (some (.inl (G.2 t, a0))))) : Ev G M d kc ks Q pc ls (.int n :: st) h := by
  obtain ⟨hd, rfl⟩ := hd
  subst hn; subst hk; subst hs; subst hty
  intro p l e R s m args below meth c A H locs cells slots lsA Qf hc h1 h2 hw hS hl hr
  obtain ⟨ws, hP, hD, hg, -, hpush⟩ := xw_ws hw
  have hcl : (nI N).toNatClampNeg = N := nI_clamp (by omega)
  have hby : N * componentBytes (newarray.typeOf atype) ≤ 536870912 := by
    have : componentBytes (newarray.typeOf atype) ≤ 8 := by cases atype <;> decide
    calc N * componentBytes (newarray.typeOf atype) ≤ N * 8 := Nat.mul_le_mul_left _ this
      _ ≤ 536870912 := by omega
  refine va_newa hc.1 hc.2.1 (hc.2.2.2.2.1 _ hac) rfl hc.2.2.2.2.2.1 hP hD hS hc.2.2.2.2.2.2.1 ha0 (nI_pos (by omega)) hcl hby (by omega) (by omega) hd (fun q cA H1 g0 g1 g2 g3 => ?_)
  have e1 : cA = G.2 t := by
    have k1 := (hc.2.2.2.2.2.1.2 t _ (ht G.2)).2
    have k2 := (g0.2 (ev_TY G.2).length (cA, newarray.typeOf atype) (by simp)).2
    exact nm_ra k2 k1
  subst e1
  obtain ⟨w1, w2⟩ := hpush q _ H1 g1 g2
  exact kk q w1 p l e R s m args below meth c A H1 locs (cells + 1) (slots + N) lsA Qf hc (by omega) (by omega) w2 g3 hl hr
theorem ev_newq {C : String} {ix t N kc' ks' : Nat} {n : Int32} (hd : fe M pc (.anewarray ix) 3 pc') (ht : ev_ty t (.object C)) (hlk : Cond.classLink M.1.cls ix C ∈ ev_WS) (hao : C ∈ ev_AO) (hn : n = nI N) (hN : N < 2 ^ 20)
    (hk : kc = kc' + 1) (hs : ks = ks' + N) (kk : ∀ q : Nat, h q = none → Ev G M d kc' ks' Q pc' ls (.ref q :: st) (va_up h q (some (.inl (G.2 t, N, .inr (.inr (.inr (.inr (fun _ => none))))))))) : Ev G M d kc ks Q pc ls (.int n :: st) h := by
  obtain ⟨hd, rfl⟩ := hd
  subst hn; subst hk; subst hs
  intro p l e R s m args below meth c A H locs cells slots lsA Qf hc h1 h2 hw hS hl hr
  obtain ⟨ws, hP, hD, hg, -, hpush⟩ := xw_ws hw
  have hcl : (nI N).toNatClampNeg = N := nI_clamp (by omega)
  refine va_newq hc.1 hc.2.1 hc.2.2.2.1 (hc.2.2.2.2.1 _ hlk) (hc.2.2.2.2.2.2.2.2.2.1.2 C hao) hc.2.2.2.2.2.1 hP hD hS hc.2.2.2.2.2.2.1 (nI_pos (by omega)) hcl (by omega) (by omega) (by omega) hd (fun q cA H1 g0 g1 g2 g3 => ?_)
  have e1 : cA = G.2 t := by
    have k1 := (hc.2.2.2.2.2.1.2 t _ (ht G.2)).2
    have k2 := (g0.2 (ev_TY G.2).length (cA, .object C) (by simp)).2
    exact nm_ra k2 k1
  subst e1
  obtain ⟨w1, w2⟩ := hpush q _ H1 g1 g2
  exact kk q w1 p l e R s m args below meth c A H1 locs (cells + 1) (slots + N) lsA Qf hc (by omega) (by omega) w2 g3 hl hr
theorem ev_new {C : String} {T : u_T} {N ci ix kc' ks' : Nat} {ty : Nat → FieldType} {fs : List Value} (hd : fe M pc (.new ix) 3 pc') (hck : ev_ck ci C T N ty) (hlk : Cond.classLink M.1.cls ix C ∈ ev_WS) (hin : Cond.instantiable C N ∈ ev_WS) (hini : Cond.initialized C ∈ ev_WS) (hfs : ∀ j, j < N → defaultValue (ty j) = vp_V fs j)
    (hk : kc = kc' + 1) (hs : ks = ks' + N) (kk : ∀ q : Nat, h q = none → Ev G M d kc' ks' Q pc' ls (.ref q :: st) (va_up h q (some (.inr (ci, fs))))) : Ev G M d kc ks Q pc ls st h := by
  obtain ⟨hd, rfl⟩ := hd
  subst hk; subst hs
  intro p l e R s m args below meth c A H locs cells slots lsA Qf hc h1 h2 hw hS hl hr
  obtain ⟨ws, hP, hD, hg, -, hpush⟩ := xw_ws hw
  obtain ⟨c1, c2, c3, c4⟩ := hck
  refine va_new hc.1 hc.2.1 hc.2.2.2.2.1 c2 ty c3 hc.2.2.2.1 (hc.2.2.2.2.1 _ hlk) (hc.2.2.2.2.1 _ hin) (hc.2.2.2.2.1 _ hini) hc.2.2.2.2.2.1 hP hD hS hc.2.2.2.2.2.2.1 c1 hfs (by omega) (by omega) hd (fun q H1 g1 g2 g3 => ?_)
  obtain ⟨w1, w2⟩ := hpush q _ H1 g1 g2
  exact kk q w1 p l e R s m args below meth c A H1 locs (cells + 1) (slots + N) lsA Qf hc (by omega) (by omega) w2 g3 hl hr
theorem ev_obj {a ix : Nat} (hd : fe M pc (.invokespecial ix) 3 pc') (k1 : Cond.methodLink M.1.cls ix Lib.objectInit ∈ ev_WS) (k2 : Cond.instanceMethod Lib.objectInit ∈ ev_WS) (k3 : Cond.code Lib.objectInit ⟨#[0xb1]⟩ 1 none ∈ ev_WS) (hdd : 1 ≤ d) (hst : (st.map fun v => v.category).sum ≤ 8)
    (kk : Ev G M d kc ks Q pc' ls st h) : Ev G M d kc ks Q pc ls (.ref a :: st) h := by
  obtain ⟨hd, rfl⟩ := hd
  intro p l e R s m args below meth c A H locs cells slots lsA Qf hc h1 h2 hw hS hl hr
  obtain ⟨r1, r2⟩ := hc.2.2.2.2.2.2.2.2.1
  refine W.objInit hc.1 hc.2.1 hc.2.2.2.1 (hc.2.2.2.2.1 _ k1) (hc.2.2.2.2.1 _ k2) (hc.2.2.2.2.1 _ k3) rfl (hl.1.trans hc.2.2.1.symm) rfl hd (by omega) ?_ ?_
  · have := lv_room (m := m) (pc := pc) (ls := lsA) (rest := .ref a :: st) hst
    omega
  · exact W.eq (g2 := F0 m (pc + 3) lsA st) rfl (kk p l e R s m args below meth c A H locs cells slots lsA Qf hc h1 h2 hw hS hl hr)
theorem ev_copyl {t n0 n1 a0 a sp dp n ix : Nat} {f g : Nat → Int64} {xsp xdp xn : Int32} (hd : fe M pc (.invokestatic ix) 3 pc') (k1 : Cond.methodLink M.1.cls ix arraycopyName ∈ ev_WS) (k2 : Cond.native arraycopyName ∈ ev_WS) (k3 : Cond.static arraycopyName ∈ ev_WS) (k4 : Cond.initialized "java/lang/System" ∈ ev_WS) (ht : ev_ty t .long) (ha0 : h a0 = some (.inl (G.2 t, n0, .inr (.inl f)))) (ha : h a = some (.inl (G.2 t, n1, .inr (.inl g))))
    (e1 : xsp = nI sp) (e2 : xdp = nI dp) (e3 : xn = nI n) (h4 : sp + n ≤ n0) (h5 : dp + n ≤ n1) (hb0 : n0 < 2 ^ 31) (hb1 : n1 < 2 ^ 31) (hdd : 1 ≤ d) (hwt : (st.map fun v => v.category).sum ≤ 8)
    (kk : Ev G M d kc ks Q pc' ls st (va_up h a (some (.inl (G.2 t, n1, .inr (.inl (va_cpy f g sp dp n))))))) : Ev G M d kc ks Q pc ls (.int xn :: .int xdp :: .ref a :: .int xsp :: .ref a0 :: st) h := by
  obtain ⟨hd, rfl⟩ := hd
  subst e1; subst e2; subst e3
  intro p l e R s m args below meth c A H locs cells slots lsA Qf hc h1 h2 hw hS hl hr
  obtain ⟨r1, r2⟩ := hc.2.2.2.2.2.2.2.2.1
  obtain ⟨ws, hP, hD, hg, hset, -⟩ := xw_ws hw
  obtain ⟨q0, hq0⟩ := hg a0 _ ha0
  obtain ⟨q1, hq1⟩ := hg a _ ha
  have c1 : (nI sp).toNatClampNeg = sp := nI_clamp (by omega)
  have c2 : (nI dp).toNatClampNeg = dp := nI_clamp (by omega)
  have c3 : (nI n).toNatClampNeg = n := nI_clamp (by omega)
  have hnf : nativeFrameWords "java/lang/System" "arraycopy" 5 = 7 := by decide
  refine va_copyl hc.1 hc.2.1 (hc.2.2.1.trans hl.1.symm) hc.2.2.2.1 (hc.2.2.2.2.1 _ k1) (hc.2.2.2.2.1 _ k2) (hc.2.2.2.2.1 _ k3) (hc.2.2.2.2.1 _ k4) hc.2.2.2.2.2.1 hP hD hS q0 q1 t t hq0 hq1 (ht G.2) (ht G.2) rfl (nI_pos (by omega)) (nI_pos (by omega)) (nI_pos (by omega)) (by rw [c1, c3]; exact h4) (by rw [c2, c3]; exact h5) (fun _ _ => rfl) (by omega) (by rw [hnf]; omega) hd (fun H1 locs1 g1 g2 g3 => ?_)
  rw [c1, c2, c3] at g1 g2
  exact kk p l e R s m args below meth c A H1 locs1 cells slots lsA Qf hc h1 h2 (hset a _ q1 _ H1 hq1 g1 g2) g3 hl hr
/-- returns -/
theorem ev_ireturn {x : Int32} {ty : FieldType} (hd : fe M pc .ireturn 1 pc') (hrt : M.2.2.2.1 = some ty) (hn : narrow ty (.int x) = .int x) (hq : Q (some (.int x)) h) : Ev G M d kc ks Q pc ls [.int x] h := by
  obtain ⟨hd, rfl⟩ := hd
  intro p l e R s m args below meth c A H locs cells slots lsA Qf hc h1 h2 hw hS hl hr
  exact hr (some (.int x)) h H locs cells slots pc lsA (Or.inl ⟨x, ty, rfl, hrt, hn, hd⟩) hq hw hS (by omega) (by omega)
theorem ev_lreturn {x : Int64} (hd : fe M pc .lreturn 1 pc') (hrt : M.2.2.2.1 = some .long) (hq : Q (some (.long x)) h) : Ev G M d kc ks Q pc ls [.long x] h := by
  obtain ⟨hd, rfl⟩ := hd
  intro p l e R s m args below meth c A H locs cells slots lsA Qf hc h1 h2 hw hS hl hr
  exact hr (some (.long x)) h H locs cells slots pc lsA (Or.inr (Or.inr (Or.inl ⟨x, rfl, hrt, hd⟩))) hq hw hS (by omega) (by omega)
theorem ev_areturn {v : Value} {C : String} (hd : fe M pc .areturn 1 pc') (hrt : M.2.2.2.1 = some (.object C)) (hv : v = .null ∨ ∃ a, v = .ref a) (hq : Q (some v) h) : Ev G M d kc ks Q pc ls [v] h := by
  obtain ⟨hd, rfl⟩ := hd
  intro p l e R s m args below meth c A H locs cells slots lsA Qf hc h1 h2 hw hS hl hr
  exact hr (some v) h H locs cells slots pc lsA (Or.inr (Or.inr (Or.inr ⟨v, C, rfl, hv, hrt, hd⟩))) hq hw hS (by omega) (by omega)
theorem ev_return (hd : fe M pc .return_ 1 pc') (hrt : M.2.2.2.1 = none) (hq : Q none h) : Ev G M d kc ks Q pc ls [] h := by
  obtain ⟨hd, rfl⟩ := hd
  intro p l e R s m args below meth c A H locs cells slots lsA Qf hc h1 h2 hw hS hl hr
  exact hr none h H locs cells slots pc lsA (Or.inr (Or.inl ⟨rfl, hrt, hd⟩)) hq hw hS (by omega) (by omega)
end EVH
/-! a method's contract -/
def ev_ws (M : ev_M) : List Cond := .code M.1 M.2.1 M.2.2.1 M.2.2.2.1 :: ev_WS
def ev_rm (d kc ks : Nat) : Room := { frames := d, cells := kc, slots := ks, locals := 44 * d }
def ev_Pu (G : ev_G) (h : ev_H) (sz : Nat) (U : State) : Prop := U.heap.size = sz ∧ xw G (fun _ => True) h U.heap ∧ va_K G.1 ev_CL (ev_TY G.2) U ∧ ev_nw U
def ev_Qc (G : ev_G) (h : ev_H) (sz : Nat) (Q : Option Value → ev_H → Prop) : Array Value → State → Outcome → State → Prop := fun _ s oc t => (∃ (r : Option Value) (h' : ev_H), oc = .returned r ∧ Q r h' ∧ xw G (ev_fr h sz) h' t.heap) ∧ va_F (ev_fr h sz) s t
def Rn (G : ev_G) (M : ev_M) (d kc ks : Nat) (av : List Value) (h : ev_H) (Q : Option Value → ev_H → Prop) : Prop :=
  ∀ (l : Launch) (sz : Nat), Met l M.1 (ev_ws M) (ev_rm d kc ks) (va_Pc av (ev_Pu G h sz)) (ev_Qc G h sz Q) kc ks (ev_fr h sz)
theorem Rn_mono {G : ev_G} {M : ev_M} {d kc ks : Nat} {av : List Value} {h : ev_H} {Q Q' : Option Value → ev_H → Prop} (hQ : ∀ v h, Q v h → Q' v h) (k : Rn G M d kc ks av h Q) : Rn G M d kc ks av h Q' := by
  intro l sz
  exact MetFree.mono (k l sz) (fun _ _ q => q) (fun _ _ _ _ _ q => q) (fun a s o t _ q => ⟨⟨by obtain ⟨⟨⟨r, h', e1, e2, e3⟩, -⟩, -⟩ := q; exact ⟨r, h', e1, hQ _ _ e2, e3⟩, q.1.2⟩, q.2⟩)
def ev_sl : List Value → List (Option Value)
  | [] => []
  | v :: vs => if v.category = 2 then some v :: none :: ev_sl vs else some v :: ev_sl vs
def ev_ent (nL : Nat) (av : List Value) : List (Option Value) := ev_sl av ++ List.replicate (nL - (ev_sl av).length) none
theorem ev_sl_mem : ∀ (av : List Value) (k i : Nat) (v : Value), (ev_sl av)[i]? = some (some v) → (k + i, v) ∈ lv_args k av
  | [], k, i, v, h => by simp [ev_sl] at h
  | w :: av, k, i, v, h => by
    unfold ev_sl at h
    unfold lv_args
    by_cases hc : w.category = 2
    · rw [if_pos hc] at h ⊢
      match i, h with
      | 0, h => simp at h; subst h; simp
      | 1, h => simp at h
      | i + 2, h =>
        have := ev_sl_mem av (k + 2) i v (by simpa using h)
        exact List.mem_cons_of_mem _ (by rw [show k + (i + 2) = k + 2 + i by omega]; exact this)
    · rw [if_neg hc] at h ⊢
      match i, h with
      | 0, h => simp at h; subst h; simp
      | i + 1, h =>
        have := ev_sl_mem av (k + 1) i v (by simpa using h)
        exact List.mem_cons_of_mem _ (by rw [show k + (i + 1) = k + 1 + i by omega]; exact this)
theorem ev_sl_len (av : List Value) : (ev_sl av).length = (lg_sl av).length := by
  induction av with
  | nil => rfl
  | cons v av ih =>
    unfold ev_sl
    by_cases hc : v.category = 2
    · rw [if_pos hc]
      simp [lg_sl, hc, ih]
    · rw [if_neg hc]
      simp [lg_sl, hc, ih]
theorem ev_ent_ok {lsA : Array Slot} {nL : Nat} {av : List Value} (hn : (lg_sl av).length ≤ nL) (hl : lv_has lsA nL (lv_args 0 av)) : ev_ls lsA nL (ev_ent nL av) := by
  refine ⟨hl.1, hl.2.1, ?_, fun i v hi => ?_⟩
  · unfold ev_ent
    rw [← ev_sl_len] at hn
    simp
    omega
  · unfold ev_ent at hi
    by_cases hb : i < (ev_sl av).length
    · rw [List.getElem?_append_left hb] at hi
      have := ev_sl_mem av 0 i v hi
      rw [Nat.zero_add] at this
      exact hl.2.2 _ this
    · rw [List.getElem?_append_right (by omega), List.getElem?_replicate] at hi
      split at hi <;> simp at hi
theorem Rn_of {G : ev_G} {M : ev_M} {d kc ks : Nat} {av : List Value} {h : ev_H} {Q : Option Value → ev_H → Prop} {ls : List (Option Value)} (hX : M.2.2.2.2 = none) (hy : plainName M.1.cls = true) (hn : (lg_sl av).length ≤ M.2.2.1) (hls : ev_ent M.2.2.1 av = ls) (k : Ev G M d kc ks Q 0 ls [] h) : Rn G M d kc ks av h Q := by
  intro l sz
  refine Met.ofW (cc := M.2.1) (maxL := M.2.2.1) (ret := M.2.2.2.1) hy rfl ?_
  intro p e s m args below meth c s₁ B hml hv
  obtain ⟨rfl, hsz, hw, hK, hN⟩ := hv
  have hx := B.exec
  have hb := B.bytes
  have hrr := B.returns
  have hts := atoms_spec (ws := ev_ws M) B.pre
  have hown : s.vm.findClass M.1.cls = some m.cls := findClass_of_methodNamed B.named
  have hlocks := B.notSynchronized
  have hname : meth.name = M.1.name := (name_of_methodNamed B.named B.method).1
  subst hsz
  have hl := lv_entry av hn
  rw [lg_entry_eq]
  generalize (lg_sl av ++ List.replicate (M.2.2.1 - (lg_sl av).length) Slot.unset).toArray = lsA at hl ⊢
  refine k p l e _ s m av.toArray below meth c (ev_fr h s.heap.size) s.heap [] 0 0 lsA _ ⟨hx, hb, hml, hown, fun w hw => hts w (List.mem_cons_of_mem _ hw), hK, fun q hq => Or.inr hq, hname, ⟨Nat.le_refl _, Nat.le_refl _⟩, hN, fun b L xs z => by rw [hX] at z; cases z⟩ (by rw [Nat.zero_add]; exact Nat.le_refl _) (by rw [Nat.zero_add]; exact Nat.le_refl _) (xw_weak hw (fun a e ha _ => Or.inl ⟨e, ha⟩)) va_S.rf (by rw [← hls]; exact ev_ent_ok hn hl) ?_
  intro v h' H' locs cells slots pc lsB hri hq hw1 hS1 h1 h2
  refine W.widen (k := kc) (n := ks) h1 h2 ?_
  rcases hri with ⟨x, ty, rfl, hrt, hnn, hd⟩ | ⟨rfl, hrt, hd⟩ | ⟨x, rfl, hrt, hd⟩ | ⟨w, C, rfl, hvv, hrt, hd⟩
  · exact W.zret hx hb (hrr.trans hrt) hnn (fun t ht hW => ⟨⟨_, h', rfl, hq, by rw [ht]; exact hw1⟩, hS1.F ht⟩) hS1.2.2 hd hlocks
  · exact W.vret hx hb (hrr.trans hrt) (fun t ht hW => ⟨⟨_, h', rfl, hq, by rw [ht]; exact hw1⟩, hS1.F ht⟩) hS1.2.2 hd hlocks
  · exact W.lret hx hb (hrr.trans hrt) (fun t ht hW => ⟨⟨_, h', rfl, hq, by rw [ht]; exact hw1⟩, hS1.F ht⟩) hS1.2.2 hd hlocks
  · exact W.aret hx hb (hrr.trans hrt) (Or.inl ⟨C, rfl⟩) hvv (fun t ht hW => ⟨⟨_, h', rfl, hq, by rw [ht]; exact hw1⟩, hS1.F ht⟩) hS1.2.2 hd hlocks
/-! calls -/
theorem ev_good {M : ev_M} (h : Cond.code M.1 M.2.1 M.2.2.1 M.2.2.2.1 ∈ ev_WS) : GoodIn ev_WS (ev_ws M) := by
  intro w hw
  have hm : w ∈ ev_WS := by
    rcases List.mem_cons.mp hw with q | q
    · rw [q]; exact h
    · exact q
  exact ⟨hm, good_of_word (List.mem_filter.mp hm).2⟩
/-- what a call asks of the tables -/
def ev_cb (M' : ev_M) (n : Nat) : Prop := Cond.initialized M'.1.cls ∈ ev_WS ∧ Cond.code M'.1 M'.2.1 M'.2.2.1 M'.2.2.2.1 ∈ ev_WS ∧ (M'.1.cls ≠ "java/lang/invoke/MethodHandle" ∧ M'.1.cls ≠ "java/lang/invoke/VarHandle" ∧ (parseMethodDescriptor M'.1.desc).map (fun d => d.parameters.length) = some n) ∧ M'.2.2.1 + 19 ≤ 44
def ev_lk (own : String) (ix : Nat) (M' : ev_M) : Prop := Cond.methodLink own ix M'.1 ∈ ev_WS ∨ ∃ host : String, Cond.methodLinkNest own ix M'.1 host ∈ ev_NW
def ev_iv (M' : ev_M) : Prop := Cond.instanceMethod M'.1 ∈ ev_WS ∧ Cond.selects M'.1.cls M'.1 M'.1 ∈ ev_WS
theorem ev_blind {G : ev_G} {h : ev_H} {sz : Nat} {av : List Value} : FrameBlind (va_Pc av (ev_Pu G h sz)) := fun a U g mk q => by
  obtain ⟨q0, q1, qP, qK, qN⟩ := q
  exact ⟨q0, q1, qP, va_K.moved (u := U) (U := U.calling g mk a) (Vm.Alike.refl U.vm) qK, ev_nw_same (s := U) (U := U.calling g mk a) rfl qN⟩
section EVC
variable {G : ev_G} {M M' : ev_M} {d kc ks d' kc1 ks1 kc' ks' : Nat} {Q Q' : Option Value → ev_H → Prop} {pc pc' ix n : Nat} {ls : List (Option Value)} {st st0 As : List Value} {h : ev_H}
theorem ev_cont {p : Program} {l : Launch} {e : Env} {R : Room} {s : State} {m : MethodId} {args : Array Value} {below : List Frame} {meth : Method} {c : Code} {A : Nat → Prop} {H : Heap} {locs : List Loc} {cells slots : Nat} {lsA : Array Slot} {Qf : State → Prop} {a : Array Value}
    (hr : va_Run p l e R s m args below meth c H locs cells slots kc1 ks1 (F0 m pc lsA st0) st (ev_Qc G h H.size Q' a) (ev_fr h H.size)) (hw : xw G A h H) (hS : va_S A s.heap H locs) (hA : ∀ q : Nat, s.heap.size ≤ q → A q)
    (kk : ∀ (r : Option Value) (h' : ev_H) (H1 : Heap) (locs1 : List Loc), Q' r h' → xw G A h' H1 → va_S A s.heap H1 locs1 → W p l e R s m args below meth c H1 locs1 (cells + kc1) (slots + ks1) Qf (F0 m (pc + 3) lsA (r.toList ++ st))) : W p l e R s m args below meth c H locs cells slots Qf (F0 m pc lsA st0) := by
  have hAA : ∀ q : Nat, ev_fr h H.size q → A q := by
    intro q hq
    rcases hq with ⟨e, hq⟩ | hq
    · exact (xw_in hw hq).1
    · exact hA q (Nat.le_trans hS.1 hq)
  intro T hT X
  obtain ⟨v, st₀, t, T', L, h0, X', hL, e1, e2, ⟨⟨r, h', hv, hq, hw1⟩, hz, hk⟩, stp⟩ := hr T hT X
  cases hv
  rw [h0] at hz hk
  obtain ⟨t2, a1, b1⟩ := kk v h' T'.heap (locs ++ L) hq (by rw [e1]; exact xw_weak hw1 (fun a _ _ z => hAA a z))
    ⟨Nat.le_trans hS.1 (by rw [e1]; exact hz), fun q g1 g2 => by rw [e1, hk q (Nat.lt_of_lt_of_le g1 hS.1) (fun z => g2 (hAA q z))]; exact hS.2.1 q g1 g2, fun q hq => by
      rcases List.mem_append.mp hq with z | z
      · exact hS.2.2 q z
      · exact hAA _ (hL q z)⟩ T' rfl X'
  exact ⟨t2, stp t2 a1, b1⟩
theorem ev_vcall {b ci : Nat} {T : u_T} {N : Nat} {fs : List Value} (hd : fe M pc (.invokevirtual ix) 3 pc') (hlk : ev_lk M.1.cls ix M') (hcb : ev_cb M' n) (hiv : ev_iv M') (hM : Rn G M' d' kc1 ks1 (.ref b :: As) h Q') (hb : h b = some (.inr (ci, fs))) (hcl : ev_CL[ci]? = some (M'.1.cls, T, N)) (hn : As.length = n) (hst0 : st0 = As.reverse ++ .ref b :: st)
    (hdd : d' + 1 ≤ d) (hwt : (st.map fun v => v.category).sum ≤ 8) (hk : kc = kc' + kc1) (hs : ks = ks' + ks1)
    (kk : ∀ (r : Option Value) (h' : ev_H), Q' r h' → Ev G M d kc' ks' Q pc' ls (r.toList ++ st) h') : Ev G M d kc ks Q pc ls st0 h := by
  obtain ⟨hd, rfl⟩ := hd
  subst hk; subst hs; subst hst0
  intro p l e R s m args below meth c A H locs cells slots lsA Qf hc h1 h2 hw hS hl hr
  obtain ⟨hx, hbb, hml, hown, hts, hK, hA, hnm, ⟨r1, r2⟩, hN, -⟩ := id hc
  obtain ⟨ws, hP, hD, hg, -⟩ := xw_ws hw
  obtain ⟨q0, hq0⟩ := hg b _ hb
  have hPre : PreV s H M'.1.cls b (va_Pc (.ref b :: As) (ev_Pu G h H.size)) As := ⟨ev_blind, va_recv hK hP hcl hq0, fun U hU hW => ⟨rfl, by rw [hU], by rw [hU]; exact xw_weak hw (fun _ _ _ _ => trivial), va_K.moved hW.alike hK, ev_nw_warm hW hN⟩⟩
  have hroom : (ev_rm d' kc1 ks1).frames + 1 ≤ R.frames ∧ 8 + (M'.2.2.1 + 11) + (ev_rm d' kc1 ks1).locals ≤ R.locals := by
    have := hcb.2.2.2
    refine ⟨Nat.le_trans hdd r1, ?_⟩
    show 8 + (M'.2.2.1 + 11) + 44 * d' ≤ R.locals
    omega
  refine ev_cont (kc1 := kc1) (ks1 := ks1) (Q' := Q') (a := (Value.ref b :: As).toArray) ?_ hw hS hA (fun r h' H1 locs1 g1 g2 g3 => kk r h' g1 p l e R s m args below meth c A H1 locs1 (cells + kc1) (slots + ks1) lsA Qf hc (by omega) (by omega) g2 g3 hl hr)
  rcases hlk with hlk | ⟨host, hlk⟩
  · exact va_runV ⟨hx, hbb, hml, hown, hts⟩ (hM l H.size) ⟨callB_of n hts (ev_good hcb.2.1) rfl rfl rfl (hts _ hcb.1) (hts _ hlk) hcb.2.2.1 hroom, hts _ hiv.1, hts _ hiv.2⟩ hPre rfl hn hl.1 rfl (lv_room hwt) hd ⟨by omega, by omega⟩
  · exact va_runVN ⟨hx, hbb, hml, hown, hts⟩ (hM l H.size) ⟨va_cnB n hts (ev_good hcb.2.1) rfl rfl rfl (hN.1 _ hlk) (hts _ hcb.1) hcb.2.2.1 hroom, hts _ hiv.1, hts _ hiv.2⟩ hPre rfl hn hl.1 rfl (lv_room hwt) hd ⟨by omega, by omega⟩
theorem ev_icall {b : Nat} (hd : fe M pc (.invokespecial ix) 3 pc') (hlk : ev_lk M.1.cls ix M') (hcb : ev_cb M' n) (hiv : Cond.instanceMethod M'.1 ∈ ev_WS ∧ M'.1.name = "<init>" ∧ M'.2.2.2.1 = none) (hM : Rn G M' d' kc1 ks1 (.ref b :: As) h Q') (hn : As.length = n) (hst0 : st0 = As.reverse ++ .ref b :: st)
    (hdd : d' + 1 ≤ d) (hwt : (st.map fun v => v.category).sum ≤ 8) (hk : kc = kc' + kc1) (hs : ks = ks' + ks1)
    (kk : ∀ (r : Option Value) (h' : ev_H), Q' r h' → Ev G M d kc' ks' Q pc' ls (r.toList ++ st) h') : Ev G M d kc ks Q pc ls st0 h := by
  obtain ⟨hd, rfl⟩ := hd
  subst hk; subst hs; subst hst0
  intro p l e R s m args below meth c A H locs cells slots lsA Qf hc h1 h2 hw hS hl hr
  obtain ⟨hx, hbb, hml, hown, hts, hK, hA, hnm, ⟨r1, r2⟩, hN, -⟩ := id hc
  have hPre : PreS s H (va_Pc (.ref b :: As) (ev_Pu G h H.size)) (.ref b :: As) := ⟨ev_blind, fun U hU hW => ⟨rfl, by rw [hU], by rw [hU]; exact xw_weak hw (fun _ _ _ _ => trivial), va_K.moved hW.alike hK, ev_nw_warm hW hN⟩⟩
  have hroom : (ev_rm d' kc1 ks1).frames + 1 ≤ R.frames ∧ 8 + (M'.2.2.1 + 11) + (ev_rm d' kc1 ks1).locals ≤ R.locals := by
    have := hcb.2.2.2
    refine ⟨Nat.le_trans hdd r1, ?_⟩
    show 8 + (M'.2.2.1 + 11) + 44 * d' ≤ R.locals
    omega
  have hgd : GoodIn ev_WS (ev_ws M') := ev_good hcb.2.1
  have hwe : ev_ws M' = Cond.code M'.1 M'.2.1 M'.2.2.1 none :: ev_WS := by unfold ev_ws; rw [hiv.2.2]
  refine ev_cont (kc1 := kc1) (ks1 := ks1) (Q' := Q') (a := (Value.ref b :: As).toArray) ?_ hw hS hA (fun r h' H1 locs1 g1 g2 g3 => kk r h' g1 p l e R s m args below meth c A H1 locs1 (cells + kc1) (slots + ks1) lsA Qf hc (by omega) (by omega) g2 g3 hl hr)
  rcases hlk with hlk | ⟨host, hlk⟩
  · exact va_runI ⟨hx, hbb, hml, hown, hts⟩ (hM l H.size) ⟨callB_of n hts hgd hwe rfl rfl (hts _ hcb.1) (hts _ hlk) hcb.2.2.1 hroom, hiv.2.1, hts _ hiv.1⟩ hPre rfl hn hl.1 rfl (lv_room hwt) hd ⟨by omega, by omega⟩
  · exact va_runIN ⟨hx, hbb, hml, hown, hts⟩ (hM l H.size) ⟨va_cnB n hts hgd hwe rfl rfl (hN.1 _ hlk) (hts _ hcb.1) hcb.2.2.1 hroom, hiv.2.1, hts _ hiv.1⟩ hPre rfl hn hl.1 rfl (lv_room hwt) hd ⟨by omega, by omega⟩
theorem ev_scall (hd : fe M pc (.invokestatic ix) 3 pc') (hlk : ev_lk M.1.cls ix M') (hcb : ev_cb M' n) (hiv : Cond.static M'.1 ∈ ev_WS) (hM : Rn G M' d' kc1 ks1 As h Q') (hn : As.length = n) (hst0 : st0 = As.reverse ++ st)
    (hdd : d' + 1 ≤ d) (hwt : (st.map fun v => v.category).sum ≤ 8) (hk : kc = kc' + kc1) (hs : ks = ks' + ks1)
    (kk : ∀ (r : Option Value) (h' : ev_H), Q' r h' → Ev G M d kc' ks' Q pc' ls (r.toList ++ st) h') : Ev G M d kc ks Q pc ls st0 h := by
  obtain ⟨hd, rfl⟩ := hd
  subst hk; subst hs; subst hst0
  intro p l e R s m args below meth c A H locs cells slots lsA Qf hc h1 h2 hw hS hl hr
  obtain ⟨hx, hbb, hml, hown, hts, hK, hA, hnm, ⟨r1, r2⟩, hN, -⟩ := id hc
  have hPre : PreS s H (va_Pc As (ev_Pu G h H.size)) As := ⟨ev_blind, fun U hU hW => ⟨rfl, by rw [hU], by rw [hU]; exact xw_weak hw (fun _ _ _ _ => trivial), va_K.moved hW.alike hK, ev_nw_warm hW hN⟩⟩
  have hroom : (ev_rm d' kc1 ks1).frames + 1 ≤ R.frames ∧ 8 + (M'.2.2.1 + 11) + (ev_rm d' kc1 ks1).locals ≤ R.locals := by
    have := hcb.2.2.2
    refine ⟨Nat.le_trans hdd r1, ?_⟩
    show 8 + (M'.2.2.1 + 11) + 44 * d' ≤ R.locals
    omega
  refine ev_cont (kc1 := kc1) (ks1 := ks1) (Q' := Q') (a := As.toArray) ?_ hw hS hA (fun r h' H1 locs1 g1 g2 g3 => kk r h' g1 p l e R s m args below meth c A H1 locs1 (cells + kc1) (slots + ks1) lsA Qf hc (by omega) (by omega) g2 g3 hl hr)
  rcases hlk with hlk | ⟨host, hlk⟩
  · exact va_runS ⟨hx, hbb, hml, hown, hts⟩ (hM l H.size) ⟨callB_of n hts (ev_good hcb.2.1) rfl rfl rfl (hts _ hcb.1) (hts _ hlk) hcb.2.2.1 hroom, hts _ hiv⟩ hPre rfl hn hl.1 rfl (lv_room hwt) hd ⟨by omega, by omega⟩
  · exact va_runSN ⟨hx, hbb, hml, hown, hts⟩ (hM l H.size) ⟨va_cnB n hts (ev_good hcb.2.1) rfl rfl rfl (hN.1 _ hlk) (hts _ hcb.1) hcb.2.2.1 hroom, hts _ hiv, trivial⟩ hPre rfl hn hl.1 rfl (lv_room hwt) hd ⟨by omega, by omega⟩
end EVC
def ev_qi (post : Int32 → ev_H → Prop) : Option Value → ev_H → Prop := fun r h => ∃ x : Int32, r = some (.int x) ∧ post x h
def ev_ql (post : Int64 → ev_H → Prop) : Option Value → ev_H → Prop := fun r h => ∃ x : Int64, r = some (.long x) ∧ post x h
def ev_qv (post : ev_H → Prop) : Option Value → ev_H → Prop := fun r h => r = none ∧ post h
def ev_qq (post : Option Nat → ev_H → Prop) : Option Value → ev_H → Prop := fun r h => ∃ x : Option Nat, r = some (va_rf x) ∧ post x h
section EVF
variable {G : ev_G} {M M' : ev_M} {d kc ks d' kc1 ks1 kc' ks' : Nat} {Q : Option Value → ev_H → Prop} {pc pc' ix : Nat} {ls : List (Option Value)} {st : List Value} {h : ev_H}
theorem ev_vi0 {b ci : Nat} {T : u_T} {N : Nat} {fs : List Value} {post : Int32 → ev_H → Prop} (hd : fe M pc (.invokevirtual ix) 3 pc') (hlk : ev_lk M.1.cls ix M') (hcb : ev_cb M' 0) (hiv : ev_iv M') (hM : Rn G M' d' kc1 ks1 (.ref b :: []) h (ev_qi post)) (hb : h b = some (.inr (ci, fs))) (hcl : ev_CL[ci]? = some (M'.1.cls, T, N)) (hdd : d' + 1 ≤ d) (hwt : (st.map fun v => v.category).sum ≤ 8) (hk : kc = kc' + kc1) (hs : ks = ks' + ks1) (kk : ∀ (x : Int32) (h' : ev_H), post x h' → Ev G M d kc' ks' Q pc' ls (.int x :: st) h') : Ev G M d kc ks Q pc ls (.ref b :: st) h :=
  ev_vcall hd hlk hcb hiv hM hb hcl rfl rfl hdd hwt hk hs (fun r h' hq => by obtain ⟨x, rfl, hp⟩ := hq; exact kk x h' hp)
theorem ev_ti0 {post : Int32 → ev_H → Prop} (hd : fe M pc (.invokestatic ix) 3 pc') (hlk : ev_lk M.1.cls ix M') (hcb : ev_cb M' 0) (hiv : Cond.static M'.1 ∈ ev_WS) (hM : Rn G M' d' kc1 ks1 [] h (ev_qi post)) (hdd : d' + 1 ≤ d) (hwt : (st.map fun v => v.category).sum ≤ 8) (hk : kc = kc' + kc1) (hs : ks = ks' + ks1) (kk : ∀ (x : Int32) (h' : ev_H), post x h' → Ev G M d kc' ks' Q pc' ls (.int x :: st) h') : Ev G M d kc ks Q pc ls (st) h :=
  ev_scall hd hlk hcb hiv hM rfl rfl hdd hwt hk hs (fun r h' hq => by obtain ⟨x, rfl, hp⟩ := hq; exact kk x h' hp)
theorem ev_vl0 {b ci : Nat} {T : u_T} {N : Nat} {fs : List Value} {post : Int64 → ev_H → Prop} (hd : fe M pc (.invokevirtual ix) 3 pc') (hlk : ev_lk M.1.cls ix M') (hcb : ev_cb M' 0) (hiv : ev_iv M') (hM : Rn G M' d' kc1 ks1 (.ref b :: []) h (ev_ql post)) (hb : h b = some (.inr (ci, fs))) (hcl : ev_CL[ci]? = some (M'.1.cls, T, N)) (hdd : d' + 1 ≤ d) (hwt : (st.map fun v => v.category).sum ≤ 8) (hk : kc = kc' + kc1) (hs : ks = ks' + ks1) (kk : ∀ (x : Int64) (h' : ev_H), post x h' → Ev G M d kc' ks' Q pc' ls (.long x :: st) h') : Ev G M d kc ks Q pc ls (.ref b :: st) h :=
  ev_vcall hd hlk hcb hiv hM hb hcl rfl rfl hdd hwt hk hs (fun r h' hq => by obtain ⟨x, rfl, hp⟩ := hq; exact kk x h' hp)
theorem ev_tl0 {post : Int64 → ev_H → Prop} (hd : fe M pc (.invokestatic ix) 3 pc') (hlk : ev_lk M.1.cls ix M') (hcb : ev_cb M' 0) (hiv : Cond.static M'.1 ∈ ev_WS) (hM : Rn G M' d' kc1 ks1 [] h (ev_ql post)) (hdd : d' + 1 ≤ d) (hwt : (st.map fun v => v.category).sum ≤ 8) (hk : kc = kc' + kc1) (hs : ks = ks' + ks1) (kk : ∀ (x : Int64) (h' : ev_H), post x h' → Ev G M d kc' ks' Q pc' ls (.long x :: st) h') : Ev G M d kc ks Q pc ls (st) h :=
  ev_scall hd hlk hcb hiv hM rfl rfl hdd hwt hk hs (fun r h' hq => by obtain ⟨x, rfl, hp⟩ := hq; exact kk x h' hp)
theorem ev_vv0 {b ci : Nat} {T : u_T} {N : Nat} {fs : List Value} {post : ev_H → Prop} (hd : fe M pc (.invokevirtual ix) 3 pc') (hlk : ev_lk M.1.cls ix M') (hcb : ev_cb M' 0) (hiv : ev_iv M') (hM : Rn G M' d' kc1 ks1 (.ref b :: []) h (ev_qv post)) (hb : h b = some (.inr (ci, fs))) (hcl : ev_CL[ci]? = some (M'.1.cls, T, N)) (hdd : d' + 1 ≤ d) (hwt : (st.map fun v => v.category).sum ≤ 8) (hk : kc = kc' + kc1) (hs : ks = ks' + ks1) (kk : ∀ (h' : ev_H), post h' → Ev G M d kc' ks' Q pc' ls (st) h') : Ev G M d kc ks Q pc ls (.ref b :: st) h :=
  ev_vcall hd hlk hcb hiv hM hb hcl rfl rfl hdd hwt hk hs (fun r h' hq => by obtain ⟨rfl, hp⟩ := hq; exact kk h' hp)
theorem ev_tv0 {post : ev_H → Prop} (hd : fe M pc (.invokestatic ix) 3 pc') (hlk : ev_lk M.1.cls ix M') (hcb : ev_cb M' 0) (hiv : Cond.static M'.1 ∈ ev_WS) (hM : Rn G M' d' kc1 ks1 [] h (ev_qv post)) (hdd : d' + 1 ≤ d) (hwt : (st.map fun v => v.category).sum ≤ 8) (hk : kc = kc' + kc1) (hs : ks = ks' + ks1) (kk : ∀ (h' : ev_H), post h' → Ev G M d kc' ks' Q pc' ls (st) h') : Ev G M d kc ks Q pc ls (st) h :=
  ev_scall hd hlk hcb hiv hM rfl rfl hdd hwt hk hs (fun r h' hq => by obtain ⟨rfl, hp⟩ := hq; exact kk h' hp)
theorem ev_sv0 {b : Nat} {post : ev_H → Prop} (hd : fe M pc (.invokespecial ix) 3 pc') (hlk : ev_lk M.1.cls ix M') (hcb : ev_cb M' 0) (hiv : Cond.instanceMethod M'.1 ∈ ev_WS ∧ M'.1.name = "<init>" ∧ M'.2.2.2.1 = none) (hM : Rn G M' d' kc1 ks1 (.ref b :: []) h (ev_qv post)) (hdd : d' + 1 ≤ d) (hwt : (st.map fun v => v.category).sum ≤ 8) (hk : kc = kc' + kc1) (hs : ks = ks' + ks1) (kk : ∀ (h' : ev_H), post h' → Ev G M d kc' ks' Q pc' ls (st) h') : Ev G M d kc ks Q pc ls (.ref b :: st) h :=
  ev_icall hd hlk hcb hiv hM rfl rfl hdd hwt hk hs (fun r h' hq => by obtain ⟨rfl, hp⟩ := hq; exact kk h' hp)
theorem ev_vq0 {b ci : Nat} {T : u_T} {N : Nat} {fs : List Value} {post : Option Nat → ev_H → Prop} (hd : fe M pc (.invokevirtual ix) 3 pc') (hlk : ev_lk M.1.cls ix M') (hcb : ev_cb M' 0) (hiv : ev_iv M') (hM : Rn G M' d' kc1 ks1 (.ref b :: []) h (ev_qq post)) (hb : h b = some (.inr (ci, fs))) (hcl : ev_CL[ci]? = some (M'.1.cls, T, N)) (hdd : d' + 1 ≤ d) (hwt : (st.map fun v => v.category).sum ≤ 8) (hk : kc = kc' + kc1) (hs : ks = ks' + ks1) (kk : ∀ (x : Option Nat) (h' : ev_H), post x h' → Ev G M d kc' ks' Q pc' ls (va_rf x :: st) h') : Ev G M d kc ks Q pc ls (.ref b :: st) h :=
  ev_vcall hd hlk hcb hiv hM hb hcl rfl rfl hdd hwt hk hs (fun r h' hq => by obtain ⟨x, rfl, hp⟩ := hq; exact kk x h' hp)
theorem ev_tq0 {post : Option Nat → ev_H → Prop} (hd : fe M pc (.invokestatic ix) 3 pc') (hlk : ev_lk M.1.cls ix M') (hcb : ev_cb M' 0) (hiv : Cond.static M'.1 ∈ ev_WS) (hM : Rn G M' d' kc1 ks1 [] h (ev_qq post)) (hdd : d' + 1 ≤ d) (hwt : (st.map fun v => v.category).sum ≤ 8) (hk : kc = kc' + kc1) (hs : ks = ks' + ks1) (kk : ∀ (x : Option Nat) (h' : ev_H), post x h' → Ev G M d kc' ks' Q pc' ls (va_rf x :: st) h') : Ev G M d kc ks Q pc ls (st) h :=
  ev_scall hd hlk hcb hiv hM rfl rfl hdd hwt hk hs (fun r h' hq => by obtain ⟨x, rfl, hp⟩ := hq; exact kk x h' hp)
theorem ev_vi1 {b ci : Nat} {T : u_T} {N : Nat} {fs : List Value} {v1 : Value} {post : Int32 → ev_H → Prop} (hd : fe M pc (.invokevirtual ix) 3 pc') (hlk : ev_lk M.1.cls ix M') (hcb : ev_cb M' 1) (hiv : ev_iv M') (hM : Rn G M' d' kc1 ks1 (.ref b :: [v1]) h (ev_qi post)) (hb : h b = some (.inr (ci, fs))) (hcl : ev_CL[ci]? = some (M'.1.cls, T, N)) (hdd : d' + 1 ≤ d) (hwt : (st.map fun v => v.category).sum ≤ 8) (hk : kc = kc' + kc1) (hs : ks = ks' + ks1) (kk : ∀ (x : Int32) (h' : ev_H), post x h' → Ev G M d kc' ks' Q pc' ls (.int x :: st) h') : Ev G M d kc ks Q pc ls (v1 :: .ref b :: st) h :=
  ev_vcall hd hlk hcb hiv hM hb hcl rfl rfl hdd hwt hk hs (fun r h' hq => by obtain ⟨x, rfl, hp⟩ := hq; exact kk x h' hp)
theorem ev_ti1 {v1 : Value} {post : Int32 → ev_H → Prop} (hd : fe M pc (.invokestatic ix) 3 pc') (hlk : ev_lk M.1.cls ix M') (hcb : ev_cb M' 1) (hiv : Cond.static M'.1 ∈ ev_WS) (hM : Rn G M' d' kc1 ks1 [v1] h (ev_qi post)) (hdd : d' + 1 ≤ d) (hwt : (st.map fun v => v.category).sum ≤ 8) (hk : kc = kc' + kc1) (hs : ks = ks' + ks1) (kk : ∀ (x : Int32) (h' : ev_H), post x h' → Ev G M d kc' ks' Q pc' ls (.int x :: st) h') : Ev G M d kc ks Q pc ls (v1 :: st) h :=
  ev_scall hd hlk hcb hiv hM rfl rfl hdd hwt hk hs (fun r h' hq => by obtain ⟨x, rfl, hp⟩ := hq; exact kk x h' hp)
theorem ev_vl1 {b ci : Nat} {T : u_T} {N : Nat} {fs : List Value} {v1 : Value} {post : Int64 → ev_H → Prop} (hd : fe M pc (.invokevirtual ix) 3 pc') (hlk : ev_lk M.1.cls ix M') (hcb : ev_cb M' 1) (hiv : ev_iv M') (hM : Rn G M' d' kc1 ks1 (.ref b :: [v1]) h (ev_ql post)) (hb : h b = some (.inr (ci, fs))) (hcl : ev_CL[ci]? = some (M'.1.cls, T, N)) (hdd : d' + 1 ≤ d) (hwt : (st.map fun v => v.category).sum ≤ 8) (hk : kc = kc' + kc1) (hs : ks = ks' + ks1) (kk : ∀ (x : Int64) (h' : ev_H), post x h' → Ev G M d kc' ks' Q pc' ls (.long x :: st) h') : Ev G M d kc ks Q pc ls (v1 :: .ref b :: st) h :=
  ev_vcall hd hlk hcb hiv hM hb hcl rfl rfl hdd hwt hk hs (fun r h' hq => by obtain ⟨x, rfl, hp⟩ := hq; exact kk x h' hp)
theorem ev_tl1 {v1 : Value} {post : Int64 → ev_H → Prop} (hd : fe M pc (.invokestatic ix) 3 pc') (hlk : ev_lk M.1.cls ix M') (hcb : ev_cb M' 1) (hiv : Cond.static M'.1 ∈ ev_WS) (hM : Rn G M' d' kc1 ks1 [v1] h (ev_ql post)) (hdd : d' + 1 ≤ d) (hwt : (st.map fun v => v.category).sum ≤ 8) (hk : kc = kc' + kc1) (hs : ks = ks' + ks1) (kk : ∀ (x : Int64) (h' : ev_H), post x h' → Ev G M d kc' ks' Q pc' ls (.long x :: st) h') : Ev G M d kc ks Q pc ls (v1 :: st) h :=
  ev_scall hd hlk hcb hiv hM rfl rfl hdd hwt hk hs (fun r h' hq => by obtain ⟨x, rfl, hp⟩ := hq; exact kk x h' hp)
theorem ev_vv1 {b ci : Nat} {T : u_T} {N : Nat} {fs : List Value} {v1 : Value} {post : ev_H → Prop} (hd : fe M pc (.invokevirtual ix) 3 pc') (hlk : ev_lk M.1.cls ix M') (hcb : ev_cb M' 1) (hiv : ev_iv M') (hM : Rn G M' d' kc1 ks1 (.ref b :: [v1]) h (ev_qv post)) (hb : h b = some (.inr (ci, fs))) (hcl : ev_CL[ci]? = some (M'.1.cls, T, N)) (hdd : d' + 1 ≤ d) (hwt : (st.map fun v => v.category).sum ≤ 8) (hk : kc = kc' + kc1) (hs : ks = ks' + ks1) (kk : ∀ (h' : ev_H), post h' → Ev G M d kc' ks' Q pc' ls (st) h') : Ev G M d kc ks Q pc ls (v1 :: .ref b :: st) h :=
  ev_vcall hd hlk hcb hiv hM hb hcl rfl rfl hdd hwt hk hs (fun r h' hq => by obtain ⟨rfl, hp⟩ := hq; exact kk h' hp)
theorem ev_tv1 {v1 : Value} {post : ev_H → Prop} (hd : fe M pc (.invokestatic ix) 3 pc') (hlk : ev_lk M.1.cls ix M') (hcb : ev_cb M' 1) (hiv : Cond.static M'.1 ∈ ev_WS) (hM : Rn G M' d' kc1 ks1 [v1] h (ev_qv post)) (hdd : d' + 1 ≤ d) (hwt : (st.map fun v => v.category).sum ≤ 8) (hk : kc = kc' + kc1) (hs : ks = ks' + ks1) (kk : ∀ (h' : ev_H), post h' → Ev G M d kc' ks' Q pc' ls (st) h') : Ev G M d kc ks Q pc ls (v1 :: st) h :=
  ev_scall hd hlk hcb hiv hM rfl rfl hdd hwt hk hs (fun r h' hq => by obtain ⟨rfl, hp⟩ := hq; exact kk h' hp)
theorem ev_sv1 {b : Nat} {v1 : Value} {post : ev_H → Prop} (hd : fe M pc (.invokespecial ix) 3 pc') (hlk : ev_lk M.1.cls ix M') (hcb : ev_cb M' 1) (hiv : Cond.instanceMethod M'.1 ∈ ev_WS ∧ M'.1.name = "<init>" ∧ M'.2.2.2.1 = none) (hM : Rn G M' d' kc1 ks1 (.ref b :: [v1]) h (ev_qv post)) (hdd : d' + 1 ≤ d) (hwt : (st.map fun v => v.category).sum ≤ 8) (hk : kc = kc' + kc1) (hs : ks = ks' + ks1) (kk : ∀ (h' : ev_H), post h' → Ev G M d kc' ks' Q pc' ls (st) h') : Ev G M d kc ks Q pc ls (v1 :: .ref b :: st) h :=
  ev_icall hd hlk hcb hiv hM rfl rfl hdd hwt hk hs (fun r h' hq => by obtain ⟨rfl, hp⟩ := hq; exact kk h' hp)
theorem ev_vq1 {b ci : Nat} {T : u_T} {N : Nat} {fs : List Value} {v1 : Value} {post : Option Nat → ev_H → Prop} (hd : fe M pc (.invokevirtual ix) 3 pc') (hlk : ev_lk M.1.cls ix M') (hcb : ev_cb M' 1) (hiv : ev_iv M') (hM : Rn G M' d' kc1 ks1 (.ref b :: [v1]) h (ev_qq post)) (hb : h b = some (.inr (ci, fs))) (hcl : ev_CL[ci]? = some (M'.1.cls, T, N)) (hdd : d' + 1 ≤ d) (hwt : (st.map fun v => v.category).sum ≤ 8) (hk : kc = kc' + kc1) (hs : ks = ks' + ks1) (kk : ∀ (x : Option Nat) (h' : ev_H), post x h' → Ev G M d kc' ks' Q pc' ls (va_rf x :: st) h') : Ev G M d kc ks Q pc ls (v1 :: .ref b :: st) h :=
  ev_vcall hd hlk hcb hiv hM hb hcl rfl rfl hdd hwt hk hs (fun r h' hq => by obtain ⟨x, rfl, hp⟩ := hq; exact kk x h' hp)
theorem ev_tq1 {v1 : Value} {post : Option Nat → ev_H → Prop} (hd : fe M pc (.invokestatic ix) 3 pc') (hlk : ev_lk M.1.cls ix M') (hcb : ev_cb M' 1) (hiv : Cond.static M'.1 ∈ ev_WS) (hM : Rn G M' d' kc1 ks1 [v1] h (ev_qq post)) (hdd : d' + 1 ≤ d) (hwt : (st.map fun v => v.category).sum ≤ 8) (hk : kc = kc' + kc1) (hs : ks = ks' + ks1) (kk : ∀ (x : Option Nat) (h' : ev_H), post x h' → Ev G M d kc' ks' Q pc' ls (va_rf x :: st) h') : Ev G M d kc ks Q pc ls (v1 :: st) h :=
  ev_scall hd hlk hcb hiv hM rfl rfl hdd hwt hk hs (fun r h' hq => by obtain ⟨x, rfl, hp⟩ := hq; exact kk x h' hp)
theorem ev_vi2 {b ci : Nat} {T : u_T} {N : Nat} {fs : List Value} {v1 v2 : Value} {post : Int32 → ev_H → Prop} (hd : fe M pc (.invokevirtual ix) 3 pc') (hlk : ev_lk M.1.cls ix M') (hcb : ev_cb M' 2) (hiv : ev_iv M') (hM : Rn G M' d' kc1 ks1 (.ref b :: [v1, v2]) h (ev_qi post)) (hb : h b = some (.inr (ci, fs))) (hcl : ev_CL[ci]? = some (M'.1.cls, T, N)) (hdd : d' + 1 ≤ d) (hwt : (st.map fun v => v.category).sum ≤ 8) (hk : kc = kc' + kc1) (hs : ks = ks' + ks1) (kk : ∀ (x : Int32) (h' : ev_H), post x h' → Ev G M d kc' ks' Q pc' ls (.int x :: st) h') : Ev G M d kc ks Q pc ls (v2 :: v1 :: .ref b :: st) h :=
  ev_vcall hd hlk hcb hiv hM hb hcl rfl rfl hdd hwt hk hs (fun r h' hq => by obtain ⟨x, rfl, hp⟩ := hq; exact kk x h' hp)
theorem ev_ti2 {v1 v2 : Value} {post : Int32 → ev_H → Prop} (hd : fe M pc (.invokestatic ix) 3 pc') (hlk : ev_lk M.1.cls ix M') (hcb : ev_cb M' 2) (hiv : Cond.static M'.1 ∈ ev_WS) (hM : Rn G M' d' kc1 ks1 [v1, v2] h (ev_qi post)) (hdd : d' + 1 ≤ d) (hwt : (st.map fun v => v.category).sum ≤ 8) (hk : kc = kc' + kc1) (hs : ks = ks' + ks1) (kk : ∀ (x : Int32) (h' : ev_H), post x h' → Ev G M d kc' ks' Q pc' ls (.int x :: st) h') : Ev G M d kc ks Q pc ls (v2 :: v1 :: st) h :=
  ev_scall hd hlk hcb hiv hM rfl rfl hdd hwt hk hs (fun r h' hq => by obtain ⟨x, rfl, hp⟩ := hq; exact kk x h' hp)
theorem ev_vl2 {b ci : Nat} {T : u_T} {N : Nat} {fs : List Value} {v1 v2 : Value} {post : Int64 → ev_H → Prop} (hd : fe M pc (.invokevirtual ix) 3 pc') (hlk : ev_lk M.1.cls ix M') (hcb : ev_cb M' 2) (hiv : ev_iv M') (hM : Rn G M' d' kc1 ks1 (.ref b :: [v1, v2]) h (ev_ql post)) (hb : h b = some (.inr (ci, fs))) (hcl : ev_CL[ci]? = some (M'.1.cls, T, N)) (hdd : d' + 1 ≤ d) (hwt : (st.map fun v => v.category).sum ≤ 8) (hk : kc = kc' + kc1) (hs : ks = ks' + ks1) (kk : ∀ (x : Int64) (h' : ev_H), post x h' → Ev G M d kc' ks' Q pc' ls (.long x :: st) h') : Ev G M d kc ks Q pc ls (v2 :: v1 :: .ref b :: st) h :=
  ev_vcall hd hlk hcb hiv hM hb hcl rfl rfl hdd hwt hk hs (fun r h' hq => by obtain ⟨x, rfl, hp⟩ := hq; exact kk x h' hp)
theorem ev_tl2 {v1 v2 : Value} {post : Int64 → ev_H → Prop} (hd : fe M pc (.invokestatic ix) 3 pc') (hlk : ev_lk M.1.cls ix M') (hcb : ev_cb M' 2) (hiv : Cond.static M'.1 ∈ ev_WS) (hM : Rn G M' d' kc1 ks1 [v1, v2] h (ev_ql post)) (hdd : d' + 1 ≤ d) (hwt : (st.map fun v => v.category).sum ≤ 8) (hk : kc = kc' + kc1) (hs : ks = ks' + ks1) (kk : ∀ (x : Int64) (h' : ev_H), post x h' → Ev G M d kc' ks' Q pc' ls (.long x :: st) h') : Ev G M d kc ks Q pc ls (v2 :: v1 :: st) h :=
  ev_scall hd hlk hcb hiv hM rfl rfl hdd hwt hk hs (fun r h' hq => by obtain ⟨x, rfl, hp⟩ := hq; exact kk x h' hp)
theorem ev_vv2 {b ci : Nat} {T : u_T} {N : Nat} {fs : List Value} {v1 v2 : Value} {post : ev_H → Prop} (hd : fe M pc (.invokevirtual ix) 3 pc') (hlk : ev_lk M.1.cls ix M') (hcb : ev_cb M' 2) (hiv : ev_iv M') (hM : Rn G M' d' kc1 ks1 (.ref b :: [v1, v2]) h (ev_qv post)) (hb : h b = some (.inr (ci, fs))) (hcl : ev_CL[ci]? = some (M'.1.cls, T, N)) (hdd : d' + 1 ≤ d) (hwt : (st.map fun v => v.category).sum ≤ 8) (hk : kc = kc' + kc1) (hs : ks = ks' + ks1) (kk : ∀ (h' : ev_H), post h' → Ev G M d kc' ks' Q pc' ls (st) h') : Ev G M d kc ks Q pc ls (v2 :: v1 :: .ref b :: st) h :=
  ev_vcall hd hlk hcb hiv hM hb hcl rfl rfl hdd hwt hk hs (fun r h' hq => by obtain ⟨rfl, hp⟩ := hq; exact kk h' hp)
theorem ev_tv2 {v1 v2 : Value} {post : ev_H → Prop} (hd : fe M pc (.invokestatic ix) 3 pc') (hlk : ev_lk M.1.cls ix M') (hcb : ev_cb M' 2) (hiv : Cond.static M'.1 ∈ ev_WS) (hM : Rn G M' d' kc1 ks1 [v1, v2] h (ev_qv post)) (hdd : d' + 1 ≤ d) (hwt : (st.map fun v => v.category).sum ≤ 8) (hk : kc = kc' + kc1) (hs : ks = ks' + ks1) (kk : ∀ (h' : ev_H), post h' → Ev G M d kc' ks' Q pc' ls (st) h') : Ev G M d kc ks Q pc ls (v2 :: v1 :: st) h :=
  ev_scall hd hlk hcb hiv hM rfl rfl hdd hwt hk hs (fun r h' hq => by obtain ⟨rfl, hp⟩ := hq; exact kk h' hp)
theorem ev_sv2 {b : Nat} {v1 v2 : Value} {post : ev_H → Prop} (hd : fe M pc (.invokespecial ix) 3 pc') (hlk : ev_lk M.1.cls ix M') (hcb : ev_cb M' 2) (hiv : Cond.instanceMethod M'.1 ∈ ev_WS ∧ M'.1.name = "<init>" ∧ M'.2.2.2.1 = none) (hM : Rn G M' d' kc1 ks1 (.ref b :: [v1, v2]) h (ev_qv post)) (hdd : d' + 1 ≤ d) (hwt : (st.map fun v => v.category).sum ≤ 8) (hk : kc = kc' + kc1) (hs : ks = ks' + ks1) (kk : ∀ (h' : ev_H), post h' → Ev G M d kc' ks' Q pc' ls (st) h') : Ev G M d kc ks Q pc ls (v2 :: v1 :: .ref b :: st) h :=
  ev_icall hd hlk hcb hiv hM rfl rfl hdd hwt hk hs (fun r h' hq => by obtain ⟨rfl, hp⟩ := hq; exact kk h' hp)
theorem ev_vq2 {b ci : Nat} {T : u_T} {N : Nat} {fs : List Value} {v1 v2 : Value} {post : Option Nat → ev_H → Prop} (hd : fe M pc (.invokevirtual ix) 3 pc') (hlk : ev_lk M.1.cls ix M') (hcb : ev_cb M' 2) (hiv : ev_iv M') (hM : Rn G M' d' kc1 ks1 (.ref b :: [v1, v2]) h (ev_qq post)) (hb : h b = some (.inr (ci, fs))) (hcl : ev_CL[ci]? = some (M'.1.cls, T, N)) (hdd : d' + 1 ≤ d) (hwt : (st.map fun v => v.category).sum ≤ 8) (hk : kc = kc' + kc1) (hs : ks = ks' + ks1) (kk : ∀ (x : Option Nat) (h' : ev_H), post x h' → Ev G M d kc' ks' Q pc' ls (va_rf x :: st) h') : Ev G M d kc ks Q pc ls (v2 :: v1 :: .ref b :: st) h :=
  ev_vcall hd hlk hcb hiv hM hb hcl rfl rfl hdd hwt hk hs (fun r h' hq => by obtain ⟨x, rfl, hp⟩ := hq; exact kk x h' hp)
theorem ev_tq2 {v1 v2 : Value} {post : Option Nat → ev_H → Prop} (hd : fe M pc (.invokestatic ix) 3 pc') (hlk : ev_lk M.1.cls ix M') (hcb : ev_cb M' 2) (hiv : Cond.static M'.1 ∈ ev_WS) (hM : Rn G M' d' kc1 ks1 [v1, v2] h (ev_qq post)) (hdd : d' + 1 ≤ d) (hwt : (st.map fun v => v.category).sum ≤ 8) (hk : kc = kc' + kc1) (hs : ks = ks' + ks1) (kk : ∀ (x : Option Nat) (h' : ev_H), post x h' → Ev G M d kc' ks' Q pc' ls (va_rf x :: st) h') : Ev G M d kc ks Q pc ls (v2 :: v1 :: st) h :=
  ev_scall hd hlk hcb hiv hM rfl rfl hdd hwt hk hs (fun r h' hq => by obtain ⟨x, rfl, hp⟩ := hq; exact kk x h' hp)
theorem ev_vi3 {b ci : Nat} {T : u_T} {N : Nat} {fs : List Value} {v1 v2 v3 : Value} {post : Int32 → ev_H → Prop} (hd : fe M pc (.invokevirtual ix) 3 pc') (hlk : ev_lk M.1.cls ix M') (hcb : ev_cb M' 3) (hiv : ev_iv M') (hM : Rn G M' d' kc1 ks1 (.ref b :: [v1, v2, v3]) h (ev_qi post)) (hb : h b = some (.inr (ci, fs))) (hcl : ev_CL[ci]? = some (M'.1.cls, T, N)) (hdd : d' + 1 ≤ d) (hwt : (st.map fun v => v.category).sum ≤ 8) (hk : kc = kc' + kc1) (hs : ks = ks' + ks1) (kk : ∀ (x : Int32) (h' : ev_H), post x h' → Ev G M d kc' ks' Q pc' ls (.int x :: st) h') : Ev G M d kc ks Q pc ls (v3 :: v2 :: v1 :: .ref b :: st) h :=
  ev_vcall hd hlk hcb hiv hM hb hcl rfl rfl hdd hwt hk hs (fun r h' hq => by obtain ⟨x, rfl, hp⟩ := hq; exact kk x h' hp)
theorem ev_ti3 {v1 v2 v3 : Value} {post : Int32 → ev_H → Prop} (hd : fe M pc (.invokestatic ix) 3 pc') (hlk : ev_lk M.1.cls ix M') (hcb : ev_cb M' 3) (hiv : Cond.static M'.1 ∈ ev_WS) (hM : Rn G M' d' kc1 ks1 [v1, v2, v3] h (ev_qi post)) (hdd : d' + 1 ≤ d) (hwt : (st.map fun v => v.category).sum ≤ 8) (hk : kc = kc' + kc1) (hs : ks = ks' + ks1) (kk : ∀ (x : Int32) (h' : ev_H), post x h' → Ev G M d kc' ks' Q pc' ls (.int x :: st) h') : Ev G M d kc ks Q pc ls (v3 :: v2 :: v1 :: st) h :=
  ev_scall hd hlk hcb hiv hM rfl rfl hdd hwt hk hs (fun r h' hq => by obtain ⟨x, rfl, hp⟩ := hq; exact kk x h' hp)
theorem ev_vl3 {b ci : Nat} {T : u_T} {N : Nat} {fs : List Value} {v1 v2 v3 : Value} {post : Int64 → ev_H → Prop} (hd : fe M pc (.invokevirtual ix) 3 pc') (hlk : ev_lk M.1.cls ix M') (hcb : ev_cb M' 3) (hiv : ev_iv M') (hM : Rn G M' d' kc1 ks1 (.ref b :: [v1, v2, v3]) h (ev_ql post)) (hb : h b = some (.inr (ci, fs))) (hcl : ev_CL[ci]? = some (M'.1.cls, T, N)) (hdd : d' + 1 ≤ d) (hwt : (st.map fun v => v.category).sum ≤ 8) (hk : kc = kc' + kc1) (hs : ks = ks' + ks1) (kk : ∀ (x : Int64) (h' : ev_H), post x h' → Ev G M d kc' ks' Q pc' ls (.long x :: st) h') : Ev G M d kc ks Q pc ls (v3 :: v2 :: v1 :: .ref b :: st) h :=
  ev_vcall hd hlk hcb hiv hM hb hcl rfl rfl hdd hwt hk hs (fun r h' hq => by obtain ⟨x, rfl, hp⟩ := hq; exact kk x h' hp)
theorem ev_tl3 {v1 v2 v3 : Value} {post : Int64 → ev_H → Prop} (hd : fe M pc (.invokestatic ix) 3 pc') (hlk : ev_lk M.1.cls ix M') (hcb : ev_cb M' 3) (hiv : Cond.static M'.1 ∈ ev_WS) (hM : Rn G M' d' kc1 ks1 [v1, v2, v3] h (ev_ql post)) (hdd : d' + 1 ≤ d) (hwt : (st.map fun v => v.category).sum ≤ 8) (hk : kc = kc' + kc1) (hs : ks = ks' + ks1) (kk : ∀ (x : Int64) (h' : ev_H), post x h' → Ev G M d kc' ks' Q pc' ls (.long x :: st) h') : Ev G M d kc ks Q pc ls (v3 :: v2 :: v1 :: st) h :=
  ev_scall hd hlk hcb hiv hM rfl rfl hdd hwt hk hs (fun r h' hq => by obtain ⟨x, rfl, hp⟩ := hq; exact kk x h' hp)
theorem ev_vv3 {b ci : Nat} {T : u_T} {N : Nat} {fs : List Value} {v1 v2 v3 : Value} {post : ev_H → Prop} (hd : fe M pc (.invokevirtual ix) 3 pc') (hlk : ev_lk M.1.cls ix M') (hcb : ev_cb M' 3) (hiv : ev_iv M') (hM : Rn G M' d' kc1 ks1 (.ref b :: [v1, v2, v3]) h (ev_qv post)) (hb : h b = some (.inr (ci, fs))) (hcl : ev_CL[ci]? = some (M'.1.cls, T, N)) (hdd : d' + 1 ≤ d) (hwt : (st.map fun v => v.category).sum ≤ 8) (hk : kc = kc' + kc1) (hs : ks = ks' + ks1) (kk : ∀ (h' : ev_H), post h' → Ev G M d kc' ks' Q pc' ls (st) h') : Ev G M d kc ks Q pc ls (v3 :: v2 :: v1 :: .ref b :: st) h :=
  ev_vcall hd hlk hcb hiv hM hb hcl rfl rfl hdd hwt hk hs (fun r h' hq => by obtain ⟨rfl, hp⟩ := hq; exact kk h' hp)
theorem ev_tv3 {v1 v2 v3 : Value} {post : ev_H → Prop} (hd : fe M pc (.invokestatic ix) 3 pc') (hlk : ev_lk M.1.cls ix M') (hcb : ev_cb M' 3) (hiv : Cond.static M'.1 ∈ ev_WS) (hM : Rn G M' d' kc1 ks1 [v1, v2, v3] h (ev_qv post)) (hdd : d' + 1 ≤ d) (hwt : (st.map fun v => v.category).sum ≤ 8) (hk : kc = kc' + kc1) (hs : ks = ks' + ks1) (kk : ∀ (h' : ev_H), post h' → Ev G M d kc' ks' Q pc' ls (st) h') : Ev G M d kc ks Q pc ls (v3 :: v2 :: v1 :: st) h :=
  ev_scall hd hlk hcb hiv hM rfl rfl hdd hwt hk hs (fun r h' hq => by obtain ⟨rfl, hp⟩ := hq; exact kk h' hp)
theorem ev_sv3 {b : Nat} {v1 v2 v3 : Value} {post : ev_H → Prop} (hd : fe M pc (.invokespecial ix) 3 pc') (hlk : ev_lk M.1.cls ix M') (hcb : ev_cb M' 3) (hiv : Cond.instanceMethod M'.1 ∈ ev_WS ∧ M'.1.name = "<init>" ∧ M'.2.2.2.1 = none) (hM : Rn G M' d' kc1 ks1 (.ref b :: [v1, v2, v3]) h (ev_qv post)) (hdd : d' + 1 ≤ d) (hwt : (st.map fun v => v.category).sum ≤ 8) (hk : kc = kc' + kc1) (hs : ks = ks' + ks1) (kk : ∀ (h' : ev_H), post h' → Ev G M d kc' ks' Q pc' ls (st) h') : Ev G M d kc ks Q pc ls (v3 :: v2 :: v1 :: .ref b :: st) h :=
  ev_icall hd hlk hcb hiv hM rfl rfl hdd hwt hk hs (fun r h' hq => by obtain ⟨rfl, hp⟩ := hq; exact kk h' hp)
theorem ev_vq3 {b ci : Nat} {T : u_T} {N : Nat} {fs : List Value} {v1 v2 v3 : Value} {post : Option Nat → ev_H → Prop} (hd : fe M pc (.invokevirtual ix) 3 pc') (hlk : ev_lk M.1.cls ix M') (hcb : ev_cb M' 3) (hiv : ev_iv M') (hM : Rn G M' d' kc1 ks1 (.ref b :: [v1, v2, v3]) h (ev_qq post)) (hb : h b = some (.inr (ci, fs))) (hcl : ev_CL[ci]? = some (M'.1.cls, T, N)) (hdd : d' + 1 ≤ d) (hwt : (st.map fun v => v.category).sum ≤ 8) (hk : kc = kc' + kc1) (hs : ks = ks' + ks1) (kk : ∀ (x : Option Nat) (h' : ev_H), post x h' → Ev G M d kc' ks' Q pc' ls (va_rf x :: st) h') : Ev G M d kc ks Q pc ls (v3 :: v2 :: v1 :: .ref b :: st) h :=
  ev_vcall hd hlk hcb hiv hM hb hcl rfl rfl hdd hwt hk hs (fun r h' hq => by obtain ⟨x, rfl, hp⟩ := hq; exact kk x h' hp)
theorem ev_tq3 {v1 v2 v3 : Value} {post : Option Nat → ev_H → Prop} (hd : fe M pc (.invokestatic ix) 3 pc') (hlk : ev_lk M.1.cls ix M') (hcb : ev_cb M' 3) (hiv : Cond.static M'.1 ∈ ev_WS) (hM : Rn G M' d' kc1 ks1 [v1, v2, v3] h (ev_qq post)) (hdd : d' + 1 ≤ d) (hwt : (st.map fun v => v.category).sum ≤ 8) (hk : kc = kc' + kc1) (hs : ks = ks' + ks1) (kk : ∀ (x : Option Nat) (h' : ev_H), post x h' → Ev G M d kc' ks' Q pc' ls (va_rf x :: st) h') : Ev G M d kc ks Q pc ls (v3 :: v2 :: v1 :: st) h :=
  ev_scall hd hlk hcb hiv hM rfl rfl hdd hwt hk hs (fun r h' hq => by obtain ⟨x, rfl, hp⟩ := hq; exact kk x h' hp)
theorem ev_vi4 {b ci : Nat} {T : u_T} {N : Nat} {fs : List Value} {v1 v2 v3 v4 : Value} {post : Int32 → ev_H → Prop} (hd : fe M pc (.invokevirtual ix) 3 pc') (hlk : ev_lk M.1.cls ix M') (hcb : ev_cb M' 4) (hiv : ev_iv M') (hM : Rn G M' d' kc1 ks1 (.ref b :: [v1, v2, v3, v4]) h (ev_qi post)) (hb : h b = some (.inr (ci, fs))) (hcl : ev_CL[ci]? = some (M'.1.cls, T, N)) (hdd : d' + 1 ≤ d) (hwt : (st.map fun v => v.category).sum ≤ 8) (hk : kc = kc' + kc1) (hs : ks = ks' + ks1) (kk : ∀ (x : Int32) (h' : ev_H), post x h' → Ev G M d kc' ks' Q pc' ls (.int x :: st) h') : Ev G M d kc ks Q pc ls (v4 :: v3 :: v2 :: v1 :: .ref b :: st) h :=
  ev_vcall hd hlk hcb hiv hM hb hcl rfl rfl hdd hwt hk hs (fun r h' hq => by obtain ⟨x, rfl, hp⟩ := hq; exact kk x h' hp)
theorem ev_ti4 {v1 v2 v3 v4 : Value} {post : Int32 → ev_H → Prop} (hd : fe M pc (.invokestatic ix) 3 pc') (hlk : ev_lk M.1.cls ix M') (hcb : ev_cb M' 4) (hiv : Cond.static M'.1 ∈ ev_WS) (hM : Rn G M' d' kc1 ks1 [v1, v2, v3, v4] h (ev_qi post)) (hdd : d' + 1 ≤ d) (hwt : (st.map fun v => v.category).sum ≤ 8) (hk : kc = kc' + kc1) (hs : ks = ks' + ks1) (kk : ∀ (x : Int32) (h' : ev_H), post x h' → Ev G M d kc' ks' Q pc' ls (.int x :: st) h') : Ev G M d kc ks Q pc ls (v4 :: v3 :: v2 :: v1 :: st) h :=
  ev_scall hd hlk hcb hiv hM rfl rfl hdd hwt hk hs (fun r h' hq => by obtain ⟨x, rfl, hp⟩ := hq; exact kk x h' hp)
theorem ev_vl4 {b ci : Nat} {T : u_T} {N : Nat} {fs : List Value} {v1 v2 v3 v4 : Value} {post : Int64 → ev_H → Prop} (hd : fe M pc (.invokevirtual ix) 3 pc') (hlk : ev_lk M.1.cls ix M') (hcb : ev_cb M' 4) (hiv : ev_iv M') (hM : Rn G M' d' kc1 ks1 (.ref b :: [v1, v2, v3, v4]) h (ev_ql post)) (hb : h b = some (.inr (ci, fs))) (hcl : ev_CL[ci]? = some (M'.1.cls, T, N)) (hdd : d' + 1 ≤ d) (hwt : (st.map fun v => v.category).sum ≤ 8) (hk : kc = kc' + kc1) (hs : ks = ks' + ks1) (kk : ∀ (x : Int64) (h' : ev_H), post x h' → Ev G M d kc' ks' Q pc' ls (.long x :: st) h') : Ev G M d kc ks Q pc ls (v4 :: v3 :: v2 :: v1 :: .ref b :: st) h :=
  ev_vcall hd hlk hcb hiv hM hb hcl rfl rfl hdd hwt hk hs (fun r h' hq => by obtain ⟨x, rfl, hp⟩ := hq; exact kk x h' hp)
theorem ev_tl4 {v1 v2 v3 v4 : Value} {post : Int64 → ev_H → Prop} (hd : fe M pc (.invokestatic ix) 3 pc') (hlk : ev_lk M.1.cls ix M') (hcb : ev_cb M' 4) (hiv : Cond.static M'.1 ∈ ev_WS) (hM : Rn G M' d' kc1 ks1 [v1, v2, v3, v4] h (ev_ql post)) (hdd : d' + 1 ≤ d) (hwt : (st.map fun v => v.category).sum ≤ 8) (hk : kc = kc' + kc1) (hs : ks = ks' + ks1) (kk : ∀ (x : Int64) (h' : ev_H), post x h' → Ev G M d kc' ks' Q pc' ls (.long x :: st) h') : Ev G M d kc ks Q pc ls (v4 :: v3 :: v2 :: v1 :: st) h :=
  ev_scall hd hlk hcb hiv hM rfl rfl hdd hwt hk hs (fun r h' hq => by obtain ⟨x, rfl, hp⟩ := hq; exact kk x h' hp)
theorem ev_vv4 {b ci : Nat} {T : u_T} {N : Nat} {fs : List Value} {v1 v2 v3 v4 : Value} {post : ev_H → Prop} (hd : fe M pc (.invokevirtual ix) 3 pc') (hlk : ev_lk M.1.cls ix M') (hcb : ev_cb M' 4) (hiv : ev_iv M') (hM : Rn G M' d' kc1 ks1 (.ref b :: [v1, v2, v3, v4]) h (ev_qv post)) (hb : h b = some (.inr (ci, fs))) (hcl : ev_CL[ci]? = some (M'.1.cls, T, N)) (hdd : d' + 1 ≤ d) (hwt : (st.map fun v => v.category).sum ≤ 8) (hk : kc = kc' + kc1) (hs : ks = ks' + ks1) (kk : ∀ (h' : ev_H), post h' → Ev G M d kc' ks' Q pc' ls (st) h') : Ev G M d kc ks Q pc ls (v4 :: v3 :: v2 :: v1 :: .ref b :: st) h :=
  ev_vcall hd hlk hcb hiv hM hb hcl rfl rfl hdd hwt hk hs (fun r h' hq => by obtain ⟨rfl, hp⟩ := hq; exact kk h' hp)
theorem ev_tv4 {v1 v2 v3 v4 : Value} {post : ev_H → Prop} (hd : fe M pc (.invokestatic ix) 3 pc') (hlk : ev_lk M.1.cls ix M') (hcb : ev_cb M' 4) (hiv : Cond.static M'.1 ∈ ev_WS) (hM : Rn G M' d' kc1 ks1 [v1, v2, v3, v4] h (ev_qv post)) (hdd : d' + 1 ≤ d) (hwt : (st.map fun v => v.category).sum ≤ 8) (hk : kc = kc' + kc1) (hs : ks = ks' + ks1) (kk : ∀ (h' : ev_H), post h' → Ev G M d kc' ks' Q pc' ls (st) h') : Ev G M d kc ks Q pc ls (v4 :: v3 :: v2 :: v1 :: st) h :=
  ev_scall hd hlk hcb hiv hM rfl rfl hdd hwt hk hs (fun r h' hq => by obtain ⟨rfl, hp⟩ := hq; exact kk h' hp)
theorem ev_sv4 {b : Nat} {v1 v2 v3 v4 : Value} {post : ev_H → Prop} (hd : fe M pc (.invokespecial ix) 3 pc') (hlk : ev_lk M.1.cls ix M') (hcb : ev_cb M' 4) (hiv : Cond.instanceMethod M'.1 ∈ ev_WS ∧ M'.1.name = "<init>" ∧ M'.2.2.2.1 = none) (hM : Rn G M' d' kc1 ks1 (.ref b :: [v1, v2, v3, v4]) h (ev_qv post)) (hdd : d' + 1 ≤ d) (hwt : (st.map fun v => v.category).sum ≤ 8) (hk : kc = kc' + kc1) (hs : ks = ks' + ks1) (kk : ∀ (h' : ev_H), post h' → Ev G M d kc' ks' Q pc' ls (st) h') : Ev G M d kc ks Q pc ls (v4 :: v3 :: v2 :: v1 :: .ref b :: st) h :=
  ev_icall hd hlk hcb hiv hM rfl rfl hdd hwt hk hs (fun r h' hq => by obtain ⟨rfl, hp⟩ := hq; exact kk h' hp)
theorem ev_vq4 {b ci : Nat} {T : u_T} {N : Nat} {fs : List Value} {v1 v2 v3 v4 : Value} {post : Option Nat → ev_H → Prop} (hd : fe M pc (.invokevirtual ix) 3 pc') (hlk : ev_lk M.1.cls ix M') (hcb : ev_cb M' 4) (hiv : ev_iv M') (hM : Rn G M' d' kc1 ks1 (.ref b :: [v1, v2, v3, v4]) h (ev_qq post)) (hb : h b = some (.inr (ci, fs))) (hcl : ev_CL[ci]? = some (M'.1.cls, T, N)) (hdd : d' + 1 ≤ d) (hwt : (st.map fun v => v.category).sum ≤ 8) (hk : kc = kc' + kc1) (hs : ks = ks' + ks1) (kk : ∀ (x : Option Nat) (h' : ev_H), post x h' → Ev G M d kc' ks' Q pc' ls (va_rf x :: st) h') : Ev G M d kc ks Q pc ls (v4 :: v3 :: v2 :: v1 :: .ref b :: st) h :=
  ev_vcall hd hlk hcb hiv hM hb hcl rfl rfl hdd hwt hk hs (fun r h' hq => by obtain ⟨x, rfl, hp⟩ := hq; exact kk x h' hp)
theorem ev_tq4 {v1 v2 v3 v4 : Value} {post : Option Nat → ev_H → Prop} (hd : fe M pc (.invokestatic ix) 3 pc') (hlk : ev_lk M.1.cls ix M') (hcb : ev_cb M' 4) (hiv : Cond.static M'.1 ∈ ev_WS) (hM : Rn G M' d' kc1 ks1 [v1, v2, v3, v4] h (ev_qq post)) (hdd : d' + 1 ≤ d) (hwt : (st.map fun v => v.category).sum ≤ 8) (hk : kc = kc' + kc1) (hs : ks = ks' + ks1) (kk : ∀ (x : Option Nat) (h' : ev_H), post x h' → Ev G M d kc' ks' Q pc' ls (va_rf x :: st) h') : Ev G M d kc ks Q pc ls (v4 :: v3 :: v2 :: v1 :: st) h :=
  ev_scall hd hlk hcb hiv hM rfl rfl hdd hwt hk hs (fun r h' hq => by obtain ⟨x, rfl, hp⟩ := hq; exact kk x h' hp)
theorem ev_vi5 {b ci : Nat} {T : u_T} {N : Nat} {fs : List Value} {v1 v2 v3 v4 v5 : Value} {post : Int32 → ev_H → Prop} (hd : fe M pc (.invokevirtual ix) 3 pc') (hlk : ev_lk M.1.cls ix M') (hcb : ev_cb M' 5) (hiv : ev_iv M') (hM : Rn G M' d' kc1 ks1 (.ref b :: [v1, v2, v3, v4, v5]) h (ev_qi post)) (hb : h b = some (.inr (ci, fs))) (hcl : ev_CL[ci]? = some (M'.1.cls, T, N)) (hdd : d' + 1 ≤ d) (hwt : (st.map fun v => v.category).sum ≤ 8) (hk : kc = kc' + kc1) (hs : ks = ks' + ks1) (kk : ∀ (x : Int32) (h' : ev_H), post x h' → Ev G M d kc' ks' Q pc' ls (.int x :: st) h') : Ev G M d kc ks Q pc ls (v5 :: v4 :: v3 :: v2 :: v1 :: .ref b :: st) h :=
  ev_vcall hd hlk hcb hiv hM hb hcl rfl rfl hdd hwt hk hs (fun r h' hq => by obtain ⟨x, rfl, hp⟩ := hq; exact kk x h' hp)
theorem ev_ti5 {v1 v2 v3 v4 v5 : Value} {post : Int32 → ev_H → Prop} (hd : fe M pc (.invokestatic ix) 3 pc') (hlk : ev_lk M.1.cls ix M') (hcb : ev_cb M' 5) (hiv : Cond.static M'.1 ∈ ev_WS) (hM : Rn G M' d' kc1 ks1 [v1, v2, v3, v4, v5] h (ev_qi post)) (hdd : d' + 1 ≤ d) (hwt : (st.map fun v => v.category).sum ≤ 8) (hk : kc = kc' + kc1) (hs : ks = ks' + ks1) (kk : ∀ (x : Int32) (h' : ev_H), post x h' → Ev G M d kc' ks' Q pc' ls (.int x :: st) h') : Ev G M d kc ks Q pc ls (v5 :: v4 :: v3 :: v2 :: v1 :: st) h :=
  ev_scall hd hlk hcb hiv hM rfl rfl hdd hwt hk hs (fun r h' hq => by obtain ⟨x, rfl, hp⟩ := hq; exact kk x h' hp)
theorem ev_vl5 {b ci : Nat} {T : u_T} {N : Nat} {fs : List Value} {v1 v2 v3 v4 v5 : Value} {post : Int64 → ev_H → Prop} (hd : fe M pc (.invokevirtual ix) 3 pc') (hlk : ev_lk M.1.cls ix M') (hcb : ev_cb M' 5) (hiv : ev_iv M') (hM : Rn G M' d' kc1 ks1 (.ref b :: [v1, v2, v3, v4, v5]) h (ev_ql post)) (hb : h b = some (.inr (ci, fs))) (hcl : ev_CL[ci]? = some (M'.1.cls, T, N)) (hdd : d' + 1 ≤ d) (hwt : (st.map fun v => v.category).sum ≤ 8) (hk : kc = kc' + kc1) (hs : ks = ks' + ks1) (kk : ∀ (x : Int64) (h' : ev_H), post x h' → Ev G M d kc' ks' Q pc' ls (.long x :: st) h') : Ev G M d kc ks Q pc ls (v5 :: v4 :: v3 :: v2 :: v1 :: .ref b :: st) h :=
  ev_vcall hd hlk hcb hiv hM hb hcl rfl rfl hdd hwt hk hs (fun r h' hq => by obtain ⟨x, rfl, hp⟩ := hq; exact kk x h' hp)
theorem ev_tl5 {v1 v2 v3 v4 v5 : Value} {post : Int64 → ev_H → Prop} (hd : fe M pc (.invokestatic ix) 3 pc') (hlk : ev_lk M.1.cls ix M') (hcb : ev_cb M' 5) (hiv : Cond.static M'.1 ∈ ev_WS) (hM : Rn G M' d' kc1 ks1 [v1, v2, v3, v4, v5] h (ev_ql post)) (hdd : d' + 1 ≤ d) (hwt : (st.map fun v => v.category).sum ≤ 8) (hk : kc = kc' + kc1) (hs : ks = ks' + ks1) (kk : ∀ (x : Int64) (h' : ev_H), post x h' → Ev G M d kc' ks' Q pc' ls (.long x :: st) h') : Ev G M d kc ks Q pc ls (v5 :: v4 :: v3 :: v2 :: v1 :: st) h :=
  ev_scall hd hlk hcb hiv hM rfl rfl hdd hwt hk hs (fun r h' hq => by obtain ⟨x, rfl, hp⟩ := hq; exact kk x h' hp)
theorem ev_vv5 {b ci : Nat} {T : u_T} {N : Nat} {fs : List Value} {v1 v2 v3 v4 v5 : Value} {post : ev_H → Prop} (hd : fe M pc (.invokevirtual ix) 3 pc') (hlk : ev_lk M.1.cls ix M') (hcb : ev_cb M' 5) (hiv : ev_iv M') (hM : Rn G M' d' kc1 ks1 (.ref b :: [v1, v2, v3, v4, v5]) h (ev_qv post)) (hb : h b = some (.inr (ci, fs))) (hcl : ev_CL[ci]? = some (M'.1.cls, T, N)) (hdd : d' + 1 ≤ d) (hwt : (st.map fun v => v.category).sum ≤ 8) (hk : kc = kc' + kc1) (hs : ks = ks' + ks1) (kk : ∀ (h' : ev_H), post h' → Ev G M d kc' ks' Q pc' ls (st) h') : Ev G M d kc ks Q pc ls (v5 :: v4 :: v3 :: v2 :: v1 :: .ref b :: st) h :=
  ev_vcall hd hlk hcb hiv hM hb hcl rfl rfl hdd hwt hk hs (fun r h' hq => by obtain ⟨rfl, hp⟩ := hq; exact kk h' hp)
theorem ev_tv5 {v1 v2 v3 v4 v5 : Value} {post : ev_H → Prop} (hd : fe M pc (.invokestatic ix) 3 pc') (hlk : ev_lk M.1.cls ix M') (hcb : ev_cb M' 5) (hiv : Cond.static M'.1 ∈ ev_WS) (hM : Rn G M' d' kc1 ks1 [v1, v2, v3, v4, v5] h (ev_qv post)) (hdd : d' + 1 ≤ d) (hwt : (st.map fun v => v.category).sum ≤ 8) (hk : kc = kc' + kc1) (hs : ks = ks' + ks1) (kk : ∀ (h' : ev_H), post h' → Ev G M d kc' ks' Q pc' ls (st) h') : Ev G M d kc ks Q pc ls (v5 :: v4 :: v3 :: v2 :: v1 :: st) h :=
  ev_scall hd hlk hcb hiv hM rfl rfl hdd hwt hk hs (fun r h' hq => by obtain ⟨rfl, hp⟩ := hq; exact kk h' hp)
theorem ev_sv5 {b : Nat} {v1 v2 v3 v4 v5 : Value} {post : ev_H → Prop} (hd : fe M pc (.invokespecial ix) 3 pc') (hlk : ev_lk M.1.cls ix M') (hcb : ev_cb M' 5) (hiv : Cond.instanceMethod M'.1 ∈ ev_WS ∧ M'.1.name = "<init>" ∧ M'.2.2.2.1 = none) (hM : Rn G M' d' kc1 ks1 (.ref b :: [v1, v2, v3, v4, v5]) h (ev_qv post)) (hdd : d' + 1 ≤ d) (hwt : (st.map fun v => v.category).sum ≤ 8) (hk : kc = kc' + kc1) (hs : ks = ks' + ks1) (kk : ∀ (h' : ev_H), post h' → Ev G M d kc' ks' Q pc' ls (st) h') : Ev G M d kc ks Q pc ls (v5 :: v4 :: v3 :: v2 :: v1 :: .ref b :: st) h :=
  ev_icall hd hlk hcb hiv hM rfl rfl hdd hwt hk hs (fun r h' hq => by obtain ⟨rfl, hp⟩ := hq; exact kk h' hp)
theorem ev_vq5 {b ci : Nat} {T : u_T} {N : Nat} {fs : List Value} {v1 v2 v3 v4 v5 : Value} {post : Option Nat → ev_H → Prop} (hd : fe M pc (.invokevirtual ix) 3 pc') (hlk : ev_lk M.1.cls ix M') (hcb : ev_cb M' 5) (hiv : ev_iv M') (hM : Rn G M' d' kc1 ks1 (.ref b :: [v1, v2, v3, v4, v5]) h (ev_qq post)) (hb : h b = some (.inr (ci, fs))) (hcl : ev_CL[ci]? = some (M'.1.cls, T, N)) (hdd : d' + 1 ≤ d) (hwt : (st.map fun v => v.category).sum ≤ 8) (hk : kc = kc' + kc1) (hs : ks = ks' + ks1) (kk : ∀ (x : Option Nat) (h' : ev_H), post x h' → Ev G M d kc' ks' Q pc' ls (va_rf x :: st) h') : Ev G M d kc ks Q pc ls (v5 :: v4 :: v3 :: v2 :: v1 :: .ref b :: st) h :=
  ev_vcall hd hlk hcb hiv hM hb hcl rfl rfl hdd hwt hk hs (fun r h' hq => by obtain ⟨x, rfl, hp⟩ := hq; exact kk x h' hp)
theorem ev_tq5 {v1 v2 v3 v4 v5 : Value} {post : Option Nat → ev_H → Prop} (hd : fe M pc (.invokestatic ix) 3 pc') (hlk : ev_lk M.1.cls ix M') (hcb : ev_cb M' 5) (hiv : Cond.static M'.1 ∈ ev_WS) (hM : Rn G M' d' kc1 ks1 [v1, v2, v3, v4, v5] h (ev_qq post)) (hdd : d' + 1 ≤ d) (hwt : (st.map fun v => v.category).sum ≤ 8) (hk : kc = kc' + kc1) (hs : ks = ks' + ks1) (kk : ∀ (x : Option Nat) (h' : ev_H), post x h' → Ev G M d kc' ks' Q pc' ls (va_rf x :: st) h') : Ev G M d kc ks Q pc ls (v5 :: v4 :: v3 :: v2 :: v1 :: st) h :=
  ev_scall hd hlk hcb hiv hM rfl rfl hdd hwt hk hs (fun r h' hq => by obtain ⟨x, rfl, hp⟩ := hq; exact kk x h' hp)
end EVF
end
section
theorem ty_int : ev_ty 0 (.int) := fun _ => rfl
def tn_int : Nat := 0
theorem ty_long : ev_ty 1 (.long) := fun _ => rfl
def tn_long : Nat := 1
theorem ty_char : ev_ty 2 (.char) := fun _ => rfl
def tn_char : Nat := 2
theorem ty_boolean : ev_ty 3 (.boolean) := fun _ => rfl
def tn_boolean : Nat := 3
theorem ty_form : ev_ty 4 (.object "LicenceRules$Form") := fun _ => rfl
def tn_form : Nat := 4
theorem ty_pack : ev_ty 5 (.object "LicenceRules$Pack") := fun _ => rfl
def tn_pack : Nat := 5
theorem ac_int : Cond.arrayClass .int ∈ ev_WS := List.mem_filter.mpr ⟨List.mem_append_right _ (List.mem_append_left _ (List.mem_of_getElem? (i := 40) rfl)), rfl⟩
theorem ac_long : Cond.arrayClass .long ∈ ev_WS := List.mem_filter.mpr ⟨List.mem_append_right _ (List.mem_append_left _ (List.mem_of_getElem? (i := 39) rfl)), rfl⟩
theorem ac_char : Cond.arrayClass .char ∈ ev_WS := List.mem_filter.mpr ⟨List.mem_append_right _ (List.mem_append_left _ (List.mem_of_getElem? (i := 67) rfl)), rfl⟩
theorem ac_boolean : Cond.arrayClass .boolean ∈ ev_WS := List.mem_filter.mpr ⟨List.mem_append_right _ (List.mem_append_right _ (List.mem_append_right _ (List.mem_of_getElem? (i := 98) rfl))), rfl⟩
theorem k_fo : ev_ck 0 RC_fo FT_fo 3 ft_fo := by
  refine ⟨rfl, ?_, by decide +kernel, by decide +kernel⟩
  intro w hw
  obtain ⟨k, hk, rfl⟩ := List.mem_map.mp hw
  have hk : k < 3 := List.mem_range.mp hk
  match k, hk with
  | 0, _ => exact List.mem_filter.mpr ⟨List.mem_append_right _ (List.mem_append_left _ (List.mem_of_getElem? (i := 60) rfl)), rfl⟩
  | 1, _ => exact List.mem_filter.mpr ⟨List.mem_append_right _ (List.mem_append_left _ (List.mem_of_getElem? (i := 62) rfl)), rfl⟩
  | 2, _ => exact List.mem_filter.mpr ⟨List.mem_append_right _ (List.mem_append_left _ (List.mem_of_getElem? (i := 64) rfl)), rfl⟩
  | z + 3, h => exact absurd h (by omega)
theorem in_fo : Cond.initialized RC_fo ∈ ev_WS := List.mem_filter.mpr ⟨List.mem_append_right _ (List.mem_append_left _ (List.mem_of_getElem? (i := 4) rfl)), rfl⟩
theorem ns_fo : Cond.instantiable RC_fo 3 ∈ ev_WS := List.mem_filter.mpr ⟨List.mem_append_right _ (List.mem_append_left _ (List.mem_of_getElem? (i := 49) rfl)), rfl⟩
theorem k_pk : ev_ck 1 RC_pk FT_pk 5 ft_pk := by
  refine ⟨rfl, ?_, by decide +kernel, by decide +kernel⟩
  intro w hw
  obtain ⟨k, hk, rfl⟩ := List.mem_map.mp hw
  have hk : k < 5 := List.mem_range.mp hk
  match k, hk with
  | 0, _ => exact List.mem_filter.mpr ⟨List.mem_append_right _ (List.mem_append_left _ (List.mem_of_getElem? (i := 207) rfl)), rfl⟩
  | 1, _ => exact List.mem_filter.mpr ⟨List.mem_append_right _ (List.mem_append_left _ (List.mem_of_getElem? (i := 209) rfl)), rfl⟩
  | 2, _ => exact List.mem_filter.mpr ⟨List.mem_append_right _ (List.mem_append_left _ (List.mem_of_getElem? (i := 211) rfl)), rfl⟩
  | 3, _ => exact List.mem_filter.mpr ⟨List.mem_append_right _ (List.mem_append_left _ (List.mem_of_getElem? (i := 213) rfl)), rfl⟩
  | 4, _ => exact List.mem_filter.mpr ⟨List.mem_append_right _ (List.mem_append_left _ (List.mem_of_getElem? (i := 215) rfl)), rfl⟩
  | z + 5, h => exact absurd h (by omega)
theorem in_pk : Cond.initialized RC_pk ∈ ev_WS := List.mem_filter.mpr ⟨List.mem_append_right _ (List.mem_append_left _ (List.mem_of_getElem? (i := 8) rfl)), rfl⟩
theorem ns_pk : Cond.instantiable RC_pk 5 ∈ ev_WS := List.mem_filter.mpr ⟨List.mem_append_right _ (List.mem_append_left _ (List.mem_of_getElem? (i := 188) rfl)), rfl⟩
theorem k_rd : ev_ck 2 RC_rd FT_rd 10 ft_rd := by
  refine ⟨rfl, ?_, by decide +kernel, by decide +kernel⟩
  intro w hw
  obtain ⟨k, hk, rfl⟩ := List.mem_map.mp hw
  have hk : k < 10 := List.mem_range.mp hk
  match k, hk with
  | 0, _ => exact List.mem_filter.mpr ⟨List.mem_append_right _ (List.mem_append_left _ (List.mem_of_getElem? (i := 78) rfl)), rfl⟩
  | 1, _ => exact List.mem_filter.mpr ⟨List.mem_append_right _ (List.mem_append_left _ (List.mem_of_getElem? (i := 80) rfl)), rfl⟩
  | 2, _ => exact List.mem_filter.mpr ⟨List.mem_append_right _ (List.mem_append_left _ (List.mem_of_getElem? (i := 82) rfl)), rfl⟩
  | 3, _ => exact List.mem_filter.mpr ⟨List.mem_append_right _ (List.mem_append_left _ (List.mem_of_getElem? (i := 84) rfl)), rfl⟩
  | 4, _ => exact List.mem_filter.mpr ⟨List.mem_append_right _ (List.mem_append_left _ (List.mem_of_getElem? (i := 86) rfl)), rfl⟩
  | 5, _ => exact List.mem_filter.mpr ⟨List.mem_append_right _ (List.mem_append_left _ (List.mem_of_getElem? (i := 88) rfl)), rfl⟩
  | 6, _ => exact List.mem_filter.mpr ⟨List.mem_append_right _ (List.mem_append_left _ (List.mem_of_getElem? (i := 90) rfl)), rfl⟩
  | 7, _ => exact List.mem_filter.mpr ⟨List.mem_append_right _ (List.mem_append_left _ (List.mem_of_getElem? (i := 92) rfl)), rfl⟩
  | 8, _ => exact List.mem_filter.mpr ⟨List.mem_append_right _ (List.mem_append_left _ (List.mem_of_getElem? (i := 94) rfl)), rfl⟩
  | 9, _ => exact List.mem_filter.mpr ⟨List.mem_append_right _ (List.mem_append_left _ (List.mem_of_getElem? (i := 96) rfl)), rfl⟩
  | z + 10, h => exact absurd h (by omega)
theorem in_rd : Cond.initialized RC_rd ∈ ev_WS := List.mem_filter.mpr ⟨List.mem_append_right _ (List.mem_append_left _ (List.mem_of_getElem? (i := 3) rfl)), rfl⟩
theorem ns_rd : Cond.instantiable RC_rd 10 ∈ ev_WS := List.mem_filter.mpr ⟨List.mem_append_right _ (List.mem_append_left _ (List.mem_of_getElem? (i := 42) rfl)), rfl⟩
theorem k_rv : ev_ck 3 RC_rv FT_rv 6 ft_rv := by
  refine ⟨rfl, ?_, by decide +kernel, by decide +kernel⟩
  intro w hw
  obtain ⟨k, hk, rfl⟩ := List.mem_map.mp hw
  have hk : k < 6 := List.mem_range.mp hk
  match k, hk with
  | 0, _ => exact List.mem_filter.mpr ⟨List.mem_append_right _ (List.mem_append_left _ (List.mem_of_getElem? (i := 113) rfl)), rfl⟩
  | 1, _ => exact List.mem_filter.mpr ⟨List.mem_append_right _ (List.mem_append_left _ (List.mem_of_getElem? (i := 115) rfl)), rfl⟩
  | 2, _ => exact List.mem_filter.mpr ⟨List.mem_append_right _ (List.mem_append_left _ (List.mem_of_getElem? (i := 117) rfl)), rfl⟩
  | 3, _ => exact List.mem_filter.mpr ⟨List.mem_append_right _ (List.mem_append_left _ (List.mem_of_getElem? (i := 119) rfl)), rfl⟩
  | 4, _ => exact List.mem_filter.mpr ⟨List.mem_append_right _ (List.mem_append_left _ (List.mem_of_getElem? (i := 121) rfl)), rfl⟩
  | 5, _ => exact List.mem_filter.mpr ⟨List.mem_append_right _ (List.mem_append_left _ (List.mem_of_getElem? (i := 123) rfl)), rfl⟩
  | z + 6, h => exact absurd h (by omega)
theorem in_rv : Cond.initialized RC_rv ∈ ev_WS := List.mem_filter.mpr ⟨List.mem_append_right _ (List.mem_append_left _ (List.mem_of_getElem? (i := 6) rfl)), rfl⟩
theorem ns_rv : Cond.instantiable RC_rv 6 ∈ ev_WS := List.mem_filter.mpr ⟨List.mem_append_right _ (List.mem_append_left _ (List.mem_of_getElem? (i := 102) rfl)), rfl⟩
theorem k_ru : ev_ck 4 RC_ru FT_ru 4 ft_ru := by
  refine ⟨rfl, ?_, by decide +kernel, by decide +kernel⟩
  intro w hw
  obtain ⟨k, hk, rfl⟩ := List.mem_map.mp hw
  have hk : k < 4 := List.mem_range.mp hk
  match k, hk with
  | 0, _ => exact List.mem_filter.mpr ⟨List.mem_append_right _ (List.mem_append_left _ (List.mem_of_getElem? (i := 30) rfl)), rfl⟩
  | 1, _ => exact List.mem_filter.mpr ⟨List.mem_append_right _ (List.mem_append_left _ (List.mem_of_getElem? (i := 32) rfl)), rfl⟩
  | 2, _ => exact List.mem_filter.mpr ⟨List.mem_append_right _ (List.mem_append_left _ (List.mem_of_getElem? (i := 34) rfl)), rfl⟩
  | 3, _ => exact List.mem_filter.mpr ⟨List.mem_append_right _ (List.mem_append_left _ (List.mem_of_getElem? (i := 36) rfl)), rfl⟩
  | z + 4, h => exact absurd h (by omega)
theorem in_ru : Cond.initialized RC_ru ∈ ev_WS := List.mem_filter.mpr ⟨List.mem_append_right _ (List.mem_append_left _ (List.mem_of_getElem? (i := 2) rfl)), rfl⟩
theorem ns_ru : Cond.instantiable RC_ru 4 ∈ ev_WS := List.mem_filter.mpr ⟨List.mem_append_right _ (List.mem_append_left _ (List.mem_of_getElem? (i := 21) rfl)), rfl⟩
theorem k_lr : ev_ck 5 RC_lr FT_lr 6 ft_lr := by
  refine ⟨rfl, ?_, by decide +kernel, by decide +kernel⟩
  intro w hw
  obtain ⟨k, hk, rfl⟩ := List.mem_map.mp hw
  have hk : k < 6 := List.mem_range.mp hk
  match k, hk with
  | 0, _ => exact List.mem_filter.mpr ⟨List.mem_append_right _ (List.mem_append_left _ (List.mem_of_getElem? (i := 132) rfl)), rfl⟩
  | 1, _ => exact List.mem_filter.mpr ⟨List.mem_append_right _ (List.mem_append_left _ (List.mem_of_getElem? (i := 134) rfl)), rfl⟩
  | 2, _ => exact List.mem_filter.mpr ⟨List.mem_append_right _ (List.mem_append_left _ (List.mem_of_getElem? (i := 136) rfl)), rfl⟩
  | 3, _ => exact List.mem_filter.mpr ⟨List.mem_append_right _ (List.mem_append_left _ (List.mem_of_getElem? (i := 138) rfl)), rfl⟩
  | 4, _ => exact List.mem_filter.mpr ⟨List.mem_append_right _ (List.mem_append_left _ (List.mem_of_getElem? (i := 140) rfl)), rfl⟩
  | 5, _ => exact List.mem_filter.mpr ⟨List.mem_append_right _ (List.mem_append_left _ (List.mem_of_getElem? (i := 142) rfl)), rfl⟩
  | z + 6, h => exact absurd h (by omega)
theorem in_lr : Cond.initialized RC_lr ∈ ev_WS := List.mem_filter.mpr ⟨List.mem_append_right _ (List.mem_append_left _ (List.mem_of_getElem? (i := 1) rfl)), rfl⟩
theorem ns_lr : Cond.instantiable RC_lr 6 ∈ ev_WS := List.mem_filter.mpr ⟨List.mem_append_right _ (List.mem_append_left _ (List.mem_of_getElem? (i := 13) rfl)), rfl⟩
theorem k_mo : ev_ck 6 RC_mo FT_mo 35 ft_mo := by
  refine ⟨rfl, ?_, by decide +kernel, by decide +kernel⟩
  intro w hw
  obtain ⟨k, hk, rfl⟩ := List.mem_map.mp hw
  have hk : k < 35 := List.mem_range.mp hk
  match k, hk with
  | 0, _ => exact List.mem_filter.mpr ⟨List.mem_append_right _ (List.mem_append_right _ (List.mem_append_right _ (List.mem_of_getElem? (i := 27) rfl))), rfl⟩
  | 1, _ => exact List.mem_filter.mpr ⟨List.mem_append_right _ (List.mem_append_right _ (List.mem_append_right _ (List.mem_of_getElem? (i := 29) rfl))), rfl⟩
  | 2, _ => exact List.mem_filter.mpr ⟨List.mem_append_right _ (List.mem_append_right _ (List.mem_append_right _ (List.mem_of_getElem? (i := 31) rfl))), rfl⟩
  | 3, _ => exact List.mem_filter.mpr ⟨List.mem_append_right _ (List.mem_append_right _ (List.mem_append_right _ (List.mem_of_getElem? (i := 33) rfl))), rfl⟩
  | 4, _ => exact List.mem_filter.mpr ⟨List.mem_append_right _ (List.mem_append_right _ (List.mem_append_right _ (List.mem_of_getElem? (i := 35) rfl))), rfl⟩
  | 5, _ => exact List.mem_filter.mpr ⟨List.mem_append_right _ (List.mem_append_right _ (List.mem_append_right _ (List.mem_of_getElem? (i := 37) rfl))), rfl⟩
  | 6, _ => exact List.mem_filter.mpr ⟨List.mem_append_right _ (List.mem_append_right _ (List.mem_append_right _ (List.mem_of_getElem? (i := 39) rfl))), rfl⟩
  | 7, _ => exact List.mem_filter.mpr ⟨List.mem_append_right _ (List.mem_append_right _ (List.mem_append_right _ (List.mem_of_getElem? (i := 41) rfl))), rfl⟩
  | 8, _ => exact List.mem_filter.mpr ⟨List.mem_append_right _ (List.mem_append_right _ (List.mem_append_right _ (List.mem_of_getElem? (i := 43) rfl))), rfl⟩
  | 9, _ => exact List.mem_filter.mpr ⟨List.mem_append_right _ (List.mem_append_right _ (List.mem_append_right _ (List.mem_of_getElem? (i := 45) rfl))), rfl⟩
  | 10, _ => exact List.mem_filter.mpr ⟨List.mem_append_right _ (List.mem_append_right _ (List.mem_append_right _ (List.mem_of_getElem? (i := 47) rfl))), rfl⟩
  | 11, _ => exact List.mem_filter.mpr ⟨List.mem_append_right _ (List.mem_append_right _ (List.mem_append_right _ (List.mem_of_getElem? (i := 49) rfl))), rfl⟩
  | 12, _ => exact List.mem_filter.mpr ⟨List.mem_append_right _ (List.mem_append_right _ (List.mem_append_right _ (List.mem_of_getElem? (i := 51) rfl))), rfl⟩
  | 13, _ => exact List.mem_filter.mpr ⟨List.mem_append_right _ (List.mem_append_right _ (List.mem_append_right _ (List.mem_of_getElem? (i := 53) rfl))), rfl⟩
  | 14, _ => exact List.mem_filter.mpr ⟨List.mem_append_right _ (List.mem_append_right _ (List.mem_append_right _ (List.mem_of_getElem? (i := 55) rfl))), rfl⟩
  | 15, _ => exact List.mem_filter.mpr ⟨List.mem_append_right _ (List.mem_append_right _ (List.mem_append_right _ (List.mem_of_getElem? (i := 57) rfl))), rfl⟩
  | 16, _ => exact List.mem_filter.mpr ⟨List.mem_append_right _ (List.mem_append_right _ (List.mem_append_right _ (List.mem_of_getElem? (i := 59) rfl))), rfl⟩
  | 17, _ => exact List.mem_filter.mpr ⟨List.mem_append_right _ (List.mem_append_right _ (List.mem_append_right _ (List.mem_of_getElem? (i := 61) rfl))), rfl⟩
  | 18, _ => exact List.mem_filter.mpr ⟨List.mem_append_right _ (List.mem_append_right _ (List.mem_append_right _ (List.mem_of_getElem? (i := 63) rfl))), rfl⟩
  | 19, _ => exact List.mem_filter.mpr ⟨List.mem_append_right _ (List.mem_append_right _ (List.mem_append_right _ (List.mem_of_getElem? (i := 65) rfl))), rfl⟩
  | 20, _ => exact List.mem_filter.mpr ⟨List.mem_append_right _ (List.mem_append_right _ (List.mem_append_right _ (List.mem_of_getElem? (i := 67) rfl))), rfl⟩
  | 21, _ => exact List.mem_filter.mpr ⟨List.mem_append_right _ (List.mem_append_right _ (List.mem_append_right _ (List.mem_of_getElem? (i := 69) rfl))), rfl⟩
  | 22, _ => exact List.mem_filter.mpr ⟨List.mem_append_right _ (List.mem_append_right _ (List.mem_append_right _ (List.mem_of_getElem? (i := 71) rfl))), rfl⟩
  | 23, _ => exact List.mem_filter.mpr ⟨List.mem_append_right _ (List.mem_append_right _ (List.mem_append_right _ (List.mem_of_getElem? (i := 73) rfl))), rfl⟩
  | 24, _ => exact List.mem_filter.mpr ⟨List.mem_append_right _ (List.mem_append_right _ (List.mem_append_right _ (List.mem_of_getElem? (i := 75) rfl))), rfl⟩
  | 25, _ => exact List.mem_filter.mpr ⟨List.mem_append_right _ (List.mem_append_right _ (List.mem_append_right _ (List.mem_of_getElem? (i := 77) rfl))), rfl⟩
  | 26, _ => exact List.mem_filter.mpr ⟨List.mem_append_right _ (List.mem_append_right _ (List.mem_append_right _ (List.mem_of_getElem? (i := 79) rfl))), rfl⟩
  | 27, _ => exact List.mem_filter.mpr ⟨List.mem_append_right _ (List.mem_append_right _ (List.mem_append_right _ (List.mem_of_getElem? (i := 81) rfl))), rfl⟩
  | 28, _ => exact List.mem_filter.mpr ⟨List.mem_append_right _ (List.mem_append_right _ (List.mem_append_right _ (List.mem_of_getElem? (i := 83) rfl))), rfl⟩
  | 29, _ => exact List.mem_filter.mpr ⟨List.mem_append_right _ (List.mem_append_right _ (List.mem_append_right _ (List.mem_of_getElem? (i := 85) rfl))), rfl⟩
  | 30, _ => exact List.mem_filter.mpr ⟨List.mem_append_right _ (List.mem_append_right _ (List.mem_append_right _ (List.mem_of_getElem? (i := 87) rfl))), rfl⟩
  | 31, _ => exact List.mem_filter.mpr ⟨List.mem_append_right _ (List.mem_append_right _ (List.mem_append_right _ (List.mem_of_getElem? (i := 89) rfl))), rfl⟩
  | 32, _ => exact List.mem_filter.mpr ⟨List.mem_append_right _ (List.mem_append_right _ (List.mem_append_right _ (List.mem_of_getElem? (i := 91) rfl))), rfl⟩
  | 33, _ => exact List.mem_filter.mpr ⟨List.mem_append_right _ (List.mem_append_right _ (List.mem_append_right _ (List.mem_of_getElem? (i := 93) rfl))), rfl⟩
  | 34, _ => exact List.mem_filter.mpr ⟨List.mem_append_right _ (List.mem_append_right _ (List.mem_append_right _ (List.mem_of_getElem? (i := 95) rfl))), rfl⟩
  | z + 35, h => exact absurd h (by omega)
theorem in_mo : Cond.initialized RC_mo ∈ ev_WS := List.mem_filter.mpr ⟨List.mem_append_right _ (List.mem_append_left _ (List.mem_of_getElem? (i := 7) rfl)), rfl⟩
theorem ns_mo : Cond.instantiable RC_mo 35 ∈ ev_WS := List.mem_filter.mpr ⟨List.mem_append_right _ (List.mem_append_right _ (List.mem_append_left _ (List.mem_of_getElem? (i := 227) rfl))), rfl⟩
theorem cb_fo_init : ev_cb M_fo_init 1 := ⟨List.mem_filter.mpr ⟨List.mem_append_right _ (List.mem_append_left _ (List.mem_of_getElem? (i := 4) rfl)), rfl⟩, List.mem_filter.mpr ⟨List.mem_append_right _ (List.mem_append_left _ (List.mem_of_getElem? (i := 52) rfl)), rfl⟩, ⟨by decide +kernel, by decide +kernel, by decide +kernel⟩, by decide +kernel⟩
theorem iv_fo_init : Cond.instanceMethod M_fo_init.1 ∈ ev_WS ∧ M_fo_init.1.name = "<init>" ∧ M_fo_init.2.2.2.1 = none := ⟨List.mem_filter.mpr ⟨List.mem_append_right _ (List.mem_append_left _ (List.mem_of_getElem? (i := 51) rfl)), rfl⟩, rfl, rfl⟩
theorem cb_fo_size : ev_cb M_fo_size 0 := ⟨List.mem_filter.mpr ⟨List.mem_append_right _ (List.mem_append_left _ (List.mem_of_getElem? (i := 4) rfl)), rfl⟩, List.mem_filter.mpr ⟨List.mem_append_right _ (List.mem_append_right _ (List.mem_append_left _ (List.mem_of_getElem? (i := 29) rfl))), rfl⟩, ⟨by decide +kernel, by decide +kernel, by decide +kernel⟩, by decide +kernel⟩
theorem iv_fo_size : ev_iv M_fo_size := ⟨List.mem_filter.mpr ⟨List.mem_append_right _ (List.mem_append_right _ (List.mem_append_left _ (List.mem_of_getElem? (i := 27) rfl))), rfl⟩, List.mem_filter.mpr ⟨List.mem_append_right _ (List.mem_append_right _ (List.mem_append_left _ (List.mem_of_getElem? (i := 28) rfl))), rfl⟩⟩
theorem cb_fo_clear : ev_cb M_fo_clear 0 := ⟨List.mem_filter.mpr ⟨List.mem_append_right _ (List.mem_append_left _ (List.mem_of_getElem? (i := 4) rfl)), rfl⟩, List.mem_filter.mpr ⟨List.mem_append_right _ (List.mem_append_right _ (List.mem_append_left _ (List.mem_of_getElem? (i := 1) rfl))), rfl⟩, ⟨by decide +kernel, by decide +kernel, by decide +kernel⟩, by decide +kernel⟩
theorem iv_fo_clear : ev_iv M_fo_clear := ⟨List.mem_filter.mpr ⟨List.mem_append_right _ (List.mem_append_left _ (List.mem_of_getElem? (i := 239) rfl)), rfl⟩, List.mem_filter.mpr ⟨List.mem_append_right _ (List.mem_append_right _ (List.mem_append_left _ (List.mem_of_getElem? (i := 0) rfl))), rfl⟩⟩
theorem cb_fo_setOnly : ev_cb M_fo_setOnly 1 := ⟨List.mem_filter.mpr ⟨List.mem_append_right _ (List.mem_append_left _ (List.mem_of_getElem? (i := 4) rfl)), rfl⟩, List.mem_filter.mpr ⟨List.mem_append_right _ (List.mem_append_right _ (List.mem_append_left _ (List.mem_of_getElem? (i := 21) rfl))), rfl⟩, ⟨by decide +kernel, by decide +kernel, by decide +kernel⟩, by decide +kernel⟩
theorem iv_fo_setOnly : ev_iv M_fo_setOnly := ⟨List.mem_filter.mpr ⟨List.mem_append_right _ (List.mem_append_right _ (List.mem_append_left _ (List.mem_of_getElem? (i := 19) rfl))), rfl⟩, List.mem_filter.mpr ⟨List.mem_append_right _ (List.mem_append_right _ (List.mem_append_left _ (List.mem_of_getElem? (i := 20) rfl))), rfl⟩⟩
theorem cb_fo_copyFrom : ev_cb M_fo_copyFrom 1 := ⟨List.mem_filter.mpr ⟨List.mem_append_right _ (List.mem_append_left _ (List.mem_of_getElem? (i := 4) rfl)), rfl⟩, List.mem_filter.mpr ⟨List.mem_append_right _ (List.mem_append_right _ (List.mem_append_left _ (List.mem_of_getElem? (i := 33) rfl))), rfl⟩, ⟨by decide +kernel, by decide +kernel, by decide +kernel⟩, by decide +kernel⟩
theorem iv_fo_copyFrom : ev_iv M_fo_copyFrom := ⟨List.mem_filter.mpr ⟨List.mem_append_right _ (List.mem_append_right _ (List.mem_append_left _ (List.mem_of_getElem? (i := 31) rfl))), rfl⟩, List.mem_filter.mpr ⟨List.mem_append_right _ (List.mem_append_right _ (List.mem_append_left _ (List.mem_of_getElem? (i := 32) rfl))), rfl⟩⟩
theorem cb_fo_holds : ev_cb M_fo_holds 2 := ⟨List.mem_filter.mpr ⟨List.mem_append_right _ (List.mem_append_left _ (List.mem_of_getElem? (i := 4) rfl)), rfl⟩, List.mem_filter.mpr ⟨List.mem_append_right _ (List.mem_append_right _ (List.mem_append_left _ (List.mem_of_getElem? (i := 102) rfl))), rfl⟩, ⟨by decide +kernel, by decide +kernel, by decide +kernel⟩, by decide +kernel⟩
theorem iv_fo_holds : ev_iv M_fo_holds := ⟨List.mem_filter.mpr ⟨List.mem_append_right _ (List.mem_append_right _ (List.mem_append_left _ (List.mem_of_getElem? (i := 100) rfl))), rfl⟩, List.mem_filter.mpr ⟨List.mem_append_right _ (List.mem_append_right _ (List.mem_append_left _ (List.mem_of_getElem? (i := 101) rfl))), rfl⟩⟩
theorem cb_fo_pairCount : ev_cb M_fo_pairCount 1 := ⟨List.mem_filter.mpr ⟨List.mem_append_right _ (List.mem_append_left _ (List.mem_of_getElem? (i := 4) rfl)), rfl⟩, List.mem_filter.mpr ⟨List.mem_append_right _ (List.mem_append_right _ (List.mem_append_left _ (List.mem_of_getElem? (i := 130) rfl))), rfl⟩, ⟨by decide +kernel, by decide +kernel, by decide +kernel⟩, by decide +kernel⟩
theorem iv_fo_pairCount : ev_iv M_fo_pairCount := ⟨List.mem_filter.mpr ⟨List.mem_append_right _ (List.mem_append_right _ (List.mem_append_left _ (List.mem_of_getElem? (i := 128) rfl))), rfl⟩, List.mem_filter.mpr ⟨List.mem_append_right _ (List.mem_append_right _ (List.mem_append_left _ (List.mem_of_getElem? (i := 129) rfl))), rfl⟩⟩
theorem cb_fo_codeAt : ev_cb M_fo_codeAt 2 := ⟨List.mem_filter.mpr ⟨List.mem_append_right _ (List.mem_append_left _ (List.mem_of_getElem? (i := 4) rfl)), rfl⟩, List.mem_filter.mpr ⟨List.mem_append_right _ (List.mem_append_right _ (List.mem_append_left _ (List.mem_of_getElem? (i := 98) rfl))), rfl⟩, ⟨by decide +kernel, by decide +kernel, by decide +kernel⟩, by decide +kernel⟩
theorem iv_fo_codeAt : ev_iv M_fo_codeAt := ⟨List.mem_filter.mpr ⟨List.mem_append_right _ (List.mem_append_right _ (List.mem_append_left _ (List.mem_of_getElem? (i := 96) rfl))), rfl⟩, List.mem_filter.mpr ⟨List.mem_append_right _ (List.mem_append_right _ (List.mem_append_left _ (List.mem_of_getElem? (i := 97) rfl))), rfl⟩⟩
theorem cb_fo_addJoined : ev_cb M_fo_addJoined 4 := ⟨List.mem_filter.mpr ⟨List.mem_append_right _ (List.mem_append_left _ (List.mem_of_getElem? (i := 4) rfl)), rfl⟩, List.mem_filter.mpr ⟨List.mem_append_right _ (List.mem_append_right _ (List.mem_append_left _ (List.mem_of_getElem? (i := 43) rfl))), rfl⟩, ⟨by decide +kernel, by decide +kernel, by decide +kernel⟩, by decide +kernel⟩
theorem iv_fo_addJoined : ev_iv M_fo_addJoined := ⟨List.mem_filter.mpr ⟨List.mem_append_right _ (List.mem_append_right _ (List.mem_append_left _ (List.mem_of_getElem? (i := 41) rfl))), rfl⟩, List.mem_filter.mpr ⟨List.mem_append_right _ (List.mem_append_right _ (List.mem_append_left _ (List.mem_of_getElem? (i := 42) rfl))), rfl⟩⟩
theorem cb_fo_hasOneWithin : ev_cb M_fo_hasOneWithin 3 := ⟨List.mem_filter.mpr ⟨List.mem_append_right _ (List.mem_append_left _ (List.mem_of_getElem? (i := 4) rfl)), rfl⟩, List.mem_filter.mpr ⟨List.mem_append_right _ (List.mem_append_right _ (List.mem_append_left _ (List.mem_of_getElem? (i := 47) rfl))), rfl⟩, ⟨by decide +kernel, by decide +kernel, by decide +kernel⟩, by decide +kernel⟩
theorem iv_fo_hasOneWithin : ev_iv M_fo_hasOneWithin := ⟨List.mem_filter.mpr ⟨List.mem_append_right _ (List.mem_append_right _ (List.mem_append_left _ (List.mem_of_getElem? (i := 46) rfl))), rfl⟩, List.mem_filter.mpr ⟨List.mem_append_left _ (List.mem_of_getElem? (i := 7) rfl), rfl⟩⟩
theorem cb_fo_dropThoseWith : ev_cb M_fo_dropThoseWith 3 := ⟨List.mem_filter.mpr ⟨List.mem_append_right _ (List.mem_append_left _ (List.mem_of_getElem? (i := 4) rfl)), rfl⟩, List.mem_filter.mpr ⟨List.mem_append_right _ (List.mem_append_right _ (List.mem_append_left _ (List.mem_of_getElem? (i := 52) rfl))), rfl⟩, ⟨by decide +kernel, by decide +kernel, by decide +kernel⟩, by decide +kernel⟩
theorem iv_fo_dropThoseWith : ev_iv M_fo_dropThoseWith := ⟨List.mem_filter.mpr ⟨List.mem_append_right _ (List.mem_append_right _ (List.mem_append_left _ (List.mem_of_getElem? (i := 51) rfl))), rfl⟩, List.mem_filter.mpr ⟨List.mem_append_left _ (List.mem_of_getElem? (i := 8) rfl), rfl⟩⟩
theorem cb_pk_init : ev_cb M_pk_init 0 := ⟨List.mem_filter.mpr ⟨List.mem_append_right _ (List.mem_append_left _ (List.mem_of_getElem? (i := 8) rfl)), rfl⟩, List.mem_filter.mpr ⟨List.mem_append_right _ (List.mem_append_left _ (List.mem_of_getElem? (i := 191) rfl)), rfl⟩, ⟨by decide +kernel, by decide +kernel, by decide +kernel⟩, by decide +kernel⟩
theorem iv_pk_init : Cond.instanceMethod M_pk_init.1 ∈ ev_WS ∧ M_pk_init.1.name = "<init>" ∧ M_pk_init.2.2.2.1 = none := ⟨List.mem_filter.mpr ⟨List.mem_append_right _ (List.mem_append_left _ (List.mem_of_getElem? (i := 190) rfl)), rfl⟩, rfl, rfl⟩
theorem cb_pk_addUse : ev_cb M_pk_addUse 2 := ⟨List.mem_filter.mpr ⟨List.mem_append_right _ (List.mem_append_left _ (List.mem_of_getElem? (i := 8) rfl)), rfl⟩, List.mem_filter.mpr ⟨List.mem_append_right _ (List.mem_append_right _ (List.mem_append_left _ (List.mem_of_getElem? (i := 150) rfl))), rfl⟩, ⟨by decide +kernel, by decide +kernel, by decide +kernel⟩, by decide +kernel⟩
theorem iv_pk_addUse : ev_iv M_pk_addUse := ⟨List.mem_filter.mpr ⟨List.mem_append_right _ (List.mem_append_right _ (List.mem_append_left _ (List.mem_of_getElem? (i := 148) rfl))), rfl⟩, List.mem_filter.mpr ⟨List.mem_append_right _ (List.mem_append_right _ (List.mem_append_left _ (List.mem_of_getElem? (i := 149) rfl))), rfl⟩⟩
theorem cb_rd_init : ev_cb M_rd_init 0 := ⟨List.mem_filter.mpr ⟨List.mem_append_right _ (List.mem_append_left _ (List.mem_of_getElem? (i := 3) rfl)), rfl⟩, List.mem_filter.mpr ⟨List.mem_append_right _ (List.mem_append_left _ (List.mem_of_getElem? (i := 45) rfl)), rfl⟩, ⟨by decide +kernel, by decide +kernel, by decide +kernel⟩, by decide +kernel⟩
theorem iv_rd_init : Cond.instanceMethod M_rd_init.1 ∈ ev_WS ∧ M_rd_init.1.name = "<init>" ∧ M_rd_init.2.2.2.1 = none := ⟨List.mem_filter.mpr ⟨List.mem_append_right _ (List.mem_append_left _ (List.mem_of_getElem? (i := 44) rfl)), rfl⟩, rfl, rfl⟩
theorem cb_rd_append : ev_cb M_rd_append 1 := ⟨List.mem_filter.mpr ⟨List.mem_append_right _ (List.mem_append_left _ (List.mem_of_getElem? (i := 3) rfl)), rfl⟩, List.mem_filter.mpr ⟨List.mem_append_right _ (List.mem_append_left _ (List.mem_of_getElem? (i := 183) rfl)), rfl⟩, ⟨by decide +kernel, by decide +kernel, by decide +kernel⟩, by decide +kernel⟩
theorem iv_rd_append : ev_iv M_rd_append := ⟨List.mem_filter.mpr ⟨List.mem_append_right _ (List.mem_append_left _ (List.mem_of_getElem? (i := 181) rfl)), rfl⟩, List.mem_filter.mpr ⟨List.mem_append_right _ (List.mem_append_left _ (List.mem_of_getElem? (i := 182) rfl)), rfl⟩⟩
theorem cb_rd_empty : ev_cb M_rd_empty 0 := ⟨List.mem_filter.mpr ⟨List.mem_append_right _ (List.mem_append_left _ (List.mem_of_getElem? (i := 3) rfl)), rfl⟩, List.mem_filter.mpr ⟨List.mem_append_right _ (List.mem_append_right _ (List.mem_append_left _ (List.mem_of_getElem? (i := 76) rfl))), rfl⟩, ⟨by decide +kernel, by decide +kernel, by decide +kernel⟩, by decide +kernel⟩
theorem iv_rd_empty : ev_iv M_rd_empty := ⟨List.mem_filter.mpr ⟨List.mem_append_right _ (List.mem_append_right _ (List.mem_append_left _ (List.mem_of_getElem? (i := 74) rfl))), rfl⟩, List.mem_filter.mpr ⟨List.mem_append_right _ (List.mem_append_right _ (List.mem_append_left _ (List.mem_of_getElem? (i := 75) rfl))), rfl⟩⟩
theorem cb_rd_hasTooMany : ev_cb M_rd_hasTooMany 0 := ⟨List.mem_filter.mpr ⟨List.mem_append_right _ (List.mem_append_left _ (List.mem_of_getElem? (i := 3) rfl)), rfl⟩, List.mem_filter.mpr ⟨List.mem_append_right _ (List.mem_append_right _ (List.mem_append_left _ (List.mem_of_getElem? (i := 80) rfl))), rfl⟩, ⟨by decide +kernel, by decide +kernel, by decide +kernel⟩, by decide +kernel⟩
theorem iv_rd_hasTooMany : ev_iv M_rd_hasTooMany := ⟨List.mem_filter.mpr ⟨List.mem_append_right _ (List.mem_append_right _ (List.mem_append_left _ (List.mem_of_getElem? (i := 78) rfl))), rfl⟩, List.mem_filter.mpr ⟨List.mem_append_right _ (List.mem_append_right _ (List.mem_append_left _ (List.mem_of_getElem? (i := 79) rfl))), rfl⟩⟩
theorem cb_rd_result : ev_cb M_rd_result 0 := ⟨List.mem_filter.mpr ⟨List.mem_append_right _ (List.mem_append_left _ (List.mem_of_getElem? (i := 3) rfl)), rfl⟩, List.mem_filter.mpr ⟨List.mem_append_right _ (List.mem_append_right _ (List.mem_append_left _ (List.mem_of_getElem? (i := 84) rfl))), rfl⟩, ⟨by decide +kernel, by decide +kernel, by decide +kernel⟩, by decide +kernel⟩
theorem iv_rd_result : ev_iv M_rd_result := ⟨List.mem_filter.mpr ⟨List.mem_append_right _ (List.mem_append_right _ (List.mem_append_left _ (List.mem_of_getElem? (i := 82) rfl))), rfl⟩, List.mem_filter.mpr ⟨List.mem_append_right _ (List.mem_append_right _ (List.mem_append_left _ (List.mem_of_getElem? (i := 83) rfl))), rfl⟩⟩
theorem cb_rd_read : ev_cb M_rd_read 1 := ⟨List.mem_filter.mpr ⟨List.mem_append_right _ (List.mem_append_left _ (List.mem_of_getElem? (i := 3) rfl)), rfl⟩, List.mem_filter.mpr ⟨List.mem_append_right _ (List.mem_append_left _ (List.mem_of_getElem? (i := 233) rfl)), rfl⟩, ⟨by decide +kernel, by decide +kernel, by decide +kernel⟩, by decide +kernel⟩
theorem iv_rd_read : ev_iv M_rd_read := ⟨List.mem_filter.mpr ⟨List.mem_append_right _ (List.mem_append_left _ (List.mem_of_getElem? (i := 231) rfl)), rfl⟩, List.mem_filter.mpr ⟨List.mem_append_right _ (List.mem_append_left _ (List.mem_of_getElem? (i := 232) rfl)), rfl⟩⟩
theorem cb_rd_takes : ev_cb M_rd_takes 2 := ⟨List.mem_filter.mpr ⟨List.mem_append_right _ (List.mem_append_left _ (List.mem_of_getElem? (i := 3) rfl)), rfl⟩, List.mem_filter.mpr ⟨List.mem_append_right _ (List.mem_append_right _ (List.mem_append_left _ (List.mem_of_getElem? (i := 5) rfl))), rfl⟩, ⟨by decide +kernel, by decide +kernel, by decide +kernel⟩, by decide +kernel⟩
theorem iv_rd_takes : ev_iv M_rd_takes := ⟨List.mem_filter.mpr ⟨List.mem_append_right _ (List.mem_append_right _ (List.mem_append_left _ (List.mem_of_getElem? (i := 4) rfl))), rfl⟩, List.mem_filter.mpr ⟨List.mem_append_left _ (List.mem_of_getElem? (i := 2) rfl), rfl⟩⟩
theorem cb_rd_opens : ev_cb M_rd_opens 0 := ⟨List.mem_filter.mpr ⟨List.mem_append_right _ (List.mem_append_left _ (List.mem_of_getElem? (i := 3) rfl)), rfl⟩, List.mem_filter.mpr ⟨List.mem_append_right _ (List.mem_append_right _ (List.mem_append_left _ (List.mem_of_getElem? (i := 9) rfl))), rfl⟩, ⟨by decide +kernel, by decide +kernel, by decide +kernel⟩, by decide +kernel⟩
theorem iv_rd_opens : ev_iv M_rd_opens := ⟨List.mem_filter.mpr ⟨List.mem_append_right _ (List.mem_append_right _ (List.mem_append_left _ (List.mem_of_getElem? (i := 8) rfl))), rfl⟩, List.mem_filter.mpr ⟨List.mem_append_left _ (List.mem_of_getElem? (i := 3) rfl), rfl⟩⟩
theorem cb_rd_takesName : ev_cb M_rd_takesName 2 := ⟨List.mem_filter.mpr ⟨List.mem_append_right _ (List.mem_append_left _ (List.mem_of_getElem? (i := 3) rfl)), rfl⟩, List.mem_filter.mpr ⟨List.mem_append_right _ (List.mem_append_right _ (List.mem_append_left _ (List.mem_of_getElem? (i := 13) rfl))), rfl⟩, ⟨by decide +kernel, by decide +kernel, by decide +kernel⟩, by decide +kernel⟩
theorem iv_rd_takesName : ev_iv M_rd_takesName := ⟨List.mem_filter.mpr ⟨List.mem_append_right _ (List.mem_append_right _ (List.mem_append_left _ (List.mem_of_getElem? (i := 12) rfl))), rfl⟩, List.mem_filter.mpr ⟨List.mem_append_left _ (List.mem_of_getElem? (i := 4) rfl), rfl⟩⟩
theorem cb_rd_takesDigit : ev_cb M_rd_takesDigit 1 := ⟨List.mem_filter.mpr ⟨List.mem_append_right _ (List.mem_append_left _ (List.mem_of_getElem? (i := 3) rfl)), rfl⟩, List.mem_filter.mpr ⟨List.mem_append_right _ (List.mem_append_right _ (List.mem_append_left _ (List.mem_of_getElem? (i := 17) rfl))), rfl⟩, ⟨by decide +kernel, by decide +kernel, by decide +kernel⟩, by decide +kernel⟩
theorem iv_rd_takesDigit : ev_iv M_rd_takesDigit := ⟨List.mem_filter.mpr ⟨List.mem_append_right _ (List.mem_append_right _ (List.mem_append_left _ (List.mem_of_getElem? (i := 16) rfl))), rfl⟩, List.mem_filter.mpr ⟨List.mem_append_left _ (List.mem_of_getElem? (i := 5) rfl), rfl⟩⟩
theorem cb_rd_closes : ev_cb M_rd_closes 0 := ⟨List.mem_filter.mpr ⟨List.mem_append_right _ (List.mem_append_left _ (List.mem_of_getElem? (i := 3) rfl)), rfl⟩, List.mem_filter.mpr ⟨List.mem_append_right _ (List.mem_append_right _ (List.mem_append_left _ (List.mem_of_getElem? (i := 64) rfl))), rfl⟩, ⟨by decide +kernel, by decide +kernel, by decide +kernel⟩, by decide +kernel⟩
theorem iv_rd_closes : ev_iv M_rd_closes := ⟨List.mem_filter.mpr ⟨List.mem_append_right _ (List.mem_append_right _ (List.mem_append_left _ (List.mem_of_getElem? (i := 63) rfl))), rfl⟩, List.mem_filter.mpr ⟨List.mem_append_left _ (List.mem_of_getElem? (i := 11) rfl), rfl⟩⟩
theorem cb_rd_takesSign : ev_cb M_rd_takesSign 1 := ⟨List.mem_filter.mpr ⟨List.mem_append_right _ (List.mem_append_left _ (List.mem_of_getElem? (i := 3) rfl)), rfl⟩, List.mem_filter.mpr ⟨List.mem_append_right _ (List.mem_append_right _ (List.mem_append_left _ (List.mem_of_getElem? (i := 72) rfl))), rfl⟩, ⟨by decide +kernel, by decide +kernel, by decide +kernel⟩, by decide +kernel⟩
theorem iv_rd_takesSign : ev_iv M_rd_takesSign := ⟨List.mem_filter.mpr ⟨List.mem_append_right _ (List.mem_append_right _ (List.mem_append_left _ (List.mem_of_getElem? (i := 71) rfl))), rfl⟩, List.mem_filter.mpr ⟨List.mem_append_left _ (List.mem_of_getElem? (i := 13) rfl), rfl⟩⟩
theorem cb_rd_startLevel : ev_cb M_rd_startLevel 0 := ⟨List.mem_filter.mpr ⟨List.mem_append_right _ (List.mem_append_left _ (List.mem_of_getElem? (i := 3) rfl)), rfl⟩, List.mem_filter.mpr ⟨List.mem_append_right _ (List.mem_append_left _ (List.mem_of_getElem? (i := 237) rfl)), rfl⟩, ⟨by decide +kernel, by decide +kernel, by decide +kernel⟩, by decide +kernel⟩
theorem iv_rd_startLevel : ev_iv M_rd_startLevel := ⟨List.mem_filter.mpr ⟨List.mem_append_right _ (List.mem_append_left _ (List.mem_of_getElem? (i := 236) rfl)), rfl⟩, List.mem_filter.mpr ⟨List.mem_append_left _ (List.mem_of_getElem? (i := 1) rfl), rfl⟩⟩
theorem cb_rd_endName : ev_cb M_rd_endName 0 := ⟨List.mem_filter.mpr ⟨List.mem_append_right _ (List.mem_append_left _ (List.mem_of_getElem? (i := 3) rfl)), rfl⟩, List.mem_filter.mpr ⟨List.mem_append_right _ (List.mem_append_right _ (List.mem_append_left _ (List.mem_of_getElem? (i := 60) rfl))), rfl⟩, ⟨by decide +kernel, by decide +kernel, by decide +kernel⟩, by decide +kernel⟩
theorem iv_rd_endName : ev_iv M_rd_endName := ⟨List.mem_filter.mpr ⟨List.mem_append_right _ (List.mem_append_right _ (List.mem_append_left _ (List.mem_of_getElem? (i := 59) rfl))), rfl⟩, List.mem_filter.mpr ⟨List.mem_append_left _ (List.mem_of_getElem? (i := 10) rfl), rfl⟩⟩
theorem cb_rd_endAtom : ev_cb M_rd_endAtom 1 := ⟨List.mem_filter.mpr ⟨List.mem_append_right _ (List.mem_append_left _ (List.mem_of_getElem? (i := 3) rfl)), rfl⟩, List.mem_filter.mpr ⟨List.mem_append_right _ (List.mem_append_right _ (List.mem_append_left _ (List.mem_of_getElem? (i := 25) rfl))), rfl⟩, ⟨by decide +kernel, by decide +kernel, by decide +kernel⟩, by decide +kernel⟩
theorem iv_rd_endAtom : ev_iv M_rd_endAtom := ⟨List.mem_filter.mpr ⟨List.mem_append_right _ (List.mem_append_right _ (List.mem_append_left _ (List.mem_of_getElem? (i := 24) rfl))), rfl⟩, List.mem_filter.mpr ⟨List.mem_append_left _ (List.mem_of_getElem? (i := 6) rfl), rfl⟩⟩
theorem cb_rd_endAlso : ev_cb M_rd_endAlso 0 := ⟨List.mem_filter.mpr ⟨List.mem_append_right _ (List.mem_append_left _ (List.mem_of_getElem? (i := 3) rfl)), rfl⟩, List.mem_filter.mpr ⟨List.mem_append_right _ (List.mem_append_right _ (List.mem_append_left _ (List.mem_of_getElem? (i := 68) rfl))), rfl⟩, ⟨by decide +kernel, by decide +kernel, by decide +kernel⟩, by decide +kernel⟩
theorem iv_rd_endAlso : ev_iv M_rd_endAlso := ⟨List.mem_filter.mpr ⟨List.mem_append_right _ (List.mem_append_right _ (List.mem_append_left _ (List.mem_of_getElem? (i := 67) rfl))), rfl⟩, List.mem_filter.mpr ⟨List.mem_append_left _ (List.mem_of_getElem? (i := 12) rfl), rfl⟩⟩
theorem cb_rd_keepWork : ev_cb M_rd_keepWork 1 := ⟨List.mem_filter.mpr ⟨List.mem_append_right _ (List.mem_append_left _ (List.mem_of_getElem? (i := 3) rfl)), rfl⟩, List.mem_filter.mpr ⟨List.mem_append_right _ (List.mem_append_right _ (List.mem_append_left _ (List.mem_of_getElem? (i := 56) rfl))), rfl⟩, ⟨by decide +kernel, by decide +kernel, by decide +kernel⟩, by decide +kernel⟩
theorem iv_rd_keepWork : ev_iv M_rd_keepWork := ⟨List.mem_filter.mpr ⟨List.mem_append_right _ (List.mem_append_right _ (List.mem_append_left _ (List.mem_of_getElem? (i := 55) rfl))), rfl⟩, List.mem_filter.mpr ⟨List.mem_append_left _ (List.mem_of_getElem? (i := 9) rfl), rfl⟩⟩
theorem cb_rv_init : ev_cb M_rv_init 0 := ⟨List.mem_filter.mpr ⟨List.mem_append_right _ (List.mem_append_left _ (List.mem_of_getElem? (i := 6) rfl)), rfl⟩, List.mem_filter.mpr ⟨List.mem_append_right _ (List.mem_append_left _ (List.mem_of_getElem? (i := 105) rfl)), rfl⟩, ⟨by decide +kernel, by decide +kernel, by decide +kernel⟩, by decide +kernel⟩
theorem iv_rv_init : Cond.instanceMethod M_rv_init.1 ∈ ev_WS ∧ M_rv_init.1.name = "<init>" ∧ M_rv_init.2.2.2.1 = none := ⟨List.mem_filter.mpr ⟨List.mem_append_right _ (List.mem_append_left _ (List.mem_of_getElem? (i := 104) rfl)), rfl⟩, rfl, rfl⟩
theorem cb_rv_walk : ev_cb M_rv_walk 3 := ⟨List.mem_filter.mpr ⟨List.mem_append_right _ (List.mem_append_left _ (List.mem_of_getElem? (i := 6) rfl)), rfl⟩, List.mem_filter.mpr ⟨List.mem_append_right _ (List.mem_append_right _ (List.mem_append_left _ (List.mem_of_getElem? (i := 168) rfl))), rfl⟩, ⟨by decide +kernel, by decide +kernel, by decide +kernel⟩, by decide +kernel⟩
theorem iv_rv_walk : ev_iv M_rv_walk := ⟨List.mem_filter.mpr ⟨List.mem_append_right _ (List.mem_append_right _ (List.mem_append_left _ (List.mem_of_getElem? (i := 166) rfl))), rfl⟩, List.mem_filter.mpr ⟨List.mem_append_right _ (List.mem_append_right _ (List.mem_append_left _ (List.mem_of_getElem? (i := 167) rfl))), rfl⟩⟩
theorem cb_rv_addOnce : ev_cb M_rv_addOnce 3 := ⟨List.mem_filter.mpr ⟨List.mem_append_right _ (List.mem_append_left _ (List.mem_of_getElem? (i := 6) rfl)), rfl⟩, List.mem_filter.mpr ⟨List.mem_append_right _ (List.mem_append_right _ (List.mem_append_left _ (List.mem_of_getElem? (i := 172) rfl))), rfl⟩, ⟨by decide +kernel, by decide +kernel, by decide +kernel⟩, by decide +kernel⟩
theorem iv_rv_addOnce : ev_iv M_rv_addOnce := ⟨List.mem_filter.mpr ⟨List.mem_append_right _ (List.mem_append_right _ (List.mem_append_left _ (List.mem_of_getElem? (i := 171) rfl))), rfl⟩, List.mem_filter.mpr ⟨List.mem_append_left _ (List.mem_of_getElem? (i := 15) rfl), rfl⟩⟩
theorem cb_rv_judge : ev_cb M_rv_judge 3 := ⟨List.mem_filter.mpr ⟨List.mem_append_right _ (List.mem_append_left _ (List.mem_of_getElem? (i := 6) rfl)), rfl⟩, List.mem_filter.mpr ⟨List.mem_append_right _ (List.mem_append_right _ (List.mem_append_left _ (List.mem_of_getElem? (i := 177) rfl))), rfl⟩, ⟨by decide +kernel, by decide +kernel, by decide +kernel⟩, by decide +kernel⟩
theorem iv_rv_judge : ev_iv M_rv_judge := ⟨List.mem_filter.mpr ⟨List.mem_append_right _ (List.mem_append_right _ (List.mem_append_left _ (List.mem_of_getElem? (i := 175) rfl))), rfl⟩, List.mem_filter.mpr ⟨List.mem_append_right _ (List.mem_append_right _ (List.mem_append_left _ (List.mem_of_getElem? (i := 176) rfl))), rfl⟩⟩
theorem cb_rv_judgeOne : ev_cb M_rv_judgeOne 4 := ⟨List.mem_filter.mpr ⟨List.mem_append_right _ (List.mem_append_left _ (List.mem_of_getElem? (i := 6) rfl)), rfl⟩, List.mem_filter.mpr ⟨List.mem_append_right _ (List.mem_append_right _ (List.mem_append_left _ (List.mem_of_getElem? (i := 182) rfl))), rfl⟩, ⟨by decide +kernel, by decide +kernel, by decide +kernel⟩, by decide +kernel⟩
theorem iv_rv_judgeOne : ev_iv M_rv_judgeOne := ⟨List.mem_filter.mpr ⟨List.mem_append_right _ (List.mem_append_right _ (List.mem_append_left _ (List.mem_of_getElem? (i := 181) rfl))), rfl⟩, List.mem_filter.mpr ⟨List.mem_append_left _ (List.mem_of_getElem? (i := 16) rfl), rfl⟩⟩
theorem cb_rv_tell : ev_cb M_rv_tell 2 := ⟨List.mem_filter.mpr ⟨List.mem_append_right _ (List.mem_append_left _ (List.mem_of_getElem? (i := 6) rfl)), rfl⟩, List.mem_filter.mpr ⟨List.mem_append_right _ (List.mem_append_right _ (List.mem_append_left _ (List.mem_of_getElem? (i := 192) rfl))), rfl⟩, ⟨by decide +kernel, by decide +kernel, by decide +kernel⟩, by decide +kernel⟩
theorem iv_rv_tell : ev_iv M_rv_tell := ⟨List.mem_filter.mpr ⟨List.mem_append_right _ (List.mem_append_right _ (List.mem_append_left _ (List.mem_of_getElem? (i := 190) rfl))), rfl⟩, List.mem_filter.mpr ⟨List.mem_append_right _ (List.mem_append_right _ (List.mem_append_left _ (List.mem_of_getElem? (i := 191) rfl))), rfl⟩⟩
theorem cb_rv_joinedDuties : ev_cb M_rv_joinedDuties 0 := ⟨List.mem_filter.mpr ⟨List.mem_append_right _ (List.mem_append_left _ (List.mem_of_getElem? (i := 6) rfl)), rfl⟩, List.mem_filter.mpr ⟨List.mem_append_right _ (List.mem_append_right _ (List.mem_append_left _ (List.mem_of_getElem? (i := 200) rfl))), rfl⟩, ⟨by decide +kernel, by decide +kernel, by decide +kernel⟩, by decide +kernel⟩
theorem iv_rv_joinedDuties : ev_iv M_rv_joinedDuties := ⟨List.mem_filter.mpr ⟨List.mem_append_right _ (List.mem_append_right _ (List.mem_append_left _ (List.mem_of_getElem? (i := 198) rfl))), rfl⟩, List.mem_filter.mpr ⟨List.mem_append_right _ (List.mem_append_right _ (List.mem_append_left _ (List.mem_of_getElem? (i := 199) rfl))), rfl⟩⟩
theorem cb_rv_distinctPack : ev_cb M_rv_distinctPack 1 := ⟨List.mem_filter.mpr ⟨List.mem_append_right _ (List.mem_append_left _ (List.mem_of_getElem? (i := 6) rfl)), rfl⟩, List.mem_filter.mpr ⟨List.mem_append_right _ (List.mem_append_right _ (List.mem_append_left _ (List.mem_of_getElem? (i := 208) rfl))), rfl⟩, ⟨by decide +kernel, by decide +kernel, by decide +kernel⟩, by decide +kernel⟩
theorem iv_rv_distinctPack : ev_iv M_rv_distinctPack := ⟨List.mem_filter.mpr ⟨List.mem_append_right _ (List.mem_append_right _ (List.mem_append_left _ (List.mem_of_getElem? (i := 206) rfl))), rfl⟩, List.mem_filter.mpr ⟨List.mem_append_right _ (List.mem_append_right _ (List.mem_append_left _ (List.mem_of_getElem? (i := 207) rfl))), rfl⟩⟩
theorem cb_rv_isFirstOfItsPack : ev_cb M_rv_isFirstOfItsPack 1 := ⟨List.mem_filter.mpr ⟨List.mem_append_right _ (List.mem_append_left _ (List.mem_of_getElem? (i := 6) rfl)), rfl⟩, List.mem_filter.mpr ⟨List.mem_append_right _ (List.mem_append_right _ (List.mem_append_left _ (List.mem_of_getElem? (i := 212) rfl))), rfl⟩, ⟨by decide +kernel, by decide +kernel, by decide +kernel⟩, by decide +kernel⟩
theorem iv_rv_isFirstOfItsPack : ev_iv M_rv_isFirstOfItsPack := ⟨List.mem_filter.mpr ⟨List.mem_append_right _ (List.mem_append_right _ (List.mem_append_left _ (List.mem_of_getElem? (i := 211) rfl))), rfl⟩, List.mem_filter.mpr ⟨List.mem_append_left _ (List.mem_of_getElem? (i := 17) rfl), rfl⟩⟩
theorem cb_ru_init : ev_cb M_ru_init 0 := ⟨List.mem_filter.mpr ⟨List.mem_append_right _ (List.mem_append_left _ (List.mem_of_getElem? (i := 2) rfl)), rfl⟩, List.mem_filter.mpr ⟨List.mem_append_right _ (List.mem_append_left _ (List.mem_of_getElem? (i := 24) rfl)), rfl⟩, ⟨by decide +kernel, by decide +kernel, by decide +kernel⟩, by decide +kernel⟩
theorem iv_ru_init : Cond.instanceMethod M_ru_init.1 ∈ ev_WS ∧ M_ru_init.1.name = "<init>" ∧ M_ru_init.2.2.2.1 = none := ⟨List.mem_filter.mpr ⟨List.mem_append_right _ (List.mem_append_left _ (List.mem_of_getElem? (i := 23) rfl)), rfl⟩, rfl, rfl⟩
theorem cb_ru_licenceCount : ev_cb M_ru_licenceCount 0 := ⟨List.mem_filter.mpr ⟨List.mem_append_right _ (List.mem_append_left _ (List.mem_of_getElem? (i := 2) rfl)), rfl⟩, List.mem_filter.mpr ⟨List.mem_append_right _ (List.mem_append_left _ (List.mem_of_getElem? (i := 229) rfl)), rfl⟩, ⟨by decide +kernel, by decide +kernel, by decide +kernel⟩, by decide +kernel⟩
theorem iv_ru_licenceCount : ev_iv M_ru_licenceCount := ⟨List.mem_filter.mpr ⟨List.mem_append_right _ (List.mem_append_left _ (List.mem_of_getElem? (i := 227) rfl)), rfl⟩, List.mem_filter.mpr ⟨List.mem_append_right _ (List.mem_append_left _ (List.mem_of_getElem? (i := 228) rfl)), rfl⟩⟩
theorem cb_ru_addLicence : ev_cb M_ru_addLicence 1 := ⟨List.mem_filter.mpr ⟨List.mem_append_right _ (List.mem_append_left _ (List.mem_of_getElem? (i := 2) rfl)), rfl⟩, List.mem_filter.mpr ⟨List.mem_append_right _ (List.mem_append_left _ (List.mem_of_getElem? (i := 152) rfl)), rfl⟩, ⟨by decide +kernel, by decide +kernel, by decide +kernel⟩, by decide +kernel⟩
theorem iv_ru_addLicence : ev_iv M_ru_addLicence := ⟨List.mem_filter.mpr ⟨List.mem_append_right _ (List.mem_append_left _ (List.mem_of_getElem? (i := 150) rfl)), rfl⟩, List.mem_filter.mpr ⟨List.mem_append_right _ (List.mem_append_left _ (List.mem_of_getElem? (i := 151) rfl)), rfl⟩⟩
theorem cb_ru_hasLicence : ev_cb M_ru_hasLicence 1 := ⟨List.mem_filter.mpr ⟨List.mem_append_right _ (List.mem_append_left _ (List.mem_of_getElem? (i := 2) rfl)), rfl⟩, List.mem_filter.mpr ⟨List.mem_append_right _ (List.mem_append_left _ (List.mem_of_getElem? (i := 160) rfl)), rfl⟩, ⟨by decide +kernel, by decide +kernel, by decide +kernel⟩, by decide +kernel⟩
theorem iv_ru_hasLicence : ev_iv M_ru_hasLicence := ⟨List.mem_filter.mpr ⟨List.mem_append_right _ (List.mem_append_left _ (List.mem_of_getElem? (i := 158) rfl)), rfl⟩, List.mem_filter.mpr ⟨List.mem_append_right _ (List.mem_append_left _ (List.mem_of_getElem? (i := 159) rfl)), rfl⟩⟩
theorem cb_ru_setTerms : ev_cb M_ru_setTerms 3 := ⟨List.mem_filter.mpr ⟨List.mem_append_right _ (List.mem_append_left _ (List.mem_of_getElem? (i := 2) rfl)), rfl⟩, List.mem_filter.mpr ⟨List.mem_append_right _ (List.mem_append_left _ (List.mem_of_getElem? (i := 167) rfl)), rfl⟩, ⟨by decide +kernel, by decide +kernel, by decide +kernel⟩, by decide +kernel⟩
theorem iv_ru_setTerms : ev_iv M_ru_setTerms := ⟨List.mem_filter.mpr ⟨List.mem_append_right _ (List.mem_append_left _ (List.mem_of_getElem? (i := 165) rfl)), rfl⟩, List.mem_filter.mpr ⟨List.mem_append_right _ (List.mem_append_left _ (List.mem_of_getElem? (i := 166) rfl)), rfl⟩⟩
theorem cb_ru_setLifted : ev_cb M_ru_setLifted 3 := ⟨List.mem_filter.mpr ⟨List.mem_append_right _ (List.mem_append_left _ (List.mem_of_getElem? (i := 2) rfl)), rfl⟩, List.mem_filter.mpr ⟨List.mem_append_right _ (List.mem_append_left _ (List.mem_of_getElem? (i := 175) rfl)), rfl⟩, ⟨by decide +kernel, by decide +kernel, by decide +kernel⟩, by decide +kernel⟩
theorem iv_ru_setLifted : ev_iv M_ru_setLifted := ⟨List.mem_filter.mpr ⟨List.mem_append_right _ (List.mem_append_left _ (List.mem_of_getElem? (i := 173) rfl)), rfl⟩, List.mem_filter.mpr ⟨List.mem_append_right _ (List.mem_append_left _ (List.mem_of_getElem? (i := 174) rfl)), rfl⟩⟩
theorem cb_ru_termsOfCode : ev_cb M_ru_termsOfCode 2 := ⟨List.mem_filter.mpr ⟨List.mem_append_right _ (List.mem_append_left _ (List.mem_of_getElem? (i := 2) rfl)), rfl⟩, List.mem_filter.mpr ⟨List.mem_append_right _ (List.mem_append_right _ (List.mem_append_left _ (List.mem_of_getElem? (i := 120) rfl))), rfl⟩, ⟨by decide +kernel, by decide +kernel, by decide +kernel⟩, by decide +kernel⟩
theorem iv_ru_termsOfCode : ev_iv M_ru_termsOfCode := ⟨List.mem_filter.mpr ⟨List.mem_append_right _ (List.mem_append_right _ (List.mem_append_left _ (List.mem_of_getElem? (i := 119) rfl))), rfl⟩, List.mem_filter.mpr ⟨List.mem_append_left _ (List.mem_of_getElem? (i := 14) rfl), rfl⟩⟩
theorem cb_ru_termsOf : ev_cb M_ru_termsOf 3 := ⟨List.mem_filter.mpr ⟨List.mem_append_right _ (List.mem_append_left _ (List.mem_of_getElem? (i := 2) rfl)), rfl⟩, List.mem_filter.mpr ⟨List.mem_append_right _ (List.mem_append_right _ (List.mem_append_left _ (List.mem_of_getElem? (i := 115) rfl))), rfl⟩, ⟨by decide +kernel, by decide +kernel, by decide +kernel⟩, by decide +kernel⟩
theorem iv_ru_termsOf : ev_iv M_ru_termsOf := ⟨List.mem_filter.mpr ⟨List.mem_append_right _ (List.mem_append_right _ (List.mem_append_left _ (List.mem_of_getElem? (i := 113) rfl))), rfl⟩, List.mem_filter.mpr ⟨List.mem_append_right _ (List.mem_append_right _ (List.mem_append_left _ (List.mem_of_getElem? (i := 114) rfl))), rfl⟩⟩
theorem cb_ru_bestOf : ev_cb M_ru_bestOf 2 := ⟨List.mem_filter.mpr ⟨List.mem_append_right _ (List.mem_append_left _ (List.mem_of_getElem? (i := 2) rfl)), rfl⟩, List.mem_filter.mpr ⟨List.mem_append_right _ (List.mem_append_right _ (List.mem_append_left _ (List.mem_of_getElem? (i := 110) rfl))), rfl⟩, ⟨by decide +kernel, by decide +kernel, by decide +kernel⟩, by decide +kernel⟩
theorem iv_ru_bestOf : ev_iv M_ru_bestOf := ⟨List.mem_filter.mpr ⟨List.mem_append_right _ (List.mem_append_right _ (List.mem_append_left _ (List.mem_of_getElem? (i := 108) rfl))), rfl⟩, List.mem_filter.mpr ⟨List.mem_append_right _ (List.mem_append_right _ (List.mem_append_left _ (List.mem_of_getElem? (i := 109) rfl))), rfl⟩⟩
theorem cb_ru_scoreOf : ev_cb M_ru_scoreOf 2 := ⟨List.mem_filter.mpr ⟨List.mem_append_right _ (List.mem_append_left _ (List.mem_of_getElem? (i := 2) rfl)), rfl⟩, List.mem_filter.mpr ⟨List.mem_append_right _ (List.mem_append_right _ (List.mem_append_left _ (List.mem_of_getElem? (i := 220) rfl))), rfl⟩, ⟨by decide +kernel, by decide +kernel, by decide +kernel⟩, by decide +kernel⟩
theorem iv_ru_scoreOf : ev_iv M_ru_scoreOf := ⟨List.mem_filter.mpr ⟨List.mem_append_right _ (List.mem_append_right _ (List.mem_append_left _ (List.mem_of_getElem? (i := 218) rfl))), rfl⟩, List.mem_filter.mpr ⟨List.mem_append_right _ (List.mem_append_right _ (List.mem_append_left _ (List.mem_of_getElem? (i := 219) rfl))), rfl⟩⟩
theorem cb_lr_init : ev_cb M_lr_init 0 := ⟨List.mem_filter.mpr ⟨List.mem_append_right _ (List.mem_append_left _ (List.mem_of_getElem? (i := 1) rfl)), rfl⟩, List.mem_filter.mpr ⟨List.mem_append_right _ (List.mem_append_left _ (List.mem_of_getElem? (i := 16) rfl)), rfl⟩, ⟨by decide +kernel, by decide +kernel, by decide +kernel⟩, by decide +kernel⟩
theorem iv_lr_init : Cond.instanceMethod M_lr_init.1 ∈ ev_WS ∧ M_lr_init.1.name = "<init>" ∧ M_lr_init.2.2.2.1 = none := ⟨List.mem_filter.mpr ⟨List.mem_append_right _ (List.mem_append_left _ (List.mem_of_getElem? (i := 15) rfl)), rfl⟩, rfl, rfl⟩
theorem cb_lr_licence : ev_cb M_lr_licence 1 := ⟨List.mem_filter.mpr ⟨List.mem_append_right _ (List.mem_append_left _ (List.mem_of_getElem? (i := 1) rfl)), rfl⟩, List.mem_filter.mpr ⟨List.mem_append_right _ (List.mem_append_left _ (List.mem_of_getElem? (i := 148) rfl)), rfl⟩, ⟨by decide +kernel, by decide +kernel, by decide +kernel⟩, by decide +kernel⟩
theorem iv_lr_licence : ev_iv M_lr_licence := ⟨List.mem_filter.mpr ⟨List.mem_append_right _ (List.mem_append_left _ (List.mem_of_getElem? (i := 146) rfl)), rfl⟩, List.mem_filter.mpr ⟨List.mem_append_right _ (List.mem_append_left _ (List.mem_of_getElem? (i := 147) rfl)), rfl⟩⟩
theorem cb_lr_rule : ev_cb M_lr_rule 4 := ⟨List.mem_filter.mpr ⟨List.mem_append_right _ (List.mem_append_left _ (List.mem_of_getElem? (i := 1) rfl)), rfl⟩, List.mem_filter.mpr ⟨List.mem_append_right _ (List.mem_append_left _ (List.mem_of_getElem? (i := 156) rfl)), rfl⟩, ⟨by decide +kernel, by decide +kernel, by decide +kernel⟩, by decide +kernel⟩
theorem iv_lr_rule : ev_iv M_lr_rule := ⟨List.mem_filter.mpr ⟨List.mem_append_right _ (List.mem_append_left _ (List.mem_of_getElem? (i := 154) rfl)), rfl⟩, List.mem_filter.mpr ⟨List.mem_append_right _ (List.mem_append_left _ (List.mem_of_getElem? (i := 155) rfl)), rfl⟩⟩
theorem cb_lr_lifts : ev_cb M_lr_lifts 3 := ⟨List.mem_filter.mpr ⟨List.mem_append_right _ (List.mem_append_left _ (List.mem_of_getElem? (i := 1) rfl)), rfl⟩, List.mem_filter.mpr ⟨List.mem_append_right _ (List.mem_append_left _ (List.mem_of_getElem? (i := 171) rfl)), rfl⟩, ⟨by decide +kernel, by decide +kernel, by decide +kernel⟩, by decide +kernel⟩
theorem iv_lr_lifts : ev_iv M_lr_lifts := ⟨List.mem_filter.mpr ⟨List.mem_append_right _ (List.mem_append_left _ (List.mem_of_getElem? (i := 169) rfl)), rfl⟩, List.mem_filter.mpr ⟨List.mem_append_right _ (List.mem_append_left _ (List.mem_of_getElem? (i := 170) rfl)), rfl⟩⟩
theorem cb_lr_type : ev_cb M_lr_type 1 := ⟨List.mem_filter.mpr ⟨List.mem_append_right _ (List.mem_append_left _ (List.mem_of_getElem? (i := 1) rfl)), rfl⟩, List.mem_filter.mpr ⟨List.mem_append_right _ (List.mem_append_left _ (List.mem_of_getElem? (i := 179) rfl)), rfl⟩, ⟨by decide +kernel, by decide +kernel, by decide +kernel⟩, by decide +kernel⟩
theorem iv_lr_type : ev_iv M_lr_type := ⟨List.mem_filter.mpr ⟨List.mem_append_right _ (List.mem_append_left _ (List.mem_of_getElem? (i := 177) rfl)), rfl⟩, List.mem_filter.mpr ⟨List.mem_append_right _ (List.mem_append_left _ (List.mem_of_getElem? (i := 178) rfl)), rfl⟩⟩
theorem cb_lr_pack : ev_cb M_lr_pack 0 := ⟨List.mem_filter.mpr ⟨List.mem_append_right _ (List.mem_append_left _ (List.mem_of_getElem? (i := 1) rfl)), rfl⟩, List.mem_filter.mpr ⟨List.mem_append_right _ (List.mem_append_left _ (List.mem_of_getElem? (i := 187) rfl)), rfl⟩, ⟨by decide +kernel, by decide +kernel, by decide +kernel⟩, by decide +kernel⟩
theorem iv_lr_pack : ev_iv M_lr_pack := ⟨List.mem_filter.mpr ⟨List.mem_append_right _ (List.mem_append_left _ (List.mem_of_getElem? (i := 185) rfl)), rfl⟩, List.mem_filter.mpr ⟨List.mem_append_right _ (List.mem_append_left _ (List.mem_of_getElem? (i := 186) rfl)), rfl⟩⟩
theorem cb_lr_express : ev_cb M_lr_express 1 := ⟨List.mem_filter.mpr ⟨List.mem_append_right _ (List.mem_append_left _ (List.mem_of_getElem? (i := 1) rfl)), rfl⟩, List.mem_filter.mpr ⟨List.mem_append_right _ (List.mem_append_left _ (List.mem_of_getElem? (i := 221) rfl)), rfl⟩, ⟨by decide +kernel, by decide +kernel, by decide +kernel⟩, by decide +kernel⟩
theorem iv_lr_express : ev_iv M_lr_express := ⟨List.mem_filter.mpr ⟨List.mem_append_right _ (List.mem_append_left _ (List.mem_of_getElem? (i := 219) rfl)), rfl⟩, List.mem_filter.mpr ⟨List.mem_append_right _ (List.mem_append_left _ (List.mem_of_getElem? (i := 220) rfl)), rfl⟩⟩
theorem cb_lr_choices : ev_cb M_lr_choices 1 := ⟨List.mem_filter.mpr ⟨List.mem_append_right _ (List.mem_append_left _ (List.mem_of_getElem? (i := 1) rfl)), rfl⟩, List.mem_filter.mpr ⟨List.mem_append_right _ (List.mem_append_right _ (List.mem_append_left _ (List.mem_of_getElem? (i := 90) rfl))), rfl⟩, ⟨by decide +kernel, by decide +kernel, by decide +kernel⟩, by decide +kernel⟩
theorem iv_lr_choices : ev_iv M_lr_choices := ⟨List.mem_filter.mpr ⟨List.mem_append_right _ (List.mem_append_right _ (List.mem_append_left _ (List.mem_of_getElem? (i := 88) rfl))), rfl⟩, List.mem_filter.mpr ⟨List.mem_append_right _ (List.mem_append_right _ (List.mem_append_left _ (List.mem_of_getElem? (i := 89) rfl))), rfl⟩⟩
theorem cb_lr_pair : ev_cb M_lr_pair 3 := ⟨List.mem_filter.mpr ⟨List.mem_append_right _ (List.mem_append_left _ (List.mem_of_getElem? (i := 1) rfl)), rfl⟩, List.mem_filter.mpr ⟨List.mem_append_right _ (List.mem_append_right _ (List.mem_append_left _ (List.mem_of_getElem? (i := 94) rfl))), rfl⟩, ⟨by decide +kernel, by decide +kernel, by decide +kernel⟩, by decide +kernel⟩
theorem iv_lr_pair : ev_iv M_lr_pair := ⟨List.mem_filter.mpr ⟨List.mem_append_right _ (List.mem_append_right _ (List.mem_append_left _ (List.mem_of_getElem? (i := 92) rfl))), rfl⟩, List.mem_filter.mpr ⟨List.mem_append_right _ (List.mem_append_right _ (List.mem_append_left _ (List.mem_of_getElem? (i := 93) rfl))), rfl⟩⟩
theorem cb_lr_best : ev_cb M_lr_best 2 := ⟨List.mem_filter.mpr ⟨List.mem_append_right _ (List.mem_append_left _ (List.mem_of_getElem? (i := 1) rfl)), rfl⟩, List.mem_filter.mpr ⟨List.mem_append_right _ (List.mem_append_right _ (List.mem_append_left _ (List.mem_of_getElem? (i := 106) rfl))), rfl⟩, ⟨by decide +kernel, by decide +kernel, by decide +kernel⟩, by decide +kernel⟩
theorem iv_lr_best : ev_iv M_lr_best := ⟨List.mem_filter.mpr ⟨List.mem_append_right _ (List.mem_append_right _ (List.mem_append_left _ (List.mem_of_getElem? (i := 104) rfl))), rfl⟩, List.mem_filter.mpr ⟨List.mem_append_right _ (List.mem_append_right _ (List.mem_append_left _ (List.mem_of_getElem? (i := 105) rfl))), rfl⟩⟩
theorem cb_lr_duties : ev_cb M_lr_duties 2 := ⟨List.mem_filter.mpr ⟨List.mem_append_right _ (List.mem_append_left _ (List.mem_of_getElem? (i := 1) rfl)), rfl⟩, List.mem_filter.mpr ⟨List.mem_append_right _ (List.mem_append_right _ (List.mem_append_left _ (List.mem_of_getElem? (i := 140) rfl))), rfl⟩, ⟨by decide +kernel, by decide +kernel, by decide +kernel⟩, by decide +kernel⟩
theorem iv_lr_duties : ev_iv M_lr_duties := ⟨List.mem_filter.mpr ⟨List.mem_append_right _ (List.mem_append_right _ (List.mem_append_left _ (List.mem_of_getElem? (i := 138) rfl))), rfl⟩, List.mem_filter.mpr ⟨List.mem_append_right _ (List.mem_append_right _ (List.mem_append_left _ (List.mem_of_getElem? (i := 139) rfl))), rfl⟩⟩
theorem cb_lr_uses : ev_cb M_lr_uses 3 := ⟨List.mem_filter.mpr ⟨List.mem_append_right _ (List.mem_append_left _ (List.mem_of_getElem? (i := 1) rfl)), rfl⟩, List.mem_filter.mpr ⟨List.mem_append_right _ (List.mem_append_right _ (List.mem_append_left _ (List.mem_of_getElem? (i := 146) rfl))), rfl⟩, ⟨by decide +kernel, by decide +kernel, by decide +kernel⟩, by decide +kernel⟩
theorem iv_lr_uses : ev_iv M_lr_uses := ⟨List.mem_filter.mpr ⟨List.mem_append_right _ (List.mem_append_right _ (List.mem_append_left _ (List.mem_of_getElem? (i := 144) rfl))), rfl⟩, List.mem_filter.mpr ⟨List.mem_append_right _ (List.mem_append_right _ (List.mem_append_left _ (List.mem_of_getElem? (i := 145) rfl))), rfl⟩⟩
theorem cb_lr_grant : ev_cb M_lr_grant 2 := ⟨List.mem_filter.mpr ⟨List.mem_append_right _ (List.mem_append_left _ (List.mem_of_getElem? (i := 1) rfl)), rfl⟩, List.mem_filter.mpr ⟨List.mem_append_right _ (List.mem_append_right _ (List.mem_append_left _ (List.mem_of_getElem? (i := 154) rfl))), rfl⟩, ⟨by decide +kernel, by decide +kernel, by decide +kernel⟩, by decide +kernel⟩
theorem iv_lr_grant : ev_iv M_lr_grant := ⟨List.mem_filter.mpr ⟨List.mem_append_right _ (List.mem_append_right _ (List.mem_append_left _ (List.mem_of_getElem? (i := 152) rfl))), rfl⟩, List.mem_filter.mpr ⟨List.mem_append_right _ (List.mem_append_right _ (List.mem_append_left _ (List.mem_of_getElem? (i := 153) rfl))), rfl⟩⟩
theorem cb_lr_tick : ev_cb M_lr_tick 1 := ⟨List.mem_filter.mpr ⟨List.mem_append_right _ (List.mem_append_left _ (List.mem_of_getElem? (i := 1) rfl)), rfl⟩, List.mem_filter.mpr ⟨List.mem_append_right _ (List.mem_append_right _ (List.mem_append_left _ (List.mem_of_getElem? (i := 158) rfl))), rfl⟩, ⟨by decide +kernel, by decide +kernel, by decide +kernel⟩, by decide +kernel⟩
theorem iv_lr_tick : ev_iv M_lr_tick := ⟨List.mem_filter.mpr ⟨List.mem_append_right _ (List.mem_append_right _ (List.mem_append_left _ (List.mem_of_getElem? (i := 156) rfl))), rfl⟩, List.mem_filter.mpr ⟨List.mem_append_right _ (List.mem_append_right _ (List.mem_append_left _ (List.mem_of_getElem? (i := 157) rfl))), rfl⟩⟩
theorem cb_lr_review : ev_cb M_lr_review 2 := ⟨List.mem_filter.mpr ⟨List.mem_append_right _ (List.mem_append_left _ (List.mem_of_getElem? (i := 1) rfl)), rfl⟩, List.mem_filter.mpr ⟨List.mem_append_right _ (List.mem_append_right _ (List.mem_append_left _ (List.mem_of_getElem? (i := 164) rfl))), rfl⟩, ⟨by decide +kernel, by decide +kernel, by decide +kernel⟩, by decide +kernel⟩
theorem iv_lr_review : ev_iv M_lr_review := ⟨List.mem_filter.mpr ⟨List.mem_append_right _ (List.mem_append_right _ (List.mem_append_left _ (List.mem_of_getElem? (i := 162) rfl))), rfl⟩, List.mem_filter.mpr ⟨List.mem_append_right _ (List.mem_append_right _ (List.mem_append_left _ (List.mem_of_getElem? (i := 163) rfl))), rfl⟩⟩
theorem cb_lr_entry : ev_cb M_lr_entry 2 := ⟨List.mem_filter.mpr ⟨List.mem_append_right _ (List.mem_append_left _ (List.mem_of_getElem? (i := 1) rfl)), rfl⟩, List.mem_filter.mpr ⟨List.mem_append_right _ (List.mem_append_right _ (List.mem_append_left _ (List.mem_of_getElem? (i := 188) rfl))), rfl⟩, ⟨by decide +kernel, by decide +kernel, by decide +kernel⟩, by decide +kernel⟩
theorem iv_lr_entry : ev_iv M_lr_entry := ⟨List.mem_filter.mpr ⟨List.mem_append_right _ (List.mem_append_right _ (List.mem_append_left _ (List.mem_of_getElem? (i := 186) rfl))), rfl⟩, List.mem_filter.mpr ⟨List.mem_append_right _ (List.mem_append_right _ (List.mem_append_left _ (List.mem_of_getElem? (i := 187) rfl))), rfl⟩⟩
theorem cb_lr_all : ev_cb M_lr_all 0 := ⟨List.mem_filter.mpr ⟨List.mem_append_right _ (List.mem_append_left _ (List.mem_of_getElem? (i := 1) rfl)), rfl⟩, List.mem_filter.mpr ⟨List.mem_append_right _ (List.mem_append_right _ (List.mem_append_left _ (List.mem_of_getElem? (i := 196) rfl))), rfl⟩, ⟨by decide +kernel, by decide +kernel, by decide +kernel⟩, by decide +kernel⟩
theorem iv_lr_all : ev_iv M_lr_all := ⟨List.mem_filter.mpr ⟨List.mem_append_right _ (List.mem_append_right _ (List.mem_append_left _ (List.mem_of_getElem? (i := 194) rfl))), rfl⟩, List.mem_filter.mpr ⟨List.mem_append_right _ (List.mem_append_right _ (List.mem_append_left _ (List.mem_of_getElem? (i := 195) rfl))), rfl⟩⟩
theorem cb_lr_material : ev_cb M_lr_material 1 := ⟨List.mem_filter.mpr ⟨List.mem_append_right _ (List.mem_append_left _ (List.mem_of_getElem? (i := 1) rfl)), rfl⟩, List.mem_filter.mpr ⟨List.mem_append_right _ (List.mem_append_right _ (List.mem_append_left _ (List.mem_of_getElem? (i := 204) rfl))), rfl⟩, ⟨by decide +kernel, by decide +kernel, by decide +kernel⟩, by decide +kernel⟩
theorem iv_lr_material : ev_iv M_lr_material := ⟨List.mem_filter.mpr ⟨List.mem_append_right _ (List.mem_append_right _ (List.mem_append_left _ (List.mem_of_getElem? (i := 202) rfl))), rfl⟩, List.mem_filter.mpr ⟨List.mem_append_right _ (List.mem_append_right _ (List.mem_append_left _ (List.mem_of_getElem? (i := 203) rfl))), rfl⟩⟩
theorem cb_lr_found : ev_cb M_lr_found 2 := ⟨List.mem_filter.mpr ⟨List.mem_append_right _ (List.mem_append_left _ (List.mem_of_getElem? (i := 1) rfl)), rfl⟩, List.mem_filter.mpr ⟨List.mem_append_right _ (List.mem_append_right _ (List.mem_append_left _ (List.mem_of_getElem? (i := 216) rfl))), rfl⟩, ⟨by decide +kernel, by decide +kernel, by decide +kernel⟩, by decide +kernel⟩
theorem iv_lr_found : ev_iv M_lr_found := ⟨List.mem_filter.mpr ⟨List.mem_append_right _ (List.mem_append_right _ (List.mem_append_left _ (List.mem_of_getElem? (i := 214) rfl))), rfl⟩, List.mem_filter.mpr ⟨List.mem_append_right _ (List.mem_append_right _ (List.mem_append_left _ (List.mem_of_getElem? (i := 215) rfl))), rfl⟩⟩
theorem cb_lr_score : ev_cb M_lr_score 2 := ⟨List.mem_filter.mpr ⟨List.mem_append_right _ (List.mem_append_left _ (List.mem_of_getElem? (i := 1) rfl)), rfl⟩, List.mem_filter.mpr ⟨List.mem_append_right _ (List.mem_append_right _ (List.mem_append_left _ (List.mem_of_getElem? (i := 225) rfl))), rfl⟩, ⟨by decide +kernel, by decide +kernel, by decide +kernel⟩, by decide +kernel⟩
theorem iv_lr_score : ev_iv M_lr_score := ⟨List.mem_filter.mpr ⟨List.mem_append_right _ (List.mem_append_right _ (List.mem_append_left _ (List.mem_of_getElem? (i := 223) rfl))), rfl⟩, List.mem_filter.mpr ⟨List.mem_append_right _ (List.mem_append_right _ (List.mem_append_left _ (List.mem_of_getElem? (i := 224) rfl))), rfl⟩⟩
theorem cb_lr_isWay : ev_cb M_lr_isWay 1 := ⟨List.mem_filter.mpr ⟨List.mem_append_right _ (List.mem_append_left _ (List.mem_of_getElem? (i := 1) rfl)), rfl⟩, List.mem_filter.mpr ⟨List.mem_append_right _ (List.mem_append_left _ (List.mem_of_getElem? (i := 163) rfl)), rfl⟩, ⟨by decide +kernel, by decide +kernel, by decide +kernel⟩, by decide +kernel⟩
theorem sv_lr_isWay : Cond.static M_lr_isWay.1 ∈ ev_WS := List.mem_filter.mpr ⟨List.mem_append_right _ (List.mem_append_left _ (List.mem_of_getElem? (i := 162) rfl)), rfl⟩
theorem cb_lr_packAt : ev_cb M_lr_packAt 1 := ⟨List.mem_filter.mpr ⟨List.mem_append_right _ (List.mem_append_left _ (List.mem_of_getElem? (i := 1) rfl)), rfl⟩, List.mem_filter.mpr ⟨List.mem_append_right _ (List.mem_append_left _ (List.mem_of_getElem? (i := 225) rfl)), rfl⟩, ⟨by decide +kernel, by decide +kernel, by decide +kernel⟩, by decide +kernel⟩
theorem iv_lr_packAt : ev_iv M_lr_packAt := ⟨List.mem_filter.mpr ⟨List.mem_append_right _ (List.mem_append_left _ (List.mem_of_getElem? (i := 224) rfl)), rfl⟩, List.mem_filter.mpr ⟨List.mem_append_left _ (List.mem_of_getElem? (i := 0) rfl), rfl⟩⟩
theorem cb_mo_init : ev_cb M_mo_init 0 := ⟨List.mem_filter.mpr ⟨List.mem_append_right _ (List.mem_append_left _ (List.mem_of_getElem? (i := 7) rfl)), rfl⟩, List.mem_filter.mpr ⟨List.mem_append_right _ (List.mem_append_right _ (List.mem_append_left _ (List.mem_of_getElem? (i := 230) rfl))), rfl⟩, ⟨by decide +kernel, by decide +kernel, by decide +kernel⟩, by decide +kernel⟩
theorem iv_mo_init : Cond.instanceMethod M_mo_init.1 ∈ ev_WS ∧ M_mo_init.1.name = "<init>" ∧ M_mo_init.2.2.2.1 = none := ⟨List.mem_filter.mpr ⟨List.mem_append_right _ (List.mem_append_right _ (List.mem_append_left _ (List.mem_of_getElem? (i := 229) rfl))), rfl⟩, rfl, rfl⟩
theorem cb_mo_isLicence : ev_cb M_mo_isLicence 1 := ⟨List.mem_filter.mpr ⟨List.mem_append_right _ (List.mem_append_left _ (List.mem_of_getElem? (i := 7) rfl)), rfl⟩, List.mem_filter.mpr ⟨List.mem_append_right _ (List.mem_append_right _ (List.mem_append_right _ (List.mem_of_getElem? (i := 110) rfl))), rfl⟩, ⟨by decide +kernel, by decide +kernel, by decide +kernel⟩, by decide +kernel⟩
theorem iv_mo_isLicence : ev_iv M_mo_isLicence := ⟨List.mem_filter.mpr ⟨List.mem_append_right _ (List.mem_append_right _ (List.mem_append_right _ (List.mem_of_getElem? (i := 109) rfl))), rfl⟩, List.mem_filter.mpr ⟨List.mem_append_left _ (List.mem_of_getElem? (i := 18) rfl), rfl⟩⟩
theorem cb_mo_isPack : ev_cb M_mo_isPack 1 := ⟨List.mem_filter.mpr ⟨List.mem_append_right _ (List.mem_append_left _ (List.mem_of_getElem? (i := 7) rfl)), rfl⟩, List.mem_filter.mpr ⟨List.mem_append_right _ (List.mem_append_right _ (List.mem_append_right _ (List.mem_of_getElem? (i := 157) rfl))), rfl⟩, ⟨by decide +kernel, by decide +kernel, by decide +kernel⟩, by decide +kernel⟩
theorem iv_mo_isPack : ev_iv M_mo_isPack := ⟨List.mem_filter.mpr ⟨List.mem_append_right _ (List.mem_append_right _ (List.mem_append_right _ (List.mem_of_getElem? (i := 156) rfl))), rfl⟩, List.mem_filter.mpr ⟨List.mem_append_left _ (List.mem_of_getElem? (i := 25) rfl), rfl⟩⟩
theorem cb_mo_isWay : ev_cb M_mo_isWay 1 := ⟨List.mem_filter.mpr ⟨List.mem_append_right _ (List.mem_append_left _ (List.mem_of_getElem? (i := 7) rfl)), rfl⟩, List.mem_filter.mpr ⟨List.mem_append_right _ (List.mem_append_right _ (List.mem_append_right _ (List.mem_of_getElem? (i := 113) rfl))), rfl⟩, ⟨by decide +kernel, by decide +kernel, by decide +kernel⟩, by decide +kernel⟩
theorem sv_mo_isWay : Cond.static M_mo_isWay.1 ∈ ev_WS := List.mem_filter.mpr ⟨List.mem_append_right _ (List.mem_append_right _ (List.mem_append_right _ (List.mem_of_getElem? (i := 112) rfl))), rfl⟩
theorem cb_mo_licence : ev_cb M_mo_licence 1 := ⟨List.mem_filter.mpr ⟨List.mem_append_right _ (List.mem_append_left _ (List.mem_of_getElem? (i := 7) rfl)), rfl⟩, List.mem_filter.mpr ⟨List.mem_append_right _ (List.mem_append_right _ (List.mem_append_right _ (List.mem_of_getElem? (i := 102) rfl))), rfl⟩, ⟨by decide +kernel, by decide +kernel, by decide +kernel⟩, by decide +kernel⟩
theorem iv_mo_licence : ev_iv M_mo_licence := ⟨List.mem_filter.mpr ⟨List.mem_append_right _ (List.mem_append_right _ (List.mem_append_right _ (List.mem_of_getElem? (i := 100) rfl))), rfl⟩, List.mem_filter.mpr ⟨List.mem_append_right _ (List.mem_append_right _ (List.mem_append_right _ (List.mem_of_getElem? (i := 101) rfl))), rfl⟩⟩
theorem cb_mo_rule : ev_cb M_mo_rule 4 := ⟨List.mem_filter.mpr ⟨List.mem_append_right _ (List.mem_append_left _ (List.mem_of_getElem? (i := 7) rfl)), rfl⟩, List.mem_filter.mpr ⟨List.mem_append_right _ (List.mem_append_right _ (List.mem_append_right _ (List.mem_of_getElem? (i := 106) rfl))), rfl⟩, ⟨by decide +kernel, by decide +kernel, by decide +kernel⟩, by decide +kernel⟩
theorem iv_mo_rule : ev_iv M_mo_rule := ⟨List.mem_filter.mpr ⟨List.mem_append_right _ (List.mem_append_right _ (List.mem_append_right _ (List.mem_of_getElem? (i := 104) rfl))), rfl⟩, List.mem_filter.mpr ⟨List.mem_append_right _ (List.mem_append_right _ (List.mem_append_right _ (List.mem_of_getElem? (i := 105) rfl))), rfl⟩⟩
theorem cb_mo_lifts : ev_cb M_mo_lifts 3 := ⟨List.mem_filter.mpr ⟨List.mem_append_right _ (List.mem_append_left _ (List.mem_of_getElem? (i := 7) rfl)), rfl⟩, List.mem_filter.mpr ⟨List.mem_append_right _ (List.mem_append_right _ (List.mem_append_right _ (List.mem_of_getElem? (i := 117) rfl))), rfl⟩, ⟨by decide +kernel, by decide +kernel, by decide +kernel⟩, by decide +kernel⟩
theorem iv_mo_lifts : ev_iv M_mo_lifts := ⟨List.mem_filter.mpr ⟨List.mem_append_right _ (List.mem_append_right _ (List.mem_append_right _ (List.mem_of_getElem? (i := 115) rfl))), rfl⟩, List.mem_filter.mpr ⟨List.mem_append_right _ (List.mem_append_right _ (List.mem_append_right _ (List.mem_of_getElem? (i := 116) rfl))), rfl⟩⟩
theorem cb_mo_type : ev_cb M_mo_type 1 := ⟨List.mem_filter.mpr ⟨List.mem_append_right _ (List.mem_append_left _ (List.mem_of_getElem? (i := 7) rfl)), rfl⟩, List.mem_filter.mpr ⟨List.mem_append_right _ (List.mem_append_right _ (List.mem_append_right _ (List.mem_of_getElem? (i := 121) rfl))), rfl⟩, ⟨by decide +kernel, by decide +kernel, by decide +kernel⟩, by decide +kernel⟩
theorem iv_mo_type : ev_iv M_mo_type := ⟨List.mem_filter.mpr ⟨List.mem_append_right _ (List.mem_append_right _ (List.mem_append_right _ (List.mem_of_getElem? (i := 119) rfl))), rfl⟩, List.mem_filter.mpr ⟨List.mem_append_right _ (List.mem_append_right _ (List.mem_append_right _ (List.mem_of_getElem? (i := 120) rfl))), rfl⟩⟩
theorem cb_mo_pack : ev_cb M_mo_pack 0 := ⟨List.mem_filter.mpr ⟨List.mem_append_right _ (List.mem_append_left _ (List.mem_of_getElem? (i := 7) rfl)), rfl⟩, List.mem_filter.mpr ⟨List.mem_append_right _ (List.mem_append_right _ (List.mem_append_right _ (List.mem_of_getElem? (i := 125) rfl))), rfl⟩, ⟨by decide +kernel, by decide +kernel, by decide +kernel⟩, by decide +kernel⟩
theorem iv_mo_pack : ev_iv M_mo_pack := ⟨List.mem_filter.mpr ⟨List.mem_append_right _ (List.mem_append_right _ (List.mem_append_right _ (List.mem_of_getElem? (i := 123) rfl))), rfl⟩, List.mem_filter.mpr ⟨List.mem_append_right _ (List.mem_append_right _ (List.mem_append_right _ (List.mem_of_getElem? (i := 124) rfl))), rfl⟩⟩
theorem cb_mo_pairOf : ev_cb M_mo_pairOf 1 := ⟨List.mem_filter.mpr ⟨List.mem_append_right _ (List.mem_append_left _ (List.mem_of_getElem? (i := 7) rfl)), rfl⟩, List.mem_filter.mpr ⟨List.mem_append_right _ (List.mem_append_right _ (List.mem_append_right _ (List.mem_of_getElem? (i := 145) rfl))), rfl⟩, ⟨by decide +kernel, by decide +kernel, by decide +kernel⟩, by decide +kernel⟩
theorem iv_mo_pairOf : ev_iv M_mo_pairOf := ⟨List.mem_filter.mpr ⟨List.mem_append_right _ (List.mem_append_right _ (List.mem_append_right _ (List.mem_of_getElem? (i := 144) rfl))), rfl⟩, List.mem_filter.mpr ⟨List.mem_append_left _ (List.mem_of_getElem? (i := 22) rfl), rfl⟩⟩
theorem cb_mo_join : ev_cb M_mo_join 1 := ⟨List.mem_filter.mpr ⟨List.mem_append_right _ (List.mem_append_left _ (List.mem_of_getElem? (i := 7) rfl)), rfl⟩, List.mem_filter.mpr ⟨List.mem_append_right _ (List.mem_append_right _ (List.mem_append_right _ (List.mem_of_getElem? (i := 153) rfl))), rfl⟩, ⟨by decide +kernel, by decide +kernel, by decide +kernel⟩, by decide +kernel⟩
theorem iv_mo_join : ev_iv M_mo_join := ⟨List.mem_filter.mpr ⟨List.mem_append_right _ (List.mem_append_right _ (List.mem_append_right _ (List.mem_of_getElem? (i := 152) rfl))), rfl⟩, List.mem_filter.mpr ⟨List.mem_append_left _ (List.mem_of_getElem? (i := 24) rfl), rfl⟩⟩
theorem cb_mo_workOff : ev_cb M_mo_workOff 1 := ⟨List.mem_filter.mpr ⟨List.mem_append_right _ (List.mem_append_left _ (List.mem_of_getElem? (i := 7) rfl)), rfl⟩, List.mem_filter.mpr ⟨List.mem_append_right _ (List.mem_append_right _ (List.mem_append_right _ (List.mem_of_getElem? (i := 149) rfl))), rfl⟩, ⟨by decide +kernel, by decide +kernel, by decide +kernel⟩, by decide +kernel⟩
theorem iv_mo_workOff : ev_iv M_mo_workOff := ⟨List.mem_filter.mpr ⟨List.mem_append_right _ (List.mem_append_right _ (List.mem_append_right _ (List.mem_of_getElem? (i := 148) rfl))), rfl⟩, List.mem_filter.mpr ⟨List.mem_append_left _ (List.mem_of_getElem? (i := 23) rfl), rfl⟩⟩
theorem cb_mo_next : ev_cb M_mo_next 0 := ⟨List.mem_filter.mpr ⟨List.mem_append_right _ (List.mem_append_left _ (List.mem_of_getElem? (i := 7) rfl)), rfl⟩, List.mem_filter.mpr ⟨List.mem_append_right _ (List.mem_append_right _ (List.mem_append_right _ (List.mem_of_getElem? (i := 141) rfl))), rfl⟩, ⟨by decide +kernel, by decide +kernel, by decide +kernel⟩, by decide +kernel⟩
theorem iv_mo_next : ev_iv M_mo_next := ⟨List.mem_filter.mpr ⟨List.mem_append_right _ (List.mem_append_right _ (List.mem_append_right _ (List.mem_of_getElem? (i := 140) rfl))), rfl⟩, List.mem_filter.mpr ⟨List.mem_append_left _ (List.mem_of_getElem? (i := 21) rfl), rfl⟩⟩
theorem cb_mo_operand : ev_cb M_mo_operand 0 := ⟨List.mem_filter.mpr ⟨List.mem_append_right _ (List.mem_append_left _ (List.mem_of_getElem? (i := 7) rfl)), rfl⟩, List.mem_filter.mpr ⟨List.mem_append_right _ (List.mem_append_right _ (List.mem_append_right _ (List.mem_of_getElem? (i := 137) rfl))), rfl⟩, ⟨by decide +kernel, by decide +kernel, by decide +kernel⟩, by decide +kernel⟩
theorem iv_mo_operand : ev_iv M_mo_operand := ⟨List.mem_filter.mpr ⟨List.mem_append_right _ (List.mem_append_right _ (List.mem_append_right _ (List.mem_of_getElem? (i := 136) rfl))), rfl⟩, List.mem_filter.mpr ⟨List.mem_append_left _ (List.mem_of_getElem? (i := 20) rfl), rfl⟩⟩
theorem cb_mo_read : ev_cb M_mo_read 0 := ⟨List.mem_filter.mpr ⟨List.mem_append_right _ (List.mem_append_left _ (List.mem_of_getElem? (i := 7) rfl)), rfl⟩, List.mem_filter.mpr ⟨List.mem_append_right _ (List.mem_append_right _ (List.mem_append_right _ (List.mem_of_getElem? (i := 133) rfl))), rfl⟩, ⟨by decide +kernel, by decide +kernel, by decide +kernel⟩, by decide +kernel⟩
theorem iv_mo_read : ev_iv M_mo_read := ⟨List.mem_filter.mpr ⟨List.mem_append_right _ (List.mem_append_right _ (List.mem_append_right _ (List.mem_of_getElem? (i := 132) rfl))), rfl⟩, List.mem_filter.mpr ⟨List.mem_append_left _ (List.mem_of_getElem? (i := 19) rfl), rfl⟩⟩
theorem cb_mo_express : ev_cb M_mo_express 1 := ⟨List.mem_filter.mpr ⟨List.mem_append_right _ (List.mem_append_left _ (List.mem_of_getElem? (i := 7) rfl)), rfl⟩, List.mem_filter.mpr ⟨List.mem_append_right _ (List.mem_append_right _ (List.mem_append_right _ (List.mem_of_getElem? (i := 129) rfl))), rfl⟩, ⟨by decide +kernel, by decide +kernel, by decide +kernel⟩, by decide +kernel⟩
theorem iv_mo_express : ev_iv M_mo_express := ⟨List.mem_filter.mpr ⟨List.mem_append_right _ (List.mem_append_right _ (List.mem_append_right _ (List.mem_of_getElem? (i := 127) rfl))), rfl⟩, List.mem_filter.mpr ⟨List.mem_append_right _ (List.mem_append_right _ (List.mem_append_right _ (List.mem_of_getElem? (i := 128) rfl))), rfl⟩⟩
theorem cb_mo_choices : ev_cb M_mo_choices 1 := ⟨List.mem_filter.mpr ⟨List.mem_append_right _ (List.mem_append_left _ (List.mem_of_getElem? (i := 7) rfl)), rfl⟩, List.mem_filter.mpr ⟨List.mem_append_right _ (List.mem_append_right _ (List.mem_append_right _ (List.mem_of_getElem? (i := 161) rfl))), rfl⟩, ⟨by decide +kernel, by decide +kernel, by decide +kernel⟩, by decide +kernel⟩
theorem iv_mo_choices : ev_iv M_mo_choices := ⟨List.mem_filter.mpr ⟨List.mem_append_right _ (List.mem_append_right _ (List.mem_append_right _ (List.mem_of_getElem? (i := 159) rfl))), rfl⟩, List.mem_filter.mpr ⟨List.mem_append_right _ (List.mem_append_right _ (List.mem_append_right _ (List.mem_of_getElem? (i := 160) rfl))), rfl⟩⟩
theorem cb_mo_count : ev_cb M_mo_count 1 := ⟨List.mem_filter.mpr ⟨List.mem_append_right _ (List.mem_append_left _ (List.mem_of_getElem? (i := 7) rfl)), rfl⟩, List.mem_filter.mpr ⟨List.mem_append_right _ (List.mem_append_right _ (List.mem_append_right _ (List.mem_of_getElem? (i := 184) rfl))), rfl⟩, ⟨by decide +kernel, by decide +kernel, by decide +kernel⟩, by decide +kernel⟩
theorem sv_mo_count : Cond.static M_mo_count.1 ∈ ev_WS := List.mem_filter.mpr ⟨List.mem_append_right _ (List.mem_append_right _ (List.mem_append_right _ (List.mem_of_getElem? (i := 183) rfl))), rfl⟩
theorem cb_mo_pair : ev_cb M_mo_pair 3 := ⟨List.mem_filter.mpr ⟨List.mem_append_right _ (List.mem_append_left _ (List.mem_of_getElem? (i := 7) rfl)), rfl⟩, List.mem_filter.mpr ⟨List.mem_append_right _ (List.mem_append_right _ (List.mem_append_right _ (List.mem_of_getElem? (i := 165) rfl))), rfl⟩, ⟨by decide +kernel, by decide +kernel, by decide +kernel⟩, by decide +kernel⟩
theorem iv_mo_pair : ev_iv M_mo_pair := ⟨List.mem_filter.mpr ⟨List.mem_append_right _ (List.mem_append_right _ (List.mem_append_right _ (List.mem_of_getElem? (i := 163) rfl))), rfl⟩, List.mem_filter.mpr ⟨List.mem_append_right _ (List.mem_append_right _ (List.mem_append_right _ (List.mem_of_getElem? (i := 164) rfl))), rfl⟩⟩
theorem cb_mo_isLifted : ev_cb M_mo_isLifted 2 := ⟨List.mem_filter.mpr ⟨List.mem_append_right _ (List.mem_append_left _ (List.mem_of_getElem? (i := 7) rfl)), rfl⟩, List.mem_filter.mpr ⟨List.mem_append_right _ (List.mem_append_right _ (List.mem_append_right _ (List.mem_of_getElem? (i := 181) rfl))), rfl⟩, ⟨by decide +kernel, by decide +kernel, by decide +kernel⟩, by decide +kernel⟩
theorem iv_mo_isLifted : ev_iv M_mo_isLifted := ⟨List.mem_filter.mpr ⟨List.mem_append_right _ (List.mem_append_right _ (List.mem_append_right _ (List.mem_of_getElem? (i := 180) rfl))), rfl⟩, List.mem_filter.mpr ⟨List.mem_append_left _ (List.mem_of_getElem? (i := 28) rfl), rfl⟩⟩
theorem cb_mo_dutiesOf : ev_cb M_mo_dutiesOf 3 := ⟨List.mem_filter.mpr ⟨List.mem_append_right _ (List.mem_append_left _ (List.mem_of_getElem? (i := 7) rfl)), rfl⟩, List.mem_filter.mpr ⟨List.mem_append_right _ (List.mem_append_right _ (List.mem_append_right _ (List.mem_of_getElem? (i := 177) rfl))), rfl⟩, ⟨by decide +kernel, by decide +kernel, by decide +kernel⟩, by decide +kernel⟩
theorem iv_mo_dutiesOf : ev_iv M_mo_dutiesOf := ⟨List.mem_filter.mpr ⟨List.mem_append_right _ (List.mem_append_right _ (List.mem_append_right _ (List.mem_of_getElem? (i := 176) rfl))), rfl⟩, List.mem_filter.mpr ⟨List.mem_append_left _ (List.mem_of_getElem? (i := 27) rfl), rfl⟩⟩
theorem cb_mo_bestOf : ev_cb M_mo_bestOf 2 := ⟨List.mem_filter.mpr ⟨List.mem_append_right _ (List.mem_append_left _ (List.mem_of_getElem? (i := 7) rfl)), rfl⟩, List.mem_filter.mpr ⟨List.mem_append_right _ (List.mem_append_right _ (List.mem_append_right _ (List.mem_of_getElem? (i := 173) rfl))), rfl⟩, ⟨by decide +kernel, by decide +kernel, by decide +kernel⟩, by decide +kernel⟩
theorem iv_mo_bestOf : ev_iv M_mo_bestOf := ⟨List.mem_filter.mpr ⟨List.mem_append_right _ (List.mem_append_right _ (List.mem_append_right _ (List.mem_of_getElem? (i := 172) rfl))), rfl⟩, List.mem_filter.mpr ⟨List.mem_append_left _ (List.mem_of_getElem? (i := 26) rfl), rfl⟩⟩
theorem cb_mo_best : ev_cb M_mo_best 2 := ⟨List.mem_filter.mpr ⟨List.mem_append_right _ (List.mem_append_left _ (List.mem_of_getElem? (i := 7) rfl)), rfl⟩, List.mem_filter.mpr ⟨List.mem_append_right _ (List.mem_append_right _ (List.mem_append_right _ (List.mem_of_getElem? (i := 169) rfl))), rfl⟩, ⟨by decide +kernel, by decide +kernel, by decide +kernel⟩, by decide +kernel⟩
theorem iv_mo_best : ev_iv M_mo_best := ⟨List.mem_filter.mpr ⟨List.mem_append_right _ (List.mem_append_right _ (List.mem_append_right _ (List.mem_of_getElem? (i := 167) rfl))), rfl⟩, List.mem_filter.mpr ⟨List.mem_append_right _ (List.mem_append_right _ (List.mem_append_right _ (List.mem_of_getElem? (i := 168) rfl))), rfl⟩⟩
theorem cb_mo_bestDuties : ev_cb M_mo_bestDuties 2 := ⟨List.mem_filter.mpr ⟨List.mem_append_right _ (List.mem_append_left _ (List.mem_of_getElem? (i := 7) rfl)), rfl⟩, List.mem_filter.mpr ⟨List.mem_append_right _ (List.mem_append_right _ (List.mem_append_right _ (List.mem_of_getElem? (i := 192) rfl))), rfl⟩, ⟨by decide +kernel, by decide +kernel, by decide +kernel⟩, by decide +kernel⟩
theorem iv_mo_bestDuties : ev_iv M_mo_bestDuties := ⟨List.mem_filter.mpr ⟨List.mem_append_right _ (List.mem_append_right _ (List.mem_append_right _ (List.mem_of_getElem? (i := 191) rfl))), rfl⟩, List.mem_filter.mpr ⟨List.mem_append_left _ (List.mem_of_getElem? (i := 29) rfl), rfl⟩⟩
theorem cb_mo_duties : ev_cb M_mo_duties 2 := ⟨List.mem_filter.mpr ⟨List.mem_append_right _ (List.mem_append_left _ (List.mem_of_getElem? (i := 7) rfl)), rfl⟩, List.mem_filter.mpr ⟨List.mem_append_right _ (List.mem_append_right _ (List.mem_append_right _ (List.mem_of_getElem? (i := 188) rfl))), rfl⟩, ⟨by decide +kernel, by decide +kernel, by decide +kernel⟩, by decide +kernel⟩
theorem iv_mo_duties : ev_iv M_mo_duties := ⟨List.mem_filter.mpr ⟨List.mem_append_right _ (List.mem_append_right _ (List.mem_append_right _ (List.mem_of_getElem? (i := 186) rfl))), rfl⟩, List.mem_filter.mpr ⟨List.mem_append_right _ (List.mem_append_right _ (List.mem_append_right _ (List.mem_of_getElem? (i := 187) rfl))), rfl⟩⟩
theorem cb_mo_uses : ev_cb M_mo_uses 3 := ⟨List.mem_filter.mpr ⟨List.mem_append_right _ (List.mem_append_left _ (List.mem_of_getElem? (i := 7) rfl)), rfl⟩, List.mem_filter.mpr ⟨List.mem_append_right _ (List.mem_append_right _ (List.mem_append_right _ (List.mem_of_getElem? (i := 196) rfl))), rfl⟩, ⟨by decide +kernel, by decide +kernel, by decide +kernel⟩, by decide +kernel⟩
theorem iv_mo_uses : ev_iv M_mo_uses := ⟨List.mem_filter.mpr ⟨List.mem_append_right _ (List.mem_append_right _ (List.mem_append_right _ (List.mem_of_getElem? (i := 194) rfl))), rfl⟩, List.mem_filter.mpr ⟨List.mem_append_right _ (List.mem_append_right _ (List.mem_append_right _ (List.mem_of_getElem? (i := 195) rfl))), rfl⟩⟩
theorem cb_mo_grant : ev_cb M_mo_grant 2 := ⟨List.mem_filter.mpr ⟨List.mem_append_right _ (List.mem_append_left _ (List.mem_of_getElem? (i := 7) rfl)), rfl⟩, List.mem_filter.mpr ⟨List.mem_append_right _ (List.mem_append_right _ (List.mem_append_right _ (List.mem_of_getElem? (i := 200) rfl))), rfl⟩, ⟨by decide +kernel, by decide +kernel, by decide +kernel⟩, by decide +kernel⟩
theorem iv_mo_grant : ev_iv M_mo_grant := ⟨List.mem_filter.mpr ⟨List.mem_append_right _ (List.mem_append_right _ (List.mem_append_right _ (List.mem_of_getElem? (i := 198) rfl))), rfl⟩, List.mem_filter.mpr ⟨List.mem_append_right _ (List.mem_append_right _ (List.mem_append_right _ (List.mem_of_getElem? (i := 199) rfl))), rfl⟩⟩
theorem cb_mo_tick : ev_cb M_mo_tick 1 := ⟨List.mem_filter.mpr ⟨List.mem_append_right _ (List.mem_append_left _ (List.mem_of_getElem? (i := 7) rfl)), rfl⟩, List.mem_filter.mpr ⟨List.mem_append_right _ (List.mem_append_right _ (List.mem_append_right _ (List.mem_of_getElem? (i := 204) rfl))), rfl⟩, ⟨by decide +kernel, by decide +kernel, by decide +kernel⟩, by decide +kernel⟩
theorem iv_mo_tick : ev_iv M_mo_tick := ⟨List.mem_filter.mpr ⟨List.mem_append_right _ (List.mem_append_right _ (List.mem_append_right _ (List.mem_of_getElem? (i := 202) rfl))), rfl⟩, List.mem_filter.mpr ⟨List.mem_append_right _ (List.mem_append_right _ (List.mem_append_right _ (List.mem_of_getElem? (i := 203) rfl))), rfl⟩⟩
theorem cb_mo_come : ev_cb M_mo_come 3 := ⟨List.mem_filter.mpr ⟨List.mem_append_right _ (List.mem_append_left _ (List.mem_of_getElem? (i := 7) rfl)), rfl⟩, List.mem_filter.mpr ⟨List.mem_append_right _ (List.mem_append_right _ (List.mem_append_right _ (List.mem_of_getElem? (i := 214) rfl))), rfl⟩, ⟨by decide +kernel, by decide +kernel, by decide +kernel⟩, by decide +kernel⟩
theorem iv_mo_come : ev_iv M_mo_come := ⟨List.mem_filter.mpr ⟨List.mem_append_right _ (List.mem_append_right _ (List.mem_append_right _ (List.mem_of_getElem? (i := 213) rfl))), rfl⟩, List.mem_filter.mpr ⟨List.mem_append_left _ (List.mem_of_getElem? (i := 30) rfl), rfl⟩⟩
theorem cb_mo_review : ev_cb M_mo_review 2 := ⟨List.mem_filter.mpr ⟨List.mem_append_right _ (List.mem_append_left _ (List.mem_of_getElem? (i := 7) rfl)), rfl⟩, List.mem_filter.mpr ⟨List.mem_append_right _ (List.mem_append_right _ (List.mem_append_right _ (List.mem_of_getElem? (i := 210) rfl))), rfl⟩, ⟨by decide +kernel, by decide +kernel, by decide +kernel⟩, by decide +kernel⟩
theorem iv_mo_review : ev_iv M_mo_review := ⟨List.mem_filter.mpr ⟨List.mem_append_right _ (List.mem_append_right _ (List.mem_append_right _ (List.mem_of_getElem? (i := 208) rfl))), rfl⟩, List.mem_filter.mpr ⟨List.mem_append_right _ (List.mem_append_right _ (List.mem_append_right _ (List.mem_of_getElem? (i := 209) rfl))), rfl⟩⟩
theorem cb_mo_entry : ev_cb M_mo_entry 2 := ⟨List.mem_filter.mpr ⟨List.mem_append_right _ (List.mem_append_left _ (List.mem_of_getElem? (i := 7) rfl)), rfl⟩, List.mem_filter.mpr ⟨List.mem_append_right _ (List.mem_append_right _ (List.mem_append_right _ (List.mem_of_getElem? (i := 218) rfl))), rfl⟩, ⟨by decide +kernel, by decide +kernel, by decide +kernel⟩, by decide +kernel⟩
theorem iv_mo_entry : ev_iv M_mo_entry := ⟨List.mem_filter.mpr ⟨List.mem_append_right _ (List.mem_append_right _ (List.mem_append_right _ (List.mem_of_getElem? (i := 216) rfl))), rfl⟩, List.mem_filter.mpr ⟨List.mem_append_right _ (List.mem_append_right _ (List.mem_append_right _ (List.mem_of_getElem? (i := 217) rfl))), rfl⟩⟩
theorem cb_mo_all : ev_cb M_mo_all 0 := ⟨List.mem_filter.mpr ⟨List.mem_append_right _ (List.mem_append_left _ (List.mem_of_getElem? (i := 7) rfl)), rfl⟩, List.mem_filter.mpr ⟨List.mem_append_right _ (List.mem_append_right _ (List.mem_append_right _ (List.mem_of_getElem? (i := 222) rfl))), rfl⟩, ⟨by decide +kernel, by decide +kernel, by decide +kernel⟩, by decide +kernel⟩
theorem iv_mo_all : ev_iv M_mo_all := ⟨List.mem_filter.mpr ⟨List.mem_append_right _ (List.mem_append_right _ (List.mem_append_right _ (List.mem_of_getElem? (i := 220) rfl))), rfl⟩, List.mem_filter.mpr ⟨List.mem_append_right _ (List.mem_append_right _ (List.mem_append_right _ (List.mem_of_getElem? (i := 221) rfl))), rfl⟩⟩
theorem cb_mo_material : ev_cb M_mo_material 1 := ⟨List.mem_filter.mpr ⟨List.mem_append_right _ (List.mem_append_left _ (List.mem_of_getElem? (i := 7) rfl)), rfl⟩, List.mem_filter.mpr ⟨List.mem_append_right _ (List.mem_append_right _ (List.mem_append_right _ (List.mem_of_getElem? (i := 226) rfl))), rfl⟩, ⟨by decide +kernel, by decide +kernel, by decide +kernel⟩, by decide +kernel⟩
theorem iv_mo_material : ev_iv M_mo_material := ⟨List.mem_filter.mpr ⟨List.mem_append_right _ (List.mem_append_right _ (List.mem_append_right _ (List.mem_of_getElem? (i := 224) rfl))), rfl⟩, List.mem_filter.mpr ⟨List.mem_append_right _ (List.mem_append_right _ (List.mem_append_right _ (List.mem_of_getElem? (i := 225) rfl))), rfl⟩⟩
theorem cb_mo_scoreOf : ev_cb M_mo_scoreOf 2 := ⟨List.mem_filter.mpr ⟨List.mem_append_right _ (List.mem_append_left _ (List.mem_of_getElem? (i := 7) rfl)), rfl⟩, List.mem_filter.mpr ⟨List.mem_append_right _ (List.mem_append_right _ (List.mem_append_right _ (List.mem_of_getElem? (i := 234) rfl))), rfl⟩, ⟨by decide +kernel, by decide +kernel, by decide +kernel⟩, by decide +kernel⟩
theorem iv_mo_scoreOf : ev_iv M_mo_scoreOf := ⟨List.mem_filter.mpr ⟨List.mem_append_right _ (List.mem_append_right _ (List.mem_append_right _ (List.mem_of_getElem? (i := 233) rfl))), rfl⟩, List.mem_filter.mpr ⟨List.mem_append_left _ (List.mem_of_getElem? (i := 31) rfl), rfl⟩⟩
theorem cb_mo_score : ev_cb M_mo_score 2 := ⟨List.mem_filter.mpr ⟨List.mem_append_right _ (List.mem_append_left _ (List.mem_of_getElem? (i := 7) rfl)), rfl⟩, List.mem_filter.mpr ⟨List.mem_append_right _ (List.mem_append_right _ (List.mem_append_right _ (List.mem_of_getElem? (i := 230) rfl))), rfl⟩, ⟨by decide +kernel, by decide +kernel, by decide +kernel⟩, by decide +kernel⟩
theorem iv_mo_score : ev_iv M_mo_score := ⟨List.mem_filter.mpr ⟨List.mem_append_right _ (List.mem_append_right _ (List.mem_append_right _ (List.mem_of_getElem? (i := 228) rfl))), rfl⟩, List.mem_filter.mpr ⟨List.mem_append_right _ (List.mem_append_right _ (List.mem_append_right _ (List.mem_of_getElem? (i := 229) rfl))), rfl⟩⟩
theorem cb_mo_found : ev_cb M_mo_found 2 := ⟨List.mem_filter.mpr ⟨List.mem_append_right _ (List.mem_append_left _ (List.mem_of_getElem? (i := 7) rfl)), rfl⟩, List.mem_filter.mpr ⟨List.mem_append_right _ (List.mem_append_right _ (List.mem_append_right _ (List.mem_of_getElem? (i := 238) rfl))), rfl⟩, ⟨by decide +kernel, by decide +kernel, by decide +kernel⟩, by decide +kernel⟩
theorem iv_mo_found : ev_iv M_mo_found := ⟨List.mem_filter.mpr ⟨List.mem_append_right _ (List.mem_append_right _ (List.mem_append_right _ (List.mem_of_getElem? (i := 236) rfl))), rfl⟩, List.mem_filter.mpr ⟨List.mem_append_right _ (List.mem_append_right _ (List.mem_append_right _ (List.mem_of_getElem? (i := 237) rfl))), rfl⟩⟩
theorem cb_jin_bitCount : ev_cb M_jin_bitCount 1 := ⟨List.mem_filter.mpr ⟨List.mem_append_right _ (List.mem_append_left _ (List.mem_of_getElem? (i := 10) rfl)), rfl⟩, List.mem_filter.mpr ⟨List.mem_append_right _ (List.mem_append_right _ (List.mem_append_left _ (List.mem_of_getElem? (i := 123) rfl))), rfl⟩, ⟨by decide +kernel, by decide +kernel, by decide +kernel⟩, by decide +kernel⟩
theorem sv_jin_bitCount : Cond.static M_jin_bitCount.1 ∈ ev_WS := List.mem_filter.mpr ⟨List.mem_append_right _ (List.mem_append_right _ (List.mem_append_left _ (List.mem_of_getElem? (i := 122) rfl))), rfl⟩
theorem cb_jlo_bitCount : ev_cb M_jlo_bitCount 1 := ⟨List.mem_filter.mpr ⟨List.mem_append_right _ (List.mem_append_left _ (List.mem_of_getElem? (i := 11) rfl)), rfl⟩, List.mem_filter.mpr ⟨List.mem_append_right _ (List.mem_append_right _ (List.mem_append_left _ (List.mem_of_getElem? (i := 133) rfl))), rfl⟩, ⟨by decide +kernel, by decide +kernel, by decide +kernel⟩, by decide +kernel⟩
theorem sv_jlo_bitCount : Cond.static M_jlo_bitCount.1 ∈ ev_WS := List.mem_filter.mpr ⟨List.mem_append_right _ (List.mem_append_right _ (List.mem_append_left _ (List.mem_of_getElem? (i := 132) rfl))), rfl⟩
theorem cb_jma_max : ev_cb M_jma_max 2 := ⟨List.mem_filter.mpr ⟨List.mem_append_right _ (List.mem_append_left _ (List.mem_of_getElem? (i := 5) rfl)), rfl⟩, List.mem_filter.mpr ⟨List.mem_append_right _ (List.mem_append_left _ (List.mem_of_getElem? (i := 56) rfl)), rfl⟩, ⟨by decide +kernel, by decide +kernel, by decide +kernel⟩, by decide +kernel⟩
theorem sv_jma_max : Cond.static M_jma_max.1 ∈ ev_WS := List.mem_filter.mpr ⟨List.mem_append_right _ (List.mem_append_left _ (List.mem_of_getElem? (i := 55) rfl)), rfl⟩
theorem cb_jma_min : ev_cb M_jma_min 2 := ⟨List.mem_filter.mpr ⟨List.mem_append_right _ (List.mem_append_left _ (List.mem_of_getElem? (i := 5) rfl)), rfl⟩, List.mem_filter.mpr ⟨List.mem_append_right _ (List.mem_append_right _ (List.mem_append_left _ (List.mem_of_getElem? (i := 36) rfl))), rfl⟩, ⟨by decide +kernel, by decide +kernel, by decide +kernel⟩, by decide +kernel⟩
theorem sv_jma_min : Cond.static M_jma_min.1 ∈ ev_WS := List.mem_filter.mpr ⟨List.mem_append_right _ (List.mem_append_right _ (List.mem_append_left _ (List.mem_of_getElem? (i := 35) rfl))), rfl⟩
theorem ob_2 : Cond.instanceMethod Lib.objectInit ∈ ev_WS := List.mem_filter.mpr ⟨List.mem_append_right _ (List.mem_append_left _ (List.mem_of_getElem? (i := 18) rfl)), rfl⟩
theorem ob_3 : Cond.code Lib.objectInit ⟨#[0xb1]⟩ 1 none ∈ ev_WS := List.mem_filter.mpr ⟨List.mem_append_right _ (List.mem_append_left _ (List.mem_of_getElem? (i := 19) rfl)), rfl⟩
theorem yc_2 : Cond.native arraycopyName ∈ ev_WS := List.mem_filter.mpr ⟨List.mem_append_right _ (List.mem_append_right _ (List.mem_append_left _ (List.mem_of_getElem? (i := 39) rfl))), rfl⟩
theorem yc_3 : Cond.static arraycopyName ∈ ev_WS := List.mem_filter.mpr ⟨List.mem_append_right _ (List.mem_append_right _ (List.mem_append_left _ (List.mem_of_getElem? (i := 38) rfl))), rfl⟩
theorem yc_4 : Cond.initialized "java/lang/System" ∈ ev_WS := List.mem_filter.mpr ⟨List.mem_append_right _ (List.mem_append_left _ (List.mem_of_getElem? (i := 9) rfl)), rfl⟩
theorem ma_max : Cond.static Lib.Math.max.name ∈ ev_WS ∧ Cond.initialized "java/lang/Math" ∈ ev_WS ∧ Cond.code Lib.Math.max.name Lib.Math.max.code 2 (some .int) ∈ ev_WS := ⟨List.mem_filter.mpr ⟨List.mem_append_right _ (List.mem_append_left _ (List.mem_of_getElem? (i := 55) rfl)), rfl⟩, List.mem_filter.mpr ⟨List.mem_append_right _ (List.mem_append_left _ (List.mem_of_getElem? (i := 5) rfl)), rfl⟩, List.mem_filter.mpr ⟨List.mem_append_right _ (List.mem_append_left _ (List.mem_of_getElem? (i := 56) rfl)), rfl⟩⟩
theorem ev_mmax {G : ev_G} {M : ev_M} {d kc ks : Nat} {Q : Option Value → ev_H → Prop} {pc pc' ix : Nat} {ls : List (Option Value)} {st : List Value} {h : ev_H} {x y : Int32} (hd : fe M pc (.invokestatic ix) 3 pc') (hlk : Cond.methodLink M.1.cls ix Lib.Math.max.name ∈ ev_WS) (hdd : 1 ≤ d) (hwt : (st.map fun v => v.category).sum ≤ 8)
    (kk : Ev G M d kc ks Q pc' ls (.int (if x < y then y else x) :: st) h) : Ev G M d kc ks Q pc ls (.int y :: .int x :: st) h := by
  obtain ⟨hd, rfl⟩ := hd
  intro p l e R s m args below meth c A H locs cells slots lsA Qf hc h1 h2 hw hS hl hr
  obtain ⟨r1, r2⟩ := hc.2.2.2.2.2.2.2.2.1
  exact va_mmax hc.1 hc.2.1 (hc.2.2.1.trans hl.1.symm) hc.2.2.2.1 (hc.2.2.2.2.1 _ hlk) (hc.2.2.2.2.1 _ ma_max.1) (hc.2.2.2.2.1 _ ma_max.2.1) (hc.2.2.2.2.1 _ ma_max.2.2) (by omega) (by omega) (by omega) (by omega) hd (kk p l e R s m args below meth c A H locs cells slots lsA Qf hc h1 h2 hw hS hl hr)
theorem ma_min : Cond.static Lib.Math.min.name ∈ ev_WS ∧ Cond.initialized "java/lang/Math" ∈ ev_WS ∧ Cond.code Lib.Math.min.name Lib.Math.min.code 2 (some .int) ∈ ev_WS := ⟨List.mem_filter.mpr ⟨List.mem_append_right _ (List.mem_append_right _ (List.mem_append_left _ (List.mem_of_getElem? (i := 35) rfl))), rfl⟩, List.mem_filter.mpr ⟨List.mem_append_right _ (List.mem_append_left _ (List.mem_of_getElem? (i := 5) rfl)), rfl⟩, List.mem_filter.mpr ⟨List.mem_append_right _ (List.mem_append_right _ (List.mem_append_left _ (List.mem_of_getElem? (i := 36) rfl))), rfl⟩⟩
theorem ev_mmin {G : ev_G} {M : ev_M} {d kc ks : Nat} {Q : Option Value → ev_H → Prop} {pc pc' ix : Nat} {ls : List (Option Value)} {st : List Value} {h : ev_H} {x y : Int32} (hd : fe M pc (.invokestatic ix) 3 pc') (hlk : Cond.methodLink M.1.cls ix Lib.Math.min.name ∈ ev_WS) (hdd : 1 ≤ d) (hwt : (st.map fun v => v.category).sum ≤ 8)
    (kk : Ev G M d kc ks Q pc' ls (.int (if y < x then y else x) :: st) h) : Ev G M d kc ks Q pc ls (.int y :: .int x :: st) h := by
  obtain ⟨hd, rfl⟩ := hd
  intro p l e R s m args below meth c A H locs cells slots lsA Qf hc h1 h2 hw hS hl hr
  obtain ⟨r1, r2⟩ := hc.2.2.2.2.2.2.2.2.1
  exact va_mmin hc.1 hc.2.1 (hc.2.2.1.trans hl.1.symm) hc.2.2.2.1 (hc.2.2.2.2.1 _ hlk) (hc.2.2.2.2.1 _ ma_min.1) (hc.2.2.2.2.1 _ ma_min.2.1) (hc.2.2.2.2.1 _ ma_min.2.2) (by omega) (by omega) (by omega) (by omega) hd (kk p l e R s m args below meth c A H locs cells slots lsA Qf hc h1 h2 hw hS hl hr)
theorem ob_fo_3 : Cond.methodLink "LicenceRules$Form" 3 Lib.objectInit ∈ ev_WS := List.mem_filter.mpr ⟨List.mem_append_right _ (List.mem_append_left _ (List.mem_of_getElem? (i := 53) rfl)), rfl⟩
theorem fl_fo_9 : ev_fl "LicenceRules$Form" 9 0 2 false (.int) := ⟨RC_fo, FT_fo, 3, ft_fo, k_fo, by decide, rfl, rfl, Or.inl ⟨List.mem_filter.mpr ⟨List.mem_append_right _ (List.mem_append_left _ (List.mem_of_getElem? (i := 59) rfl)), rfl⟩, fun _ => rfl⟩⟩
theorem pl_fo_init_9 : ev_pl M_fo_init 9 0 2 (.int) := ⟨RC_fo, FT_fo, 3, ft_fo, k_fo, by decide, rfl, Or.inl ⟨List.mem_filter.mpr ⟨List.mem_append_right _ (List.mem_append_left _ (List.mem_of_getElem? (i := 59) rfl)), rfl⟩, Or.inl rfl⟩⟩
theorem ma_fo_15 : Cond.methodLink "LicenceRules$Form" 15 Lib.Math.max.name ∈ ev_WS := List.mem_filter.mpr ⟨List.mem_append_right _ (List.mem_append_left _ (List.mem_of_getElem? (i := 54) rfl)), rfl⟩
theorem fl_fo_21 : ev_fl "LicenceRules$Form" 21 0 0 true (.int) := ⟨RC_fo, FT_fo, 3, ft_fo, k_fo, by decide, rfl, rfl, Or.inl ⟨List.mem_filter.mpr ⟨List.mem_append_right _ (List.mem_append_left _ (List.mem_of_getElem? (i := 57) rfl)), rfl⟩, fun _ => rfl⟩⟩
theorem pl_fo_init_21 : ev_pl M_fo_init 21 0 0 (.int) := ⟨RC_fo, FT_fo, 3, ft_fo, k_fo, by decide, rfl, Or.inl ⟨List.mem_filter.mpr ⟨List.mem_append_right _ (List.mem_append_left _ (List.mem_of_getElem? (i := 57) rfl)), rfl⟩, Or.inr ⟨rfl, rfl, rfl⟩⟩⟩
theorem fl_fo_24 : ev_fl "LicenceRules$Form" 24 0 1 true (.array .long) := ⟨RC_fo, FT_fo, 3, ft_fo, k_fo, by decide, rfl, rfl, Or.inl ⟨List.mem_filter.mpr ⟨List.mem_append_right _ (List.mem_append_left _ (List.mem_of_getElem? (i := 58) rfl)), rfl⟩, fun _ => rfl⟩⟩
theorem pl_fo_init_24 : ev_pl M_fo_init 24 0 1 (.array .long) := ⟨RC_fo, FT_fo, 3, ft_fo, k_fo, by decide, rfl, Or.inl ⟨List.mem_filter.mpr ⟨List.mem_append_right _ (List.mem_append_left _ (List.mem_of_getElem? (i := 58) rfl)), rfl⟩, Or.inr ⟨rfl, rfl, rfl⟩⟩⟩
theorem pl_fo_clear_9 : ev_pl M_fo_clear 9 0 2 (.int) := ⟨RC_fo, FT_fo, 3, ft_fo, k_fo, by decide, rfl, Or.inl ⟨List.mem_filter.mpr ⟨List.mem_append_right _ (List.mem_append_left _ (List.mem_of_getElem? (i := 59) rfl)), rfl⟩, Or.inl rfl⟩⟩
theorem pl_fo_setOnly_9 : ev_pl M_fo_setOnly 9 0 2 (.int) := ⟨RC_fo, FT_fo, 3, ft_fo, k_fo, by decide, rfl, Or.inl ⟨List.mem_filter.mpr ⟨List.mem_append_right _ (List.mem_append_left _ (List.mem_of_getElem? (i := 59) rfl)), rfl⟩, Or.inl rfl⟩⟩
theorem ma_fo_28 : Cond.methodLink "LicenceRules$Form" 28 Lib.Math.min.name ∈ ev_WS := List.mem_filter.mpr ⟨List.mem_append_right _ (List.mem_append_right _ (List.mem_append_left _ (List.mem_of_getElem? (i := 34) rfl))), rfl⟩
theorem pl_fo_copyFrom_9 : ev_pl M_fo_copyFrom 9 0 2 (.int) := ⟨RC_fo, FT_fo, 3, ft_fo, k_fo, by decide, rfl, Or.inl ⟨List.mem_filter.mpr ⟨List.mem_append_right _ (List.mem_append_left _ (List.mem_of_getElem? (i := 59) rfl)), rfl⟩, Or.inl rfl⟩⟩
theorem yc_fo_31 : Cond.methodLink "LicenceRules$Form" 31 arraycopyName ∈ ev_WS := List.mem_filter.mpr ⟨List.mem_append_right _ (List.mem_append_right _ (List.mem_append_left _ (List.mem_of_getElem? (i := 37) rfl))), rfl⟩
theorem lk_fo_37 : ev_lk "LicenceRules$Form" 37 M_jlo_bitCount := Or.inl (List.mem_filter.mpr ⟨List.mem_append_right _ (List.mem_append_right _ (List.mem_append_left _ (List.mem_of_getElem? (i := 131) rfl))), rfl⟩)
theorem lk_fo_43 : ev_lk "LicenceRules$Form" 43 M_fo_holds := Or.inl (List.mem_filter.mpr ⟨List.mem_append_right _ (List.mem_append_right _ (List.mem_append_left _ (List.mem_of_getElem? (i := 99) rfl))), rfl⟩)
theorem lk_fo_47 : ev_lk "LicenceRules$Form" 47 M_fo_hasOneWithin := Or.inl (List.mem_filter.mpr ⟨List.mem_append_right _ (List.mem_append_right _ (List.mem_append_left _ (List.mem_of_getElem? (i := 44) rfl))), rfl⟩)
theorem lk_fo_51 : ev_lk "LicenceRules$Form" 51 M_fo_dropThoseWith := Or.inl (List.mem_filter.mpr ⟨List.mem_append_right _ (List.mem_append_right _ (List.mem_append_left _ (List.mem_of_getElem? (i := 49) rfl))), rfl⟩)
theorem pl_fo_addJoined_9 : ev_pl M_fo_addJoined 9 0 2 (.int) := ⟨RC_fo, FT_fo, 3, ft_fo, k_fo, by decide, rfl, Or.inl ⟨List.mem_filter.mpr ⟨List.mem_append_right _ (List.mem_append_left _ (List.mem_of_getElem? (i := 59) rfl)), rfl⟩, Or.inl rfl⟩⟩
theorem kc_fo_55 : Cond.constantLong "LicenceRules$Form" 55 (-1) ∈ ev_WS := List.mem_filter.mpr ⟨List.mem_append_right _ (List.mem_append_right _ (List.mem_append_left _ (List.mem_of_getElem? (i := 48) rfl))), rfl⟩
theorem pl_fo_dropThoseWith_9 : ev_pl M_fo_dropThoseWith 9 0 2 (.int) := ⟨RC_fo, FT_fo, 3, ft_fo, k_fo, by decide, rfl, Or.inl ⟨List.mem_filter.mpr ⟨List.mem_append_right _ (List.mem_append_left _ (List.mem_of_getElem? (i := 59) rfl)), rfl⟩, Or.inl rfl⟩⟩
theorem ob_pk_3 : Cond.methodLink "LicenceRules$Pack" 3 Lib.objectInit ∈ ev_WS := List.mem_filter.mpr ⟨List.mem_append_right _ (List.mem_append_left _ (List.mem_of_getElem? (i := 192) rfl)), rfl⟩
theorem cl_pk_9 : Cond.classLink "LicenceRules$Pack" 9 "LicenceRules$Form" ∈ ev_WS := List.mem_filter.mpr ⟨List.mem_append_right _ (List.mem_append_left _ (List.mem_of_getElem? (i := 193) rfl)), rfl⟩
theorem lk_pk_11 : ev_lk "LicenceRules$Pack" 11 M_fo_init := Or.inl (List.mem_filter.mpr ⟨List.mem_append_right _ (List.mem_append_left _ (List.mem_of_getElem? (i := 194) rfl)), rfl⟩)
theorem fl_pk_14 : ev_fl "LicenceRules$Pack" 14 1 0 true (.object "LicenceRules$Form") := ⟨RC_pk, FT_pk, 5, ft_pk, k_pk, by decide, rfl, rfl, Or.inl ⟨List.mem_filter.mpr ⟨List.mem_append_right _ (List.mem_append_left _ (List.mem_of_getElem? (i := 195) rfl)), rfl⟩, fun _ => rfl⟩⟩
theorem pl_pk_init_14 : ev_pl M_pk_init 14 1 0 (.object "LicenceRules$Form") := ⟨RC_pk, FT_pk, 5, ft_pk, k_pk, by decide, rfl, Or.inl ⟨List.mem_filter.mpr ⟨List.mem_append_right _ (List.mem_append_left _ (List.mem_of_getElem? (i := 195) rfl)), rfl⟩, Or.inr ⟨rfl, rfl, rfl⟩⟩⟩
theorem fl_pk_20 : ev_fl "LicenceRules$Pack" 20 1 1 true (.array .int) := ⟨RC_pk, FT_pk, 5, ft_pk, k_pk, by decide, rfl, rfl, Or.inl ⟨List.mem_filter.mpr ⟨List.mem_append_right _ (List.mem_append_left _ (List.mem_of_getElem? (i := 198) rfl)), rfl⟩, fun _ => rfl⟩⟩
theorem pl_pk_init_20 : ev_pl M_pk_init 20 1 1 (.array .int) := ⟨RC_pk, FT_pk, 5, ft_pk, k_pk, by decide, rfl, Or.inl ⟨List.mem_filter.mpr ⟨List.mem_append_right _ (List.mem_append_left _ (List.mem_of_getElem? (i := 198) rfl)), rfl⟩, Or.inr ⟨rfl, rfl, rfl⟩⟩⟩
theorem fl_pk_24 : ev_fl "LicenceRules$Pack" 24 1 2 true (.array .int) := ⟨RC_pk, FT_pk, 5, ft_pk, k_pk, by decide, rfl, rfl, Or.inl ⟨List.mem_filter.mpr ⟨List.mem_append_right _ (List.mem_append_left _ (List.mem_of_getElem? (i := 200) rfl)), rfl⟩, fun _ => rfl⟩⟩
theorem pl_pk_init_24 : ev_pl M_pk_init 24 1 2 (.array .int) := ⟨RC_pk, FT_pk, 5, ft_pk, k_pk, by decide, rfl, Or.inl ⟨List.mem_filter.mpr ⟨List.mem_append_right _ (List.mem_append_left _ (List.mem_of_getElem? (i := 200) rfl)), rfl⟩, Or.inr ⟨rfl, rfl, rfl⟩⟩⟩
theorem fl_pk_27 : ev_fl "LicenceRules$Pack" 27 1 3 false (.int) := ⟨RC_pk, FT_pk, 5, ft_pk, k_pk, by decide, rfl, rfl, Or.inl ⟨List.mem_filter.mpr ⟨List.mem_append_right _ (List.mem_append_left _ (List.mem_of_getElem? (i := 202) rfl)), rfl⟩, fun _ => rfl⟩⟩
theorem pl_pk_init_27 : ev_pl M_pk_init 27 1 3 (.int) := ⟨RC_pk, FT_pk, 5, ft_pk, k_pk, by decide, rfl, Or.inl ⟨List.mem_filter.mpr ⟨List.mem_append_right _ (List.mem_append_left _ (List.mem_of_getElem? (i := 202) rfl)), rfl⟩, Or.inl rfl⟩⟩
theorem fl_pk_31 : ev_fl "LicenceRules$Pack" 31 1 4 false (.int) := ⟨RC_pk, FT_pk, 5, ft_pk, k_pk, by decide, rfl, rfl, Or.inl ⟨List.mem_filter.mpr ⟨List.mem_append_right _ (List.mem_append_left _ (List.mem_of_getElem? (i := 204) rfl)), rfl⟩, fun _ => rfl⟩⟩
theorem pl_pk_init_31 : ev_pl M_pk_init 31 1 4 (.int) := ⟨RC_pk, FT_pk, 5, ft_pk, k_pk, by decide, rfl, Or.inl ⟨List.mem_filter.mpr ⟨List.mem_append_right _ (List.mem_append_left _ (List.mem_of_getElem? (i := 204) rfl)), rfl⟩, Or.inl rfl⟩⟩
theorem pl_pk_addUse_27 : ev_pl M_pk_addUse 27 1 3 (.int) := ⟨RC_pk, FT_pk, 5, ft_pk, k_pk, by decide, rfl, Or.inl ⟨List.mem_filter.mpr ⟨List.mem_append_right _ (List.mem_append_left _ (List.mem_of_getElem? (i := 202) rfl)), rfl⟩, Or.inl rfl⟩⟩
theorem ob_rd_3 : Cond.methodLink "LicenceRules$Reader" 3 Lib.objectInit ∈ ev_WS := List.mem_filter.mpr ⟨List.mem_append_right _ (List.mem_append_left _ (List.mem_of_getElem? (i := 46) rfl)), rfl⟩
theorem fl_rd_9 : ev_fl "LicenceRules$Reader" 9 2 0 true (.array .char) := ⟨RC_rd, FT_rd, 10, ft_rd, k_rd, by decide, rfl, rfl, Or.inl ⟨List.mem_filter.mpr ⟨List.mem_append_right _ (List.mem_append_left _ (List.mem_of_getElem? (i := 68) rfl)), rfl⟩, fun _ => rfl⟩⟩
theorem pl_rd_init_9 : ev_pl M_rd_init 9 2 0 (.array .char) := ⟨RC_rd, FT_rd, 10, ft_rd, k_rd, by decide, rfl, Or.inl ⟨List.mem_filter.mpr ⟨List.mem_append_right _ (List.mem_append_left _ (List.mem_of_getElem? (i := 68) rfl)), rfl⟩, Or.inr ⟨rfl, rfl, rfl⟩⟩⟩
theorem cl_rd_15 : Cond.classLink "LicenceRules$Reader" 15 "LicenceRules$Form" ∈ ev_WS := List.mem_filter.mpr ⟨List.mem_append_right _ (List.mem_append_left _ (List.mem_of_getElem? (i := 47) rfl)), rfl⟩
theorem fl_rd_17 : ev_fl "LicenceRules$Reader" 17 2 1 true (.array (.object "LicenceRules$Form")) := ⟨RC_rd, FT_rd, 10, ft_rd, k_rd, by decide, rfl, rfl, Or.inl ⟨List.mem_filter.mpr ⟨List.mem_append_right _ (List.mem_append_left _ (List.mem_of_getElem? (i := 69) rfl)), rfl⟩, fun _ => rfl⟩⟩
theorem pl_rd_init_17 : ev_pl M_rd_init 17 2 1 (.array (.object "LicenceRules$Form")) := ⟨RC_rd, FT_rd, 10, ft_rd, k_rd, by decide, rfl, Or.inl ⟨List.mem_filter.mpr ⟨List.mem_append_right _ (List.mem_append_left _ (List.mem_of_getElem? (i := 69) rfl)), rfl⟩, Or.inr ⟨rfl, rfl, rfl⟩⟩⟩
theorem fl_rd_21 : ev_fl "LicenceRules$Reader" 21 2 2 true (.array (.object "LicenceRules$Form")) := ⟨RC_rd, FT_rd, 10, ft_rd, k_rd, by decide, rfl, rfl, Or.inl ⟨List.mem_filter.mpr ⟨List.mem_append_right _ (List.mem_append_left _ (List.mem_of_getElem? (i := 70) rfl)), rfl⟩, fun _ => rfl⟩⟩
theorem pl_rd_init_21 : ev_pl M_rd_init 21 2 2 (.array (.object "LicenceRules$Form")) := ⟨RC_rd, FT_rd, 10, ft_rd, k_rd, by decide, rfl, Or.inl ⟨List.mem_filter.mpr ⟨List.mem_append_right _ (List.mem_append_left _ (List.mem_of_getElem? (i := 70) rfl)), rfl⟩, Or.inr ⟨rfl, rfl, rfl⟩⟩⟩
theorem lk_rd_24 : ev_lk "LicenceRules$Reader" 24 M_fo_init := Or.inl (List.mem_filter.mpr ⟨List.mem_append_right _ (List.mem_append_left _ (List.mem_of_getElem? (i := 50) rfl)), rfl⟩)
theorem fl_rd_27 : ev_fl "LicenceRules$Reader" 27 2 3 true (.object "LicenceRules$Form") := ⟨RC_rd, FT_rd, 10, ft_rd, k_rd, by decide, rfl, rfl, Or.inl ⟨List.mem_filter.mpr ⟨List.mem_append_right _ (List.mem_append_left _ (List.mem_of_getElem? (i := 71) rfl)), rfl⟩, fun _ => rfl⟩⟩
theorem pl_rd_init_27 : ev_pl M_rd_init 27 2 3 (.object "LicenceRules$Form") := ⟨RC_rd, FT_rd, 10, ft_rd, k_rd, by decide, rfl, Or.inl ⟨List.mem_filter.mpr ⟨List.mem_append_right _ (List.mem_append_left _ (List.mem_of_getElem? (i := 71) rfl)), rfl⟩, Or.inr ⟨rfl, rfl, rfl⟩⟩⟩
theorem fl_rd_31 : ev_fl "LicenceRules$Reader" 31 2 4 true (.object "LicenceRules$Form") := ⟨RC_rd, FT_rd, 10, ft_rd, k_rd, by decide, rfl, rfl, Or.inl ⟨List.mem_filter.mpr ⟨List.mem_append_right _ (List.mem_append_left _ (List.mem_of_getElem? (i := 72) rfl)), rfl⟩, fun _ => rfl⟩⟩
theorem pl_rd_init_31 : ev_pl M_rd_init 31 2 4 (.object "LicenceRules$Form") := ⟨RC_rd, FT_rd, 10, ft_rd, k_rd, by decide, rfl, Or.inl ⟨List.mem_filter.mpr ⟨List.mem_append_right _ (List.mem_append_left _ (List.mem_of_getElem? (i := 72) rfl)), rfl⟩, Or.inr ⟨rfl, rfl, rfl⟩⟩⟩
theorem fl_rd_34 : ev_fl "LicenceRules$Reader" 34 2 5 false (.int) := ⟨RC_rd, FT_rd, 10, ft_rd, k_rd, by decide, rfl, rfl, Or.inl ⟨List.mem_filter.mpr ⟨List.mem_append_right _ (List.mem_append_left _ (List.mem_of_getElem? (i := 73) rfl)), rfl⟩, fun _ => rfl⟩⟩
theorem pl_rd_init_34 : ev_pl M_rd_init 34 2 5 (.int) := ⟨RC_rd, FT_rd, 10, ft_rd, k_rd, by decide, rfl, Or.inl ⟨List.mem_filter.mpr ⟨List.mem_append_right _ (List.mem_append_left _ (List.mem_of_getElem? (i := 73) rfl)), rfl⟩, Or.inl rfl⟩⟩
theorem fl_rd_38 : ev_fl "LicenceRules$Reader" 38 2 6 false (.int) := ⟨RC_rd, FT_rd, 10, ft_rd, k_rd, by decide, rfl, rfl, Or.inl ⟨List.mem_filter.mpr ⟨List.mem_append_right _ (List.mem_append_left _ (List.mem_of_getElem? (i := 74) rfl)), rfl⟩, fun _ => rfl⟩⟩
theorem pl_rd_init_38 : ev_pl M_rd_init 38 2 6 (.int) := ⟨RC_rd, FT_rd, 10, ft_rd, k_rd, by decide, rfl, Or.inl ⟨List.mem_filter.mpr ⟨List.mem_append_right _ (List.mem_append_left _ (List.mem_of_getElem? (i := 74) rfl)), rfl⟩, Or.inl rfl⟩⟩
theorem fl_rd_41 : ev_fl "LicenceRules$Reader" 41 2 7 false (.int) := ⟨RC_rd, FT_rd, 10, ft_rd, k_rd, by decide, rfl, rfl, Or.inl ⟨List.mem_filter.mpr ⟨List.mem_append_right _ (List.mem_append_left _ (List.mem_of_getElem? (i := 75) rfl)), rfl⟩, fun _ => rfl⟩⟩
theorem pl_rd_init_41 : ev_pl M_rd_init 41 2 7 (.int) := ⟨RC_rd, FT_rd, 10, ft_rd, k_rd, by decide, rfl, Or.inl ⟨List.mem_filter.mpr ⟨List.mem_append_right _ (List.mem_append_left _ (List.mem_of_getElem? (i := 75) rfl)), rfl⟩, Or.inl rfl⟩⟩
theorem fl_rd_44 : ev_fl "LicenceRules$Reader" 44 2 8 false (.int) := ⟨RC_rd, FT_rd, 10, ft_rd, k_rd, by decide, rfl, rfl, Or.inl ⟨List.mem_filter.mpr ⟨List.mem_append_right _ (List.mem_append_left _ (List.mem_of_getElem? (i := 76) rfl)), rfl⟩, fun _ => rfl⟩⟩
theorem pl_rd_init_44 : ev_pl M_rd_init 44 2 8 (.int) := ⟨RC_rd, FT_rd, 10, ft_rd, k_rd, by decide, rfl, Or.inl ⟨List.mem_filter.mpr ⟨List.mem_append_right _ (List.mem_append_left _ (List.mem_of_getElem? (i := 76) rfl)), rfl⟩, Or.inl rfl⟩⟩
theorem fl_rd_47 : ev_fl "LicenceRules$Reader" 47 2 9 false (.boolean) := ⟨RC_rd, FT_rd, 10, ft_rd, k_rd, by decide, rfl, rfl, Or.inl ⟨List.mem_filter.mpr ⟨List.mem_append_right _ (List.mem_append_left _ (List.mem_of_getElem? (i := 77) rfl)), rfl⟩, fun _ => rfl⟩⟩
theorem pl_rd_init_47 : ev_pl M_rd_init 47 2 9 (.boolean) := ⟨RC_rd, FT_rd, 10, ft_rd, k_rd, by decide, rfl, Or.inl ⟨List.mem_filter.mpr ⟨List.mem_append_right _ (List.mem_append_left _ (List.mem_of_getElem? (i := 77) rfl)), rfl⟩, Or.inl rfl⟩⟩
theorem pl_rd_append_34 : ev_pl M_rd_append 34 2 5 (.int) := ⟨RC_rd, FT_rd, 10, ft_rd, k_rd, by decide, rfl, Or.inl ⟨List.mem_filter.mpr ⟨List.mem_append_right _ (List.mem_append_left _ (List.mem_of_getElem? (i := 73) rfl)), rfl⟩, Or.inl rfl⟩⟩
theorem pl_rd_empty_34 : ev_pl M_rd_empty 34 2 5 (.int) := ⟨RC_rd, FT_rd, 10, ft_rd, k_rd, by decide, rfl, Or.inl ⟨List.mem_filter.mpr ⟨List.mem_append_right _ (List.mem_append_left _ (List.mem_of_getElem? (i := 73) rfl)), rfl⟩, Or.inl rfl⟩⟩
theorem pl_rd_read_38 : ev_pl M_rd_read 38 2 6 (.int) := ⟨RC_rd, FT_rd, 10, ft_rd, k_rd, by decide, rfl, Or.inl ⟨List.mem_filter.mpr ⟨List.mem_append_right _ (List.mem_append_left _ (List.mem_of_getElem? (i := 74) rfl)), rfl⟩, Or.inl rfl⟩⟩
theorem pl_rd_read_41 : ev_pl M_rd_read 41 2 7 (.int) := ⟨RC_rd, FT_rd, 10, ft_rd, k_rd, by decide, rfl, Or.inl ⟨List.mem_filter.mpr ⟨List.mem_append_right _ (List.mem_append_left _ (List.mem_of_getElem? (i := 75) rfl)), rfl⟩, Or.inl rfl⟩⟩
theorem pl_rd_read_47 : ev_pl M_rd_read 47 2 9 (.boolean) := ⟨RC_rd, FT_rd, 10, ft_rd, k_rd, by decide, rfl, Or.inl ⟨List.mem_filter.mpr ⟨List.mem_append_right _ (List.mem_append_left _ (List.mem_of_getElem? (i := 77) rfl)), rfl⟩, Or.inl rfl⟩⟩
theorem lk_rd_51 : ev_lk "LicenceRules$Reader" 51 M_rd_startLevel := Or.inl (List.mem_filter.mpr ⟨List.mem_append_right _ (List.mem_append_left _ (List.mem_of_getElem? (i := 234) rfl)), rfl⟩)
theorem lk_rd_54 : ev_lk "LicenceRules$Reader" 54 M_rd_takes := Or.inl (List.mem_filter.mpr ⟨List.mem_append_right _ (List.mem_append_right _ (List.mem_append_left _ (List.mem_of_getElem? (i := 2) rfl))), rfl⟩)
theorem lk_rd_58 : ev_lk "LicenceRules$Reader" 58 M_rd_endName := Or.inl (List.mem_filter.mpr ⟨List.mem_append_right _ (List.mem_append_right _ (List.mem_append_left _ (List.mem_of_getElem? (i := 57) rfl))), rfl⟩)
theorem lk_rd_61 : ev_lk "LicenceRules$Reader" 61 M_rd_endAlso := Or.inl (List.mem_filter.mpr ⟨List.mem_append_right _ (List.mem_append_right _ (List.mem_append_left _ (List.mem_of_getElem? (i := 65) rfl))), rfl⟩)
theorem lk_rd_64 : ev_lk "LicenceRules$Reader" 64 M_rd_opens := Or.inl (List.mem_filter.mpr ⟨List.mem_append_right _ (List.mem_append_right _ (List.mem_append_left _ (List.mem_of_getElem? (i := 6) rfl))), rfl⟩)
theorem lk_rd_68 : ev_lk "LicenceRules$Reader" 68 M_rd_takesName := Or.inl (List.mem_filter.mpr ⟨List.mem_append_right _ (List.mem_append_right _ (List.mem_append_left _ (List.mem_of_getElem? (i := 10) rfl))), rfl⟩)
theorem lk_rd_71 : ev_lk "LicenceRules$Reader" 71 M_rd_takesDigit := Or.inl (List.mem_filter.mpr ⟨List.mem_append_right _ (List.mem_append_right _ (List.mem_append_left _ (List.mem_of_getElem? (i := 14) rfl))), rfl⟩)
theorem pl_rd_takes_41 : ev_pl M_rd_takes 41 2 7 (.int) := ⟨RC_rd, FT_rd, 10, ft_rd, k_rd, by decide, rfl, Or.inl ⟨List.mem_filter.mpr ⟨List.mem_append_right _ (List.mem_append_left _ (List.mem_of_getElem? (i := 75) rfl)), rfl⟩, Or.inl rfl⟩⟩
theorem lk_rd_75 : ev_lk "LicenceRules$Reader" 75 M_rd_closes := Or.inl (List.mem_filter.mpr ⟨List.mem_append_right _ (List.mem_append_right _ (List.mem_append_left _ (List.mem_of_getElem? (i := 61) rfl))), rfl⟩)
theorem lk_rd_78 : ev_lk "LicenceRules$Reader" 78 M_rd_takesSign := Or.inl (List.mem_filter.mpr ⟨List.mem_append_right _ (List.mem_append_right _ (List.mem_append_left _ (List.mem_of_getElem? (i := 69) rfl))), rfl⟩)
theorem pl_rd_opens_38 : ev_pl M_rd_opens 38 2 6 (.int) := ⟨RC_rd, FT_rd, 10, ft_rd, k_rd, by decide, rfl, Or.inl ⟨List.mem_filter.mpr ⟨List.mem_append_right _ (List.mem_append_left _ (List.mem_of_getElem? (i := 74) rfl)), rfl⟩, Or.inl rfl⟩⟩
theorem pl_rd_takesName_44 : ev_pl M_rd_takesName 44 2 8 (.int) := ⟨RC_rd, FT_rd, 10, ft_rd, k_rd, by decide, rfl, Or.inl ⟨List.mem_filter.mpr ⟨List.mem_append_right _ (List.mem_append_left _ (List.mem_of_getElem? (i := 76) rfl)), rfl⟩, Or.inl rfl⟩⟩
theorem pl_rd_takesName_41 : ev_pl M_rd_takesName 41 2 7 (.int) := ⟨RC_rd, FT_rd, 10, ft_rd, k_rd, by decide, rfl, Or.inl ⟨List.mem_filter.mpr ⟨List.mem_append_right _ (List.mem_append_left _ (List.mem_of_getElem? (i := 75) rfl)), rfl⟩, Or.inl rfl⟩⟩
theorem lk_rd_81 : ev_lk "LicenceRules$Reader" 81 M_fo_setOnly := Or.inl (List.mem_filter.mpr ⟨List.mem_append_right _ (List.mem_append_right _ (List.mem_append_left _ (List.mem_of_getElem? (i := 18) rfl))), rfl⟩)
theorem lk_rd_84 : ev_lk "LicenceRules$Reader" 84 M_rd_endAtom := Or.inl (List.mem_filter.mpr ⟨List.mem_append_right _ (List.mem_append_right _ (List.mem_append_left _ (List.mem_of_getElem? (i := 22) rfl))), rfl⟩)
theorem pl_rd_closes_38 : ev_pl M_rd_closes 38 2 6 (.int) := ⟨RC_rd, FT_rd, 10, ft_rd, k_rd, by decide, rfl, Or.inl ⟨List.mem_filter.mpr ⟨List.mem_append_right _ (List.mem_append_left _ (List.mem_of_getElem? (i := 74) rfl)), rfl⟩, Or.inl rfl⟩⟩
theorem pl_rd_takesSign_41 : ev_pl M_rd_takesSign 41 2 7 (.int) := ⟨RC_rd, FT_rd, 10, ft_rd, k_rd, by decide, rfl, Or.inl ⟨List.mem_filter.mpr ⟨List.mem_append_right _ (List.mem_append_left _ (List.mem_of_getElem? (i := 75) rfl)), rfl⟩, Or.inl rfl⟩⟩
theorem lk_rd_88 : ev_lk "LicenceRules$Reader" 88 M_fo_clear := Or.inl (List.mem_filter.mpr ⟨List.mem_append_right _ (List.mem_append_left _ (List.mem_of_getElem? (i := 238) rfl)), rfl⟩)
theorem pl_rd_endAtom_41 : ev_pl M_rd_endAtom 41 2 7 (.int) := ⟨RC_rd, FT_rd, 10, ft_rd, k_rd, by decide, rfl, Or.inl ⟨List.mem_filter.mpr ⟨List.mem_append_right _ (List.mem_append_left _ (List.mem_of_getElem? (i := 75) rfl)), rfl⟩, Or.inl rfl⟩⟩
theorem lk_rd_91 : ev_lk "LicenceRules$Reader" 91 M_fo_size := Or.inl (List.mem_filter.mpr ⟨List.mem_append_right _ (List.mem_append_right _ (List.mem_append_left _ (List.mem_of_getElem? (i := 26) rfl))), rfl⟩)
theorem lk_rd_95 : ev_lk "LicenceRules$Reader" 95 M_fo_copyFrom := Or.inl (List.mem_filter.mpr ⟨List.mem_append_right _ (List.mem_append_right _ (List.mem_append_left _ (List.mem_of_getElem? (i := 30) rfl))), rfl⟩)
theorem lk_rd_98 : ev_lk "LicenceRules$Reader" 98 M_fo_addJoined := Or.inl (List.mem_filter.mpr ⟨List.mem_append_right _ (List.mem_append_right _ (List.mem_append_left _ (List.mem_of_getElem? (i := 40) rfl))), rfl⟩)
theorem lk_rd_102 : ev_lk "LicenceRules$Reader" 102 M_rd_keepWork := Or.inl (List.mem_filter.mpr ⟨List.mem_append_right _ (List.mem_append_right _ (List.mem_append_left _ (List.mem_of_getElem? (i := 53) rfl))), rfl⟩)
theorem pl_rd_keepWork_47 : ev_pl M_rd_keepWork 47 2 9 (.boolean) := ⟨RC_rd, FT_rd, 10, ft_rd, k_rd, by decide, rfl, Or.inl ⟨List.mem_filter.mpr ⟨List.mem_append_right _ (List.mem_append_left _ (List.mem_of_getElem? (i := 77) rfl)), rfl⟩, Or.inl rfl⟩⟩
theorem ob_rv_3 : Cond.methodLink "LicenceRules$Review" 3 Lib.objectInit ∈ ev_WS := List.mem_filter.mpr ⟨List.mem_append_right _ (List.mem_append_left _ (List.mem_of_getElem? (i := 106) rfl)), rfl⟩
theorem fl_rv_11 : ev_fl "LicenceRules$Review" 11 3 0 true (.array .int) := ⟨RC_rv, FT_rv, 6, ft_rv, k_rv, by decide, rfl, rfl, Or.inl ⟨List.mem_filter.mpr ⟨List.mem_append_right _ (List.mem_append_left _ (List.mem_of_getElem? (i := 107) rfl)), rfl⟩, fun _ => rfl⟩⟩
theorem pl_rv_init_11 : ev_pl M_rv_init 11 3 0 (.array .int) := ⟨RC_rv, FT_rv, 6, ft_rv, k_rv, by decide, rfl, Or.inl ⟨List.mem_filter.mpr ⟨List.mem_append_right _ (List.mem_append_left _ (List.mem_of_getElem? (i := 107) rfl)), rfl⟩, Or.inr ⟨rfl, rfl, rfl⟩⟩⟩
theorem fl_rv_15 : ev_fl "LicenceRules$Review" 15 3 1 true (.array .int) := ⟨RC_rv, FT_rv, 6, ft_rv, k_rv, by decide, rfl, rfl, Or.inl ⟨List.mem_filter.mpr ⟨List.mem_append_right _ (List.mem_append_left _ (List.mem_of_getElem? (i := 108) rfl)), rfl⟩, fun _ => rfl⟩⟩
theorem pl_rv_init_15 : ev_pl M_rv_init 15 3 1 (.array .int) := ⟨RC_rv, FT_rv, 6, ft_rv, k_rv, by decide, rfl, Or.inl ⟨List.mem_filter.mpr ⟨List.mem_append_right _ (List.mem_append_left _ (List.mem_of_getElem? (i := 108) rfl)), rfl⟩, Or.inr ⟨rfl, rfl, rfl⟩⟩⟩
theorem fl_rv_18 : ev_fl "LicenceRules$Review" 18 3 2 true (.array .int) := ⟨RC_rv, FT_rv, 6, ft_rv, k_rv, by decide, rfl, rfl, Or.inl ⟨List.mem_filter.mpr ⟨List.mem_append_right _ (List.mem_append_left _ (List.mem_of_getElem? (i := 109) rfl)), rfl⟩, fun _ => rfl⟩⟩
theorem pl_rv_init_18 : ev_pl M_rv_init 18 3 2 (.array .int) := ⟨RC_rv, FT_rv, 6, ft_rv, k_rv, by decide, rfl, Or.inl ⟨List.mem_filter.mpr ⟨List.mem_append_right _ (List.mem_append_left _ (List.mem_of_getElem? (i := 109) rfl)), rfl⟩, Or.inr ⟨rfl, rfl, rfl⟩⟩⟩
theorem fl_rv_21 : ev_fl "LicenceRules$Review" 21 3 3 true (.array .int) := ⟨RC_rv, FT_rv, 6, ft_rv, k_rv, by decide, rfl, rfl, Or.inl ⟨List.mem_filter.mpr ⟨List.mem_append_right _ (List.mem_append_left _ (List.mem_of_getElem? (i := 110) rfl)), rfl⟩, fun _ => rfl⟩⟩
theorem pl_rv_init_21 : ev_pl M_rv_init 21 3 3 (.array .int) := ⟨RC_rv, FT_rv, 6, ft_rv, k_rv, by decide, rfl, Or.inl ⟨List.mem_filter.mpr ⟨List.mem_append_right _ (List.mem_append_left _ (List.mem_of_getElem? (i := 110) rfl)), rfl⟩, Or.inr ⟨rfl, rfl, rfl⟩⟩⟩
theorem fl_rv_24 : ev_fl "LicenceRules$Review" 24 3 4 true (.array .int) := ⟨RC_rv, FT_rv, 6, ft_rv, k_rv, by decide, rfl, rfl, Or.inl ⟨List.mem_filter.mpr ⟨List.mem_append_right _ (List.mem_append_left _ (List.mem_of_getElem? (i := 111) rfl)), rfl⟩, fun _ => rfl⟩⟩
theorem pl_rv_init_24 : ev_pl M_rv_init 24 3 4 (.array .int) := ⟨RC_rv, FT_rv, 6, ft_rv, k_rv, by decide, rfl, Or.inl ⟨List.mem_filter.mpr ⟨List.mem_append_right _ (List.mem_append_left _ (List.mem_of_getElem? (i := 111) rfl)), rfl⟩, Or.inr ⟨rfl, rfl, rfl⟩⟩⟩
theorem fl_rv_27 : ev_fl "LicenceRules$Review" 27 3 5 false (.int) := ⟨RC_rv, FT_rv, 6, ft_rv, k_rv, by decide, rfl, rfl, Or.inl ⟨List.mem_filter.mpr ⟨List.mem_append_right _ (List.mem_append_left _ (List.mem_of_getElem? (i := 112) rfl)), rfl⟩, fun _ => rfl⟩⟩
theorem pl_rv_init_27 : ev_pl M_rv_init 27 3 5 (.int) := ⟨RC_rv, FT_rv, 6, ft_rv, k_rv, by decide, rfl, Or.inl ⟨List.mem_filter.mpr ⟨List.mem_append_right _ (List.mem_append_left _ (List.mem_of_getElem? (i := 112) rfl)), rfl⟩, Or.inl rfl⟩⟩
theorem pl_rv_walk_27 : ev_pl M_rv_walk 27 3 5 (.int) := ⟨RC_rv, FT_rv, 6, ft_rv, k_rv, by decide, rfl, Or.inl ⟨List.mem_filter.mpr ⟨List.mem_append_right _ (List.mem_append_left _ (List.mem_of_getElem? (i := 112) rfl)), rfl⟩, Or.inl rfl⟩⟩
theorem lk_rv_31 : ev_lk "LicenceRules$Review" 31 M_rv_addOnce := Or.inl (List.mem_filter.mpr ⟨List.mem_append_right _ (List.mem_append_right _ (List.mem_append_left _ (List.mem_of_getElem? (i := 169) rfl))), rfl⟩)
theorem fl_rv_35 : ev_fl "LicenceRules$Review" 35 1 3 false (.int) := ⟨RC_pk, FT_pk, 5, ft_pk, k_pk, by decide, rfl, rfl, Or.inr (Or.inr ⟨"LicenceRules", List.mem_filter.mpr ⟨List.mem_append_right _ (List.mem_append_left _ (List.mem_of_getElem? (i := 203) rfl)), rfl⟩⟩)⟩
theorem fl_rv_40 : ev_fl "LicenceRules$Review" 40 1 1 true (.array .int) := ⟨RC_pk, FT_pk, 5, ft_pk, k_pk, by decide, rfl, rfl, Or.inr (Or.inr ⟨"LicenceRules", List.mem_filter.mpr ⟨List.mem_append_right _ (List.mem_append_left _ (List.mem_of_getElem? (i := 199) rfl)), rfl⟩⟩)⟩
theorem fl_rv_43 : ev_fl "LicenceRules$Review" 43 1 2 true (.array .int) := ⟨RC_pk, FT_pk, 5, ft_pk, k_pk, by decide, rfl, rfl, Or.inr (Or.inr ⟨"LicenceRules", List.mem_filter.mpr ⟨List.mem_append_right _ (List.mem_append_left _ (List.mem_of_getElem? (i := 201) rfl)), rfl⟩⟩)⟩
theorem ma_rv_46 : Cond.methodLink "LicenceRules$Review" 46 Lib.Math.max.name ∈ ev_WS := List.mem_filter.mpr ⟨List.mem_append_right _ (List.mem_append_right _ (List.mem_append_left _ (List.mem_of_getElem? (i := 173) rfl))), rfl⟩
theorem pl_rv_addOnce_27 : ev_pl M_rv_addOnce 27 3 5 (.int) := ⟨RC_rv, FT_rv, 6, ft_rv, k_rv, by decide, rfl, Or.inl ⟨List.mem_filter.mpr ⟨List.mem_append_right _ (List.mem_append_left _ (List.mem_of_getElem? (i := 112) rfl)), rfl⟩, Or.inl rfl⟩⟩
theorem fl_rv_52 : ev_fl "LicenceRules$Review" 52 1 0 true (.object "LicenceRules$Form") := ⟨RC_pk, FT_pk, 5, ft_pk, k_pk, by decide, rfl, rfl, Or.inr (Or.inr ⟨"LicenceRules", List.mem_filter.mpr ⟨List.mem_append_right _ (List.mem_append_left _ (List.mem_of_getElem? (i := 196) rfl)), rfl⟩⟩)⟩
theorem lk_rv_56 : ev_lk "LicenceRules$Review" 56 M_fo_size := Or.inl (List.mem_filter.mpr ⟨List.mem_append_right _ (List.mem_append_right _ (List.mem_append_left _ (List.mem_of_getElem? (i := 178) rfl))), rfl⟩)
theorem lk_rv_62 : ev_lk "LicenceRules$Review" 62 M_rv_judgeOne := Or.inl (List.mem_filter.mpr ⟨List.mem_append_right _ (List.mem_append_right _ (List.mem_append_left _ (List.mem_of_getElem? (i := 179) rfl))), rfl⟩)
theorem lk_rv_66 : ev_lk "LicenceRules$Review" 66 M_ru_bestOf := Or.inl (List.mem_filter.mpr ⟨List.mem_append_right _ (List.mem_append_right _ (List.mem_append_left _ (List.mem_of_getElem? (i := 183) rfl))), rfl⟩)
theorem fl_rv_72 : ev_fl "LicenceRules$Review" 72 1 4 false (.int) := ⟨RC_pk, FT_pk, 5, ft_pk, k_pk, by decide, rfl, rfl, Or.inr (Or.inr ⟨"LicenceRules", List.mem_filter.mpr ⟨List.mem_append_right _ (List.mem_append_left _ (List.mem_of_getElem? (i := 205) rfl)), rfl⟩⟩)⟩
theorem lk_rv_75 : ev_lk "LicenceRules$Review" 75 M_ru_termsOf := Or.inl (List.mem_filter.mpr ⟨List.mem_append_right _ (List.mem_append_right _ (List.mem_append_left _ (List.mem_of_getElem? (i := 184) rfl))), rfl⟩)
theorem lk_rv_79 : ev_lk "LicenceRules$Review" 79 M_rv_isFirstOfItsPack := Or.inl (List.mem_filter.mpr ⟨List.mem_append_right _ (List.mem_append_right _ (List.mem_append_left _ (List.mem_of_getElem? (i := 209) rfl))), rfl⟩)
theorem ob_ru_3 : Cond.methodLink "LicenceRules$Rules" 3 Lib.objectInit ∈ ev_WS := List.mem_filter.mpr ⟨List.mem_append_right _ (List.mem_append_left _ (List.mem_of_getElem? (i := 25) rfl)), rfl⟩
theorem fl_ru_9 : ev_fl "LicenceRules$Rules" 9 4 0 true (.array .long) := ⟨RC_ru, FT_ru, 4, ft_ru, k_ru, by decide, rfl, rfl, Or.inl ⟨List.mem_filter.mpr ⟨List.mem_append_right _ (List.mem_append_left _ (List.mem_of_getElem? (i := 26) rfl)), rfl⟩, fun _ => rfl⟩⟩
theorem pl_ru_init_9 : ev_pl M_ru_init 9 4 0 (.array .long) := ⟨RC_ru, FT_ru, 4, ft_ru, k_ru, by decide, rfl, Or.inl ⟨List.mem_filter.mpr ⟨List.mem_append_right _ (List.mem_append_left _ (List.mem_of_getElem? (i := 26) rfl)), rfl⟩, Or.inr ⟨rfl, rfl, rfl⟩⟩⟩
theorem fl_ru_15 : ev_fl "LicenceRules$Rules" 15 4 1 true (.array .int) := ⟨RC_ru, FT_ru, 4, ft_ru, k_ru, by decide, rfl, rfl, Or.inl ⟨List.mem_filter.mpr ⟨List.mem_append_right _ (List.mem_append_left _ (List.mem_of_getElem? (i := 27) rfl)), rfl⟩, fun _ => rfl⟩⟩
theorem pl_ru_init_15 : ev_pl M_ru_init 15 4 1 (.array .int) := ⟨RC_ru, FT_ru, 4, ft_ru, k_ru, by decide, rfl, Or.inl ⟨List.mem_filter.mpr ⟨List.mem_append_right _ (List.mem_append_left _ (List.mem_of_getElem? (i := 27) rfl)), rfl⟩, Or.inr ⟨rfl, rfl, rfl⟩⟩⟩
theorem fl_ru_19 : ev_fl "LicenceRules$Rules" 19 4 2 true (.array .int) := ⟨RC_ru, FT_ru, 4, ft_ru, k_ru, by decide, rfl, rfl, Or.inl ⟨List.mem_filter.mpr ⟨List.mem_append_right _ (List.mem_append_left _ (List.mem_of_getElem? (i := 28) rfl)), rfl⟩, fun _ => rfl⟩⟩
theorem pl_ru_init_19 : ev_pl M_ru_init 19 4 2 (.array .int) := ⟨RC_ru, FT_ru, 4, ft_ru, k_ru, by decide, rfl, Or.inl ⟨List.mem_filter.mpr ⟨List.mem_append_right _ (List.mem_append_left _ (List.mem_of_getElem? (i := 28) rfl)), rfl⟩, Or.inr ⟨rfl, rfl, rfl⟩⟩⟩
theorem fl_ru_22 : ev_fl "LicenceRules$Rules" 22 4 3 false (.int) := ⟨RC_ru, FT_ru, 4, ft_ru, k_ru, by decide, rfl, rfl, Or.inl ⟨List.mem_filter.mpr ⟨List.mem_append_right _ (List.mem_append_left _ (List.mem_of_getElem? (i := 29) rfl)), rfl⟩, fun _ => rfl⟩⟩
theorem pl_ru_init_22 : ev_pl M_ru_init 22 4 3 (.int) := ⟨RC_ru, FT_ru, 4, ft_ru, k_ru, by decide, rfl, Or.inl ⟨List.mem_filter.mpr ⟨List.mem_append_right _ (List.mem_append_left _ (List.mem_of_getElem? (i := 29) rfl)), rfl⟩, Or.inl rfl⟩⟩
theorem pl_ru_addLicence_22 : ev_pl M_ru_addLicence 22 4 3 (.int) := ⟨RC_ru, FT_ru, 4, ft_ru, k_ru, by decide, rfl, Or.inl ⟨List.mem_filter.mpr ⟨List.mem_append_right _ (List.mem_append_left _ (List.mem_of_getElem? (i := 29) rfl)), rfl⟩, Or.inl rfl⟩⟩
theorem lk_ru_26 : ev_lk "LicenceRules$Rules" 26 M_fo_holds := Or.inl (List.mem_filter.mpr ⟨List.mem_append_right _ (List.mem_append_right _ (List.mem_append_left _ (List.mem_of_getElem? (i := 116) rfl))), rfl⟩)
theorem lk_ru_32 : ev_lk "LicenceRules$Rules" 32 M_ru_termsOfCode := Or.inl (List.mem_filter.mpr ⟨List.mem_append_right _ (List.mem_append_right _ (List.mem_append_left _ (List.mem_of_getElem? (i := 117) rfl))), rfl⟩)
theorem lk_ru_36 : ev_lk "LicenceRules$Rules" 36 M_fo_size := Or.inl (List.mem_filter.mpr ⟨List.mem_append_right _ (List.mem_append_right _ (List.mem_append_left _ (List.mem_of_getElem? (i := 111) rfl))), rfl⟩)
theorem lk_ru_40 : ev_lk "LicenceRules$Rules" 40 M_ru_termsOf := Or.inl (List.mem_filter.mpr ⟨List.mem_append_right _ (List.mem_append_right _ (List.mem_append_left _ (List.mem_of_getElem? (i := 112) rfl))), rfl⟩)
theorem lk_ru_44 : ev_lk "LicenceRules$Rules" 44 M_jin_bitCount := Or.inl (List.mem_filter.mpr ⟨List.mem_append_right _ (List.mem_append_right _ (List.mem_append_left _ (List.mem_of_getElem? (i := 121) rfl))), rfl⟩)
theorem lk_ru_50 : ev_lk "LicenceRules$Rules" 50 M_fo_pairCount := Or.inl (List.mem_filter.mpr ⟨List.mem_append_right _ (List.mem_append_right _ (List.mem_append_left _ (List.mem_of_getElem? (i := 127) rfl))), rfl⟩)
theorem lk_ru_53 : ev_lk "LicenceRules$Rules" 53 M_jlo_bitCount := Or.inl (List.mem_filter.mpr ⟨List.mem_append_right _ (List.mem_append_right _ (List.mem_append_left _ (List.mem_of_getElem? (i := 221) rfl))), rfl⟩)
theorem ob_lr_3 : Cond.methodLink "LicenceRules" 3 Lib.objectInit ∈ ev_WS := List.mem_filter.mpr ⟨List.mem_append_right _ (List.mem_append_left _ (List.mem_of_getElem? (i := 17) rfl)), rfl⟩
theorem cl_lr_9 : Cond.classLink "LicenceRules" 9 "LicenceRules$Rules" ∈ ev_WS := List.mem_filter.mpr ⟨List.mem_append_right _ (List.mem_append_left _ (List.mem_of_getElem? (i := 20) rfl)), rfl⟩
theorem lk_lr_11 : ev_lk "LicenceRules" 11 M_ru_init := Or.inr ⟨"LicenceRules", List.mem_filter.mpr ⟨List.mem_append_right _ (List.mem_append_left _ (List.mem_of_getElem? (i := 22) rfl)), rfl⟩⟩
theorem fl_lr_12 : ev_fl "LicenceRules" 12 5 0 true (.object "LicenceRules$Rules") := ⟨RC_lr, FT_lr, 6, ft_lr, k_lr, by decide, rfl, rfl, Or.inl ⟨List.mem_filter.mpr ⟨List.mem_append_right _ (List.mem_append_left _ (List.mem_of_getElem? (i := 126) rfl)), rfl⟩, fun _ => rfl⟩⟩
theorem pl_lr_init_12 : ev_pl M_lr_init 12 5 0 (.object "LicenceRules$Rules") := ⟨RC_lr, FT_lr, 6, ft_lr, k_lr, by decide, rfl, Or.inl ⟨List.mem_filter.mpr ⟨List.mem_append_right _ (List.mem_append_left _ (List.mem_of_getElem? (i := 126) rfl)), rfl⟩, Or.inr ⟨rfl, rfl, rfl⟩⟩⟩
theorem cl_lr_16 : Cond.classLink "LicenceRules" 16 "LicenceRules$Reader" ∈ ev_WS := List.mem_filter.mpr ⟨List.mem_append_right _ (List.mem_append_left _ (List.mem_of_getElem? (i := 41) rfl)), rfl⟩
theorem lk_lr_18 : ev_lk "LicenceRules" 18 M_rd_init := Or.inl (List.mem_filter.mpr ⟨List.mem_append_right _ (List.mem_append_left _ (List.mem_of_getElem? (i := 43) rfl)), rfl⟩)
theorem fl_lr_19 : ev_fl "LicenceRules" 19 5 1 true (.object "LicenceRules$Reader") := ⟨RC_lr, FT_lr, 6, ft_lr, k_lr, by decide, rfl, rfl, Or.inl ⟨List.mem_filter.mpr ⟨List.mem_append_right _ (List.mem_append_left _ (List.mem_of_getElem? (i := 127) rfl)), rfl⟩, fun _ => rfl⟩⟩
theorem pl_lr_init_19 : ev_pl M_lr_init 19 5 1 (.object "LicenceRules$Reader") := ⟨RC_lr, FT_lr, 6, ft_lr, k_lr, by decide, rfl, Or.inl ⟨List.mem_filter.mpr ⟨List.mem_append_right _ (List.mem_append_left _ (List.mem_of_getElem? (i := 127) rfl)), rfl⟩, Or.inr ⟨rfl, rfl, rfl⟩⟩⟩
theorem cl_lr_23 : Cond.classLink "LicenceRules" 23 "LicenceRules$Pack" ∈ ev_WS := List.mem_filter.mpr ⟨List.mem_append_right _ (List.mem_append_left _ (List.mem_of_getElem? (i := 99) rfl)), rfl⟩
theorem fl_lr_25 : ev_fl "LicenceRules" 25 5 2 true (.array (.object "LicenceRules$Pack")) := ⟨RC_lr, FT_lr, 6, ft_lr, k_lr, by decide, rfl, rfl, Or.inl ⟨List.mem_filter.mpr ⟨List.mem_append_right _ (List.mem_append_left _ (List.mem_of_getElem? (i := 128) rfl)), rfl⟩, fun _ => rfl⟩⟩
theorem pl_lr_init_25 : ev_pl M_lr_init 25 5 2 (.array (.object "LicenceRules$Pack")) := ⟨RC_lr, FT_lr, 6, ft_lr, k_lr, by decide, rfl, Or.inl ⟨List.mem_filter.mpr ⟨List.mem_append_right _ (List.mem_append_left _ (List.mem_of_getElem? (i := 128) rfl)), rfl⟩, Or.inr ⟨rfl, rfl, rfl⟩⟩⟩
theorem cl_lr_29 : Cond.classLink "LicenceRules" 29 "LicenceRules$Review" ∈ ev_WS := List.mem_filter.mpr ⟨List.mem_append_right _ (List.mem_append_left _ (List.mem_of_getElem? (i := 101) rfl)), rfl⟩
theorem lk_lr_31 : ev_lk "LicenceRules" 31 M_rv_init := Or.inr ⟨"LicenceRules", List.mem_filter.mpr ⟨List.mem_append_right _ (List.mem_append_left _ (List.mem_of_getElem? (i := 103) rfl)), rfl⟩⟩
theorem fl_lr_32 : ev_fl "LicenceRules" 32 5 3 true (.object "LicenceRules$Review") := ⟨RC_lr, FT_lr, 6, ft_lr, k_lr, by decide, rfl, rfl, Or.inl ⟨List.mem_filter.mpr ⟨List.mem_append_right _ (List.mem_append_left _ (List.mem_of_getElem? (i := 129) rfl)), rfl⟩, fun _ => rfl⟩⟩
theorem pl_lr_init_32 : ev_pl M_lr_init 32 5 3 (.object "LicenceRules$Review") := ⟨RC_lr, FT_lr, 6, ft_lr, k_lr, by decide, rfl, Or.inl ⟨List.mem_filter.mpr ⟨List.mem_append_right _ (List.mem_append_left _ (List.mem_of_getElem? (i := 129) rfl)), rfl⟩, Or.inr ⟨rfl, rfl, rfl⟩⟩⟩
theorem fl_lr_36 : ev_fl "LicenceRules" 36 5 4 false (.int) := ⟨RC_lr, FT_lr, 6, ft_lr, k_lr, by decide, rfl, rfl, Or.inl ⟨List.mem_filter.mpr ⟨List.mem_append_right _ (List.mem_append_left _ (List.mem_of_getElem? (i := 130) rfl)), rfl⟩, fun _ => rfl⟩⟩
theorem pl_lr_init_36 : ev_pl M_lr_init 36 5 4 (.int) := ⟨RC_lr, FT_lr, 6, ft_lr, k_lr, by decide, rfl, Or.inl ⟨List.mem_filter.mpr ⟨List.mem_append_right _ (List.mem_append_left _ (List.mem_of_getElem? (i := 130) rfl)), rfl⟩, Or.inl rfl⟩⟩
theorem fl_lr_40 : ev_fl "LicenceRules" 40 5 5 false (.int) := ⟨RC_lr, FT_lr, 6, ft_lr, k_lr, by decide, rfl, rfl, Or.inl ⟨List.mem_filter.mpr ⟨List.mem_append_right _ (List.mem_append_left _ (List.mem_of_getElem? (i := 131) rfl)), rfl⟩, fun _ => rfl⟩⟩
theorem pl_lr_init_40 : ev_pl M_lr_init 40 5 5 (.int) := ⟨RC_lr, FT_lr, 6, ft_lr, k_lr, by decide, rfl, Or.inl ⟨List.mem_filter.mpr ⟨List.mem_append_right _ (List.mem_append_left _ (List.mem_of_getElem? (i := 131) rfl)), rfl⟩, Or.inl rfl⟩⟩
theorem lk_lr_43 : ev_lk "LicenceRules" 43 M_ru_addLicence := Or.inl (List.mem_filter.mpr ⟨List.mem_append_right _ (List.mem_append_left _ (List.mem_of_getElem? (i := 149) rfl)), rfl⟩)
theorem lk_lr_47 : ev_lk "LicenceRules" 47 M_ru_hasLicence := Or.inl (List.mem_filter.mpr ⟨List.mem_append_right _ (List.mem_append_left _ (List.mem_of_getElem? (i := 157) rfl)), rfl⟩)
theorem lk_lr_51 : ev_lk "LicenceRules" 51 M_lr_isWay := Or.inl (List.mem_filter.mpr ⟨List.mem_append_right _ (List.mem_append_left _ (List.mem_of_getElem? (i := 161) rfl)), rfl⟩)
theorem lk_lr_54 : ev_lk "LicenceRules" 54 M_ru_setTerms := Or.inl (List.mem_filter.mpr ⟨List.mem_append_right _ (List.mem_append_left _ (List.mem_of_getElem? (i := 164) rfl)), rfl⟩)
theorem lk_lr_58 : ev_lk "LicenceRules" 58 M_ru_setLifted := Or.inl (List.mem_filter.mpr ⟨List.mem_append_right _ (List.mem_append_left _ (List.mem_of_getElem? (i := 172) rfl)), rfl⟩)
theorem lk_lr_62 : ev_lk "LicenceRules" 62 M_rd_append := Or.inl (List.mem_filter.mpr ⟨List.mem_append_right _ (List.mem_append_left _ (List.mem_of_getElem? (i := 180) rfl)), rfl⟩)
theorem lk_lr_66 : ev_lk "LicenceRules" 66 M_pk_init := Or.inr ⟨"LicenceRules", List.mem_filter.mpr ⟨List.mem_append_right _ (List.mem_append_left _ (List.mem_of_getElem? (i := 189) rfl)), rfl⟩⟩
theorem pl_lr_pack_36 : ev_pl M_lr_pack 36 5 4 (.int) := ⟨RC_lr, FT_lr, 6, ft_lr, k_lr, by decide, rfl, Or.inl ⟨List.mem_filter.mpr ⟨List.mem_append_right _ (List.mem_append_left _ (List.mem_of_getElem? (i := 130) rfl)), rfl⟩, Or.inl rfl⟩⟩
theorem lk_lr_67 : ev_lk "LicenceRules" 67 M_lr_packAt := Or.inl (List.mem_filter.mpr ⟨List.mem_append_right _ (List.mem_append_left _ (List.mem_of_getElem? (i := 222) rfl)), rfl⟩)
theorem lk_lr_71 : ev_lk "LicenceRules" 71 M_ru_licenceCount := Or.inl (List.mem_filter.mpr ⟨List.mem_append_right _ (List.mem_append_left _ (List.mem_of_getElem? (i := 226) rfl)), rfl⟩)
theorem lk_lr_75 : ev_lk "LicenceRules" 75 M_rd_read := Or.inl (List.mem_filter.mpr ⟨List.mem_append_right _ (List.mem_append_left _ (List.mem_of_getElem? (i := 230) rfl)), rfl⟩)
theorem lk_lr_79 : ev_lk "LicenceRules" 79 M_rd_empty := Or.inl (List.mem_filter.mpr ⟨List.mem_append_right _ (List.mem_append_right _ (List.mem_append_left _ (List.mem_of_getElem? (i := 73) rfl))), rfl⟩)
theorem lk_lr_82 : ev_lk "LicenceRules" 82 M_rd_hasTooMany := Or.inl (List.mem_filter.mpr ⟨List.mem_append_right _ (List.mem_append_right _ (List.mem_append_left _ (List.mem_of_getElem? (i := 77) rfl))), rfl⟩)
theorem fl_lr_86 : ev_fl "LicenceRules" 86 1 0 true (.object "LicenceRules$Form") := ⟨RC_pk, FT_pk, 5, ft_pk, k_pk, by decide, rfl, rfl, Or.inr (Or.inr ⟨"LicenceRules", List.mem_filter.mpr ⟨List.mem_append_right _ (List.mem_append_left _ (List.mem_of_getElem? (i := 197) rfl)), rfl⟩⟩)⟩
theorem lk_lr_90 : ev_lk "LicenceRules" 90 M_rd_result := Or.inl (List.mem_filter.mpr ⟨List.mem_append_right _ (List.mem_append_right _ (List.mem_append_left _ (List.mem_of_getElem? (i := 81) rfl))), rfl⟩)
theorem lk_lr_94 : ev_lk "LicenceRules" 94 M_fo_copyFrom := Or.inl (List.mem_filter.mpr ⟨List.mem_append_right _ (List.mem_append_right _ (List.mem_append_left _ (List.mem_of_getElem? (i := 85) rfl))), rfl⟩)
theorem lk_lr_100 : ev_lk "LicenceRules" 100 M_fo_size := Or.inl (List.mem_filter.mpr ⟨List.mem_append_right _ (List.mem_append_right _ (List.mem_append_left _ (List.mem_of_getElem? (i := 86) rfl))), rfl⟩)
theorem lk_lr_103 : ev_lk "LicenceRules" 103 M_fo_codeAt := Or.inl (List.mem_filter.mpr ⟨List.mem_append_right _ (List.mem_append_right _ (List.mem_append_left _ (List.mem_of_getElem? (i := 95) rfl))), rfl⟩)
theorem lk_lr_107 : ev_lk "LicenceRules" 107 M_ru_bestOf := Or.inl (List.mem_filter.mpr ⟨List.mem_append_right _ (List.mem_append_right _ (List.mem_append_left _ (List.mem_of_getElem? (i := 107) rfl))), rfl⟩)
theorem lk_lr_111 : ev_lk "LicenceRules" 111 M_lr_best := Or.inl (List.mem_filter.mpr ⟨List.mem_append_right _ (List.mem_append_right _ (List.mem_append_left _ (List.mem_of_getElem? (i := 141) rfl))), rfl⟩)
theorem lk_lr_114 : ev_lk "LicenceRules" 114 M_ru_termsOf := Or.inl (List.mem_filter.mpr ⟨List.mem_append_right _ (List.mem_append_right _ (List.mem_append_left _ (List.mem_of_getElem? (i := 142) rfl))), rfl⟩)
theorem lk_lr_118 : ev_lk "LicenceRules" 118 M_pk_addUse := Or.inl (List.mem_filter.mpr ⟨List.mem_append_right _ (List.mem_append_right _ (List.mem_append_left _ (List.mem_of_getElem? (i := 147) rfl))), rfl⟩)
theorem fl_lr_122 : ev_fl "LicenceRules" 122 1 4 false (.int) := ⟨RC_pk, FT_pk, 5, ft_pk, k_pk, by decide, rfl, rfl, Or.inr (Or.inr ⟨"LicenceRules", List.mem_filter.mpr ⟨List.mem_append_right _ (List.mem_append_left _ (List.mem_of_getElem? (i := 206) rfl)), rfl⟩⟩)⟩
theorem pl_lr_grant_122 : ev_pl M_lr_grant 122 1 4 (.int) := ⟨RC_pk, FT_pk, 5, ft_pk, k_pk, by decide, rfl, Or.inr ⟨rfl, "LicenceRules", List.mem_filter.mpr ⟨List.mem_append_right _ (List.mem_append_left _ (List.mem_of_getElem? (i := 206) rfl)), rfl⟩⟩⟩
theorem kc_lr_125 : Cond.constant "LicenceRules" 125 100000 ∈ ev_WS := List.mem_filter.mpr ⟨List.mem_append_right _ (List.mem_append_right _ (List.mem_append_left _ (List.mem_of_getElem? (i := 159) rfl))), rfl⟩
theorem kc_lr_126 : Cond.constant "LicenceRules" 126 1000000000 ∈ ev_WS := List.mem_filter.mpr ⟨List.mem_append_right _ (List.mem_append_right _ (List.mem_append_left _ (List.mem_of_getElem? (i := 160) rfl))), rfl⟩
theorem pl_lr_tick_40 : ev_pl M_lr_tick 40 5 5 (.int) := ⟨RC_lr, FT_lr, 6, ft_lr, k_lr, by decide, rfl, Or.inl ⟨List.mem_filter.mpr ⟨List.mem_append_right _ (List.mem_append_left _ (List.mem_of_getElem? (i := 131) rfl)), rfl⟩, Or.inl rfl⟩⟩
theorem lk_lr_127 : ev_lk "LicenceRules" 127 M_rv_walk := Or.inl (List.mem_filter.mpr ⟨List.mem_append_right _ (List.mem_append_right _ (List.mem_append_left _ (List.mem_of_getElem? (i := 165) rfl))), rfl⟩)
theorem lk_lr_131 : ev_lk "LicenceRules" 131 M_rv_judge := Or.inl (List.mem_filter.mpr ⟨List.mem_append_right _ (List.mem_append_right _ (List.mem_append_left _ (List.mem_of_getElem? (i := 174) rfl))), rfl⟩)
theorem lk_lr_135 : ev_lk "LicenceRules" 135 M_rv_tell := Or.inl (List.mem_filter.mpr ⟨List.mem_append_right _ (List.mem_append_right _ (List.mem_append_left _ (List.mem_of_getElem? (i := 189) rfl))), rfl⟩)
theorem lk_lr_138 : ev_lk "LicenceRules" 138 M_rv_joinedDuties := Or.inl (List.mem_filter.mpr ⟨List.mem_append_right _ (List.mem_append_right _ (List.mem_append_left _ (List.mem_of_getElem? (i := 197) rfl))), rfl⟩)
theorem lk_lr_141 : ev_lk "LicenceRules" 141 M_rv_distinctPack := Or.inl (List.mem_filter.mpr ⟨List.mem_append_right _ (List.mem_append_right _ (List.mem_append_left _ (List.mem_of_getElem? (i := 205) rfl))), rfl⟩)
theorem lk_lr_144 : ev_lk "LicenceRules" 144 M_ru_scoreOf := Or.inl (List.mem_filter.mpr ⟨List.mem_append_right _ (List.mem_append_right _ (List.mem_append_left _ (List.mem_of_getElem? (i := 217) rfl))), rfl⟩)
theorem ob_mo_1 : Cond.methodLink "LicenceRulesModel" 1 Lib.objectInit ∈ ev_WS := List.mem_filter.mpr ⟨List.mem_append_right _ (List.mem_append_right _ (List.mem_append_left _ (List.mem_of_getElem? (i := 231) rfl))), rfl⟩
theorem fl_mo_7 : ev_fl "LicenceRulesModel" 7 6 4 true (.array .long) := ⟨RC_mo, FT_mo, 35, ft_mo, k_mo, by decide, rfl, rfl, Or.inl ⟨List.mem_filter.mpr ⟨List.mem_append_right _ (List.mem_append_right _ (List.mem_append_left _ (List.mem_of_getElem? (i := 236) rfl))), rfl⟩, fun _ => rfl⟩⟩
theorem pl_mo_init_7 : ev_pl M_mo_init 7 6 4 (.array .long) := ⟨RC_mo, FT_mo, 35, ft_mo, k_mo, by decide, rfl, Or.inl ⟨List.mem_filter.mpr ⟨List.mem_append_right _ (List.mem_append_right _ (List.mem_append_left _ (List.mem_of_getElem? (i := 236) rfl))), rfl⟩, Or.inr ⟨rfl, rfl, rfl⟩⟩⟩
theorem fl_mo_13 : ev_fl "LicenceRulesModel" 13 6 5 true (.array .int) := ⟨RC_mo, FT_mo, 35, ft_mo, k_mo, by decide, rfl, rfl, Or.inl ⟨List.mem_filter.mpr ⟨List.mem_append_right _ (List.mem_append_right _ (List.mem_append_left _ (List.mem_of_getElem? (i := 237) rfl))), rfl⟩, fun _ => rfl⟩⟩
theorem pl_mo_init_13 : ev_pl M_mo_init 13 6 5 (.array .int) := ⟨RC_mo, FT_mo, 35, ft_mo, k_mo, by decide, rfl, Or.inl ⟨List.mem_filter.mpr ⟨List.mem_append_right _ (List.mem_append_right _ (List.mem_append_left _ (List.mem_of_getElem? (i := 237) rfl))), rfl⟩, Or.inr ⟨rfl, rfl, rfl⟩⟩⟩
theorem fl_mo_17 : ev_fl "LicenceRulesModel" 17 6 6 true (.array .int) := ⟨RC_mo, FT_mo, 35, ft_mo, k_mo, by decide, rfl, rfl, Or.inl ⟨List.mem_filter.mpr ⟨List.mem_append_right _ (List.mem_append_right _ (List.mem_append_left _ (List.mem_of_getElem? (i := 238) rfl))), rfl⟩, fun _ => rfl⟩⟩
theorem pl_mo_init_17 : ev_pl M_mo_init 17 6 6 (.array .int) := ⟨RC_mo, FT_mo, 35, ft_mo, k_mo, by decide, rfl, Or.inl ⟨List.mem_filter.mpr ⟨List.mem_append_right _ (List.mem_append_right _ (List.mem_append_left _ (List.mem_of_getElem? (i := 238) rfl))), rfl⟩, Or.inr ⟨rfl, rfl, rfl⟩⟩⟩
theorem fl_mo_20 : ev_fl "LicenceRulesModel" 20 6 7 true (.array .boolean) := ⟨RC_mo, FT_mo, 35, ft_mo, k_mo, by decide, rfl, rfl, Or.inl ⟨List.mem_filter.mpr ⟨List.mem_append_right _ (List.mem_append_right _ (List.mem_append_left _ (List.mem_of_getElem? (i := 239) rfl))), rfl⟩, fun _ => rfl⟩⟩
theorem pl_mo_init_20 : ev_pl M_mo_init 20 6 7 (.array .boolean) := ⟨RC_mo, FT_mo, 35, ft_mo, k_mo, by decide, rfl, Or.inl ⟨List.mem_filter.mpr ⟨List.mem_append_right _ (List.mem_append_right _ (List.mem_append_left _ (List.mem_of_getElem? (i := 239) rfl))), rfl⟩, Or.inr ⟨rfl, rfl, rfl⟩⟩⟩
theorem fl_mo_24 : ev_fl "LicenceRulesModel" 24 6 8 true (.array .int) := ⟨RC_mo, FT_mo, 35, ft_mo, k_mo, by decide, rfl, rfl, Or.inl ⟨List.mem_filter.mpr ⟨List.mem_append_right _ (List.mem_append_right _ (List.mem_append_right _ (List.mem_of_getElem? (i := 0) rfl))), rfl⟩, fun _ => rfl⟩⟩
theorem pl_mo_init_24 : ev_pl M_mo_init 24 6 8 (.array .int) := ⟨RC_mo, FT_mo, 35, ft_mo, k_mo, by decide, rfl, Or.inl ⟨List.mem_filter.mpr ⟨List.mem_append_right _ (List.mem_append_right _ (List.mem_append_right _ (List.mem_of_getElem? (i := 0) rfl))), rfl⟩, Or.inr ⟨rfl, rfl, rfl⟩⟩⟩
theorem fl_mo_27 : ev_fl "LicenceRulesModel" 27 6 10 true (.array .int) := ⟨RC_mo, FT_mo, 35, ft_mo, k_mo, by decide, rfl, rfl, Or.inl ⟨List.mem_filter.mpr ⟨List.mem_append_right _ (List.mem_append_right _ (List.mem_append_right _ (List.mem_of_getElem? (i := 2) rfl))), rfl⟩, fun _ => rfl⟩⟩
theorem pl_mo_init_27 : ev_pl M_mo_init 27 6 10 (.array .int) := ⟨RC_mo, FT_mo, 35, ft_mo, k_mo, by decide, rfl, Or.inl ⟨List.mem_filter.mpr ⟨List.mem_append_right _ (List.mem_append_right _ (List.mem_append_right _ (List.mem_of_getElem? (i := 2) rfl))), rfl⟩, Or.inr ⟨rfl, rfl, rfl⟩⟩⟩
theorem fl_mo_30 : ev_fl "LicenceRulesModel" 30 6 11 true (.array .int) := ⟨RC_mo, FT_mo, 35, ft_mo, k_mo, by decide, rfl, rfl, Or.inl ⟨List.mem_filter.mpr ⟨List.mem_append_right _ (List.mem_append_right _ (List.mem_append_right _ (List.mem_of_getElem? (i := 3) rfl))), rfl⟩, fun _ => rfl⟩⟩
theorem pl_mo_init_30 : ev_pl M_mo_init 30 6 11 (.array .int) := ⟨RC_mo, FT_mo, 35, ft_mo, k_mo, by decide, rfl, Or.inl ⟨List.mem_filter.mpr ⟨List.mem_append_right _ (List.mem_append_right _ (List.mem_append_right _ (List.mem_of_getElem? (i := 3) rfl))), rfl⟩, Or.inr ⟨rfl, rfl, rfl⟩⟩⟩
theorem fl_mo_33 : ev_fl "LicenceRulesModel" 33 6 12 true (.array .int) := ⟨RC_mo, FT_mo, 35, ft_mo, k_mo, by decide, rfl, rfl, Or.inl ⟨List.mem_filter.mpr ⟨List.mem_append_right _ (List.mem_append_right _ (List.mem_append_right _ (List.mem_of_getElem? (i := 4) rfl))), rfl⟩, fun _ => rfl⟩⟩
theorem pl_mo_init_33 : ev_pl M_mo_init 33 6 12 (.array .int) := ⟨RC_mo, FT_mo, 35, ft_mo, k_mo, by decide, rfl, Or.inl ⟨List.mem_filter.mpr ⟨List.mem_append_right _ (List.mem_append_right _ (List.mem_append_right _ (List.mem_of_getElem? (i := 4) rfl))), rfl⟩, Or.inr ⟨rfl, rfl, rfl⟩⟩⟩
theorem fl_mo_36 : ev_fl "LicenceRulesModel" 36 6 13 true (.array .int) := ⟨RC_mo, FT_mo, 35, ft_mo, k_mo, by decide, rfl, rfl, Or.inl ⟨List.mem_filter.mpr ⟨List.mem_append_right _ (List.mem_append_right _ (List.mem_append_right _ (List.mem_of_getElem? (i := 5) rfl))), rfl⟩, fun _ => rfl⟩⟩
theorem pl_mo_init_36 : ev_pl M_mo_init 36 6 13 (.array .int) := ⟨RC_mo, FT_mo, 35, ft_mo, k_mo, by decide, rfl, Or.inl ⟨List.mem_filter.mpr ⟨List.mem_append_right _ (List.mem_append_right _ (List.mem_append_right _ (List.mem_of_getElem? (i := 5) rfl))), rfl⟩, Or.inr ⟨rfl, rfl, rfl⟩⟩⟩
theorem fl_mo_39 : ev_fl "LicenceRulesModel" 39 6 14 true (.array .int) := ⟨RC_mo, FT_mo, 35, ft_mo, k_mo, by decide, rfl, rfl, Or.inl ⟨List.mem_filter.mpr ⟨List.mem_append_right _ (List.mem_append_right _ (List.mem_append_right _ (List.mem_of_getElem? (i := 6) rfl))), rfl⟩, fun _ => rfl⟩⟩
theorem pl_mo_init_39 : ev_pl M_mo_init 39 6 14 (.array .int) := ⟨RC_mo, FT_mo, 35, ft_mo, k_mo, by decide, rfl, Or.inl ⟨List.mem_filter.mpr ⟨List.mem_append_right _ (List.mem_append_right _ (List.mem_append_right _ (List.mem_of_getElem? (i := 6) rfl))), rfl⟩, Or.inr ⟨rfl, rfl, rfl⟩⟩⟩
theorem fl_mo_42 : ev_fl "LicenceRulesModel" 42 6 15 true (.array .int) := ⟨RC_mo, FT_mo, 35, ft_mo, k_mo, by decide, rfl, rfl, Or.inl ⟨List.mem_filter.mpr ⟨List.mem_append_right _ (List.mem_append_right _ (List.mem_append_right _ (List.mem_of_getElem? (i := 7) rfl))), rfl⟩, fun _ => rfl⟩⟩
theorem pl_mo_init_42 : ev_pl M_mo_init 42 6 15 (.array .int) := ⟨RC_mo, FT_mo, 35, ft_mo, k_mo, by decide, rfl, Or.inl ⟨List.mem_filter.mpr ⟨List.mem_append_right _ (List.mem_append_right _ (List.mem_append_right _ (List.mem_of_getElem? (i := 7) rfl))), rfl⟩, Or.inr ⟨rfl, rfl, rfl⟩⟩⟩
theorem fl_mo_45 : ev_fl "LicenceRulesModel" 45 6 16 true (.array .int) := ⟨RC_mo, FT_mo, 35, ft_mo, k_mo, by decide, rfl, rfl, Or.inl ⟨List.mem_filter.mpr ⟨List.mem_append_right _ (List.mem_append_right _ (List.mem_append_right _ (List.mem_of_getElem? (i := 8) rfl))), rfl⟩, fun _ => rfl⟩⟩
theorem pl_mo_init_45 : ev_pl M_mo_init 45 6 16 (.array .int) := ⟨RC_mo, FT_mo, 35, ft_mo, k_mo, by decide, rfl, Or.inl ⟨List.mem_filter.mpr ⟨List.mem_append_right _ (List.mem_append_right _ (List.mem_append_right _ (List.mem_of_getElem? (i := 8) rfl))), rfl⟩, Or.inr ⟨rfl, rfl, rfl⟩⟩⟩
theorem fl_mo_48 : ev_fl "LicenceRulesModel" 48 6 17 true (.array .int) := ⟨RC_mo, FT_mo, 35, ft_mo, k_mo, by decide, rfl, rfl, Or.inl ⟨List.mem_filter.mpr ⟨List.mem_append_right _ (List.mem_append_right _ (List.mem_append_right _ (List.mem_of_getElem? (i := 9) rfl))), rfl⟩, fun _ => rfl⟩⟩
theorem pl_mo_init_48 : ev_pl M_mo_init 48 6 17 (.array .int) := ⟨RC_mo, FT_mo, 35, ft_mo, k_mo, by decide, rfl, Or.inl ⟨List.mem_filter.mpr ⟨List.mem_append_right _ (List.mem_append_right _ (List.mem_append_right _ (List.mem_of_getElem? (i := 9) rfl))), rfl⟩, Or.inr ⟨rfl, rfl, rfl⟩⟩⟩
theorem fl_mo_51 : ev_fl "LicenceRulesModel" 51 6 18 true (.array .int) := ⟨RC_mo, FT_mo, 35, ft_mo, k_mo, by decide, rfl, rfl, Or.inl ⟨List.mem_filter.mpr ⟨List.mem_append_right _ (List.mem_append_right _ (List.mem_append_right _ (List.mem_of_getElem? (i := 10) rfl))), rfl⟩, fun _ => rfl⟩⟩
theorem pl_mo_init_51 : ev_pl M_mo_init 51 6 18 (.array .int) := ⟨RC_mo, FT_mo, 35, ft_mo, k_mo, by decide, rfl, Or.inl ⟨List.mem_filter.mpr ⟨List.mem_append_right _ (List.mem_append_right _ (List.mem_append_right _ (List.mem_of_getElem? (i := 10) rfl))), rfl⟩, Or.inr ⟨rfl, rfl, rfl⟩⟩⟩
theorem fl_mo_54 : ev_fl "LicenceRulesModel" 54 6 19 true (.array .int) := ⟨RC_mo, FT_mo, 35, ft_mo, k_mo, by decide, rfl, rfl, Or.inl ⟨List.mem_filter.mpr ⟨List.mem_append_right _ (List.mem_append_right _ (List.mem_append_right _ (List.mem_of_getElem? (i := 11) rfl))), rfl⟩, fun _ => rfl⟩⟩
theorem pl_mo_init_54 : ev_pl M_mo_init 54 6 19 (.array .int) := ⟨RC_mo, FT_mo, 35, ft_mo, k_mo, by decide, rfl, Or.inl ⟨List.mem_filter.mpr ⟨List.mem_append_right _ (List.mem_append_right _ (List.mem_append_right _ (List.mem_of_getElem? (i := 11) rfl))), rfl⟩, Or.inr ⟨rfl, rfl, rfl⟩⟩⟩
theorem fl_mo_57 : ev_fl "LicenceRulesModel" 57 6 20 true (.array .int) := ⟨RC_mo, FT_mo, 35, ft_mo, k_mo, by decide, rfl, rfl, Or.inl ⟨List.mem_filter.mpr ⟨List.mem_append_right _ (List.mem_append_right _ (List.mem_append_right _ (List.mem_of_getElem? (i := 12) rfl))), rfl⟩, fun _ => rfl⟩⟩
theorem pl_mo_init_57 : ev_pl M_mo_init 57 6 20 (.array .int) := ⟨RC_mo, FT_mo, 35, ft_mo, k_mo, by decide, rfl, Or.inl ⟨List.mem_filter.mpr ⟨List.mem_append_right _ (List.mem_append_right _ (List.mem_append_right _ (List.mem_of_getElem? (i := 12) rfl))), rfl⟩, Or.inr ⟨rfl, rfl, rfl⟩⟩⟩
theorem fl_mo_60 : ev_fl "LicenceRulesModel" 60 6 21 true (.array .int) := ⟨RC_mo, FT_mo, 35, ft_mo, k_mo, by decide, rfl, rfl, Or.inl ⟨List.mem_filter.mpr ⟨List.mem_append_right _ (List.mem_append_right _ (List.mem_append_right _ (List.mem_of_getElem? (i := 13) rfl))), rfl⟩, fun _ => rfl⟩⟩
theorem pl_mo_init_60 : ev_pl M_mo_init 60 6 21 (.array .int) := ⟨RC_mo, FT_mo, 35, ft_mo, k_mo, by decide, rfl, Or.inl ⟨List.mem_filter.mpr ⟨List.mem_append_right _ (List.mem_append_right _ (List.mem_append_right _ (List.mem_of_getElem? (i := 13) rfl))), rfl⟩, Or.inr ⟨rfl, rfl, rfl⟩⟩⟩
theorem fl_mo_63 : ev_fl "LicenceRulesModel" 63 6 22 true (.array .int) := ⟨RC_mo, FT_mo, 35, ft_mo, k_mo, by decide, rfl, rfl, Or.inl ⟨List.mem_filter.mpr ⟨List.mem_append_right _ (List.mem_append_right _ (List.mem_append_right _ (List.mem_of_getElem? (i := 14) rfl))), rfl⟩, fun _ => rfl⟩⟩
theorem pl_mo_init_63 : ev_pl M_mo_init 63 6 22 (.array .int) := ⟨RC_mo, FT_mo, 35, ft_mo, k_mo, by decide, rfl, Or.inl ⟨List.mem_filter.mpr ⟨List.mem_append_right _ (List.mem_append_right _ (List.mem_append_right _ (List.mem_of_getElem? (i := 14) rfl))), rfl⟩, Or.inr ⟨rfl, rfl, rfl⟩⟩⟩
theorem fl_mo_66 : ev_fl "LicenceRulesModel" 66 6 29 true (.array .int) := ⟨RC_mo, FT_mo, 35, ft_mo, k_mo, by decide, rfl, rfl, Or.inl ⟨List.mem_filter.mpr ⟨List.mem_append_right _ (List.mem_append_right _ (List.mem_append_right _ (List.mem_of_getElem? (i := 21) rfl))), rfl⟩, fun _ => rfl⟩⟩
theorem pl_mo_init_66 : ev_pl M_mo_init 66 6 29 (.array .int) := ⟨RC_mo, FT_mo, 35, ft_mo, k_mo, by decide, rfl, Or.inl ⟨List.mem_filter.mpr ⟨List.mem_append_right _ (List.mem_append_right _ (List.mem_append_right _ (List.mem_of_getElem? (i := 21) rfl))), rfl⟩, Or.inr ⟨rfl, rfl, rfl⟩⟩⟩
theorem fl_mo_69 : ev_fl "LicenceRulesModel" 69 6 30 true (.array .int) := ⟨RC_mo, FT_mo, 35, ft_mo, k_mo, by decide, rfl, rfl, Or.inl ⟨List.mem_filter.mpr ⟨List.mem_append_right _ (List.mem_append_right _ (List.mem_append_right _ (List.mem_of_getElem? (i := 22) rfl))), rfl⟩, fun _ => rfl⟩⟩
theorem pl_mo_init_69 : ev_pl M_mo_init 69 6 30 (.array .int) := ⟨RC_mo, FT_mo, 35, ft_mo, k_mo, by decide, rfl, Or.inl ⟨List.mem_filter.mpr ⟨List.mem_append_right _ (List.mem_append_right _ (List.mem_append_right _ (List.mem_of_getElem? (i := 22) rfl))), rfl⟩, Or.inr ⟨rfl, rfl, rfl⟩⟩⟩
theorem fl_mo_72 : ev_fl "LicenceRulesModel" 72 6 31 true (.array .int) := ⟨RC_mo, FT_mo, 35, ft_mo, k_mo, by decide, rfl, rfl, Or.inl ⟨List.mem_filter.mpr ⟨List.mem_append_right _ (List.mem_append_right _ (List.mem_append_right _ (List.mem_of_getElem? (i := 23) rfl))), rfl⟩, fun _ => rfl⟩⟩
theorem pl_mo_init_72 : ev_pl M_mo_init 72 6 31 (.array .int) := ⟨RC_mo, FT_mo, 35, ft_mo, k_mo, by decide, rfl, Or.inl ⟨List.mem_filter.mpr ⟨List.mem_append_right _ (List.mem_append_right _ (List.mem_append_right _ (List.mem_of_getElem? (i := 23) rfl))), rfl⟩, Or.inr ⟨rfl, rfl, rfl⟩⟩⟩
theorem fl_mo_75 : ev_fl "LicenceRulesModel" 75 6 32 true (.array .int) := ⟨RC_mo, FT_mo, 35, ft_mo, k_mo, by decide, rfl, rfl, Or.inl ⟨List.mem_filter.mpr ⟨List.mem_append_right _ (List.mem_append_right _ (List.mem_append_right _ (List.mem_of_getElem? (i := 24) rfl))), rfl⟩, fun _ => rfl⟩⟩
theorem pl_mo_init_75 : ev_pl M_mo_init 75 6 32 (.array .int) := ⟨RC_mo, FT_mo, 35, ft_mo, k_mo, by decide, rfl, Or.inl ⟨List.mem_filter.mpr ⟨List.mem_append_right _ (List.mem_append_right _ (List.mem_append_right _ (List.mem_of_getElem? (i := 24) rfl))), rfl⟩, Or.inr ⟨rfl, rfl, rfl⟩⟩⟩
theorem fl_mo_78 : ev_fl "LicenceRulesModel" 78 6 33 true (.array .int) := ⟨RC_mo, FT_mo, 35, ft_mo, k_mo, by decide, rfl, rfl, Or.inl ⟨List.mem_filter.mpr ⟨List.mem_append_right _ (List.mem_append_right _ (List.mem_append_right _ (List.mem_of_getElem? (i := 25) rfl))), rfl⟩, fun _ => rfl⟩⟩
theorem pl_mo_init_78 : ev_pl M_mo_init 78 6 33 (.array .int) := ⟨RC_mo, FT_mo, 35, ft_mo, k_mo, by decide, rfl, Or.inl ⟨List.mem_filter.mpr ⟨List.mem_append_right _ (List.mem_append_right _ (List.mem_append_right _ (List.mem_of_getElem? (i := 25) rfl))), rfl⟩, Or.inr ⟨rfl, rfl, rfl⟩⟩⟩
theorem fl_mo_85 : ev_fl "LicenceRulesModel" 85 6 2 false (.int) := ⟨RC_mo, FT_mo, 35, ft_mo, k_mo, by decide, rfl, rfl, Or.inl ⟨List.mem_filter.mpr ⟨List.mem_append_right _ (List.mem_append_right _ (List.mem_append_left _ (List.mem_of_getElem? (i := 234) rfl))), rfl⟩, fun _ => rfl⟩⟩
theorem fl_mo_88 : ev_fl "LicenceRulesModel" 88 6 3 false (.int) := ⟨RC_mo, FT_mo, 35, ft_mo, k_mo, by decide, rfl, rfl, Or.inl ⟨List.mem_filter.mpr ⟨List.mem_append_right _ (List.mem_append_right _ (List.mem_append_left _ (List.mem_of_getElem? (i := 235) rfl))), rfl⟩, fun _ => rfl⟩⟩
theorem fl_mo_81 : ev_fl "LicenceRulesModel" 81 6 0 false (.int) := ⟨RC_mo, FT_mo, 35, ft_mo, k_mo, by decide, rfl, rfl, Or.inl ⟨List.mem_filter.mpr ⟨List.mem_append_right _ (List.mem_append_right _ (List.mem_append_left _ (List.mem_of_getElem? (i := 232) rfl))), rfl⟩, fun _ => rfl⟩⟩
theorem pl_mo_licence_81 : ev_pl M_mo_licence 81 6 0 (.int) := ⟨RC_mo, FT_mo, 35, ft_mo, k_mo, by decide, rfl, Or.inl ⟨List.mem_filter.mpr ⟨List.mem_append_right _ (List.mem_append_right _ (List.mem_append_left _ (List.mem_of_getElem? (i := 232) rfl))), rfl⟩, Or.inl rfl⟩⟩
theorem pl_mo_licence_85 : ev_pl M_mo_licence 85 6 2 (.int) := ⟨RC_mo, FT_mo, 35, ft_mo, k_mo, by decide, rfl, Or.inl ⟨List.mem_filter.mpr ⟨List.mem_append_right _ (List.mem_append_right _ (List.mem_append_left _ (List.mem_of_getElem? (i := 234) rfl))), rfl⟩, Or.inl rfl⟩⟩
theorem pl_mo_rule_81 : ev_pl M_mo_rule 81 6 0 (.int) := ⟨RC_mo, FT_mo, 35, ft_mo, k_mo, by decide, rfl, Or.inl ⟨List.mem_filter.mpr ⟨List.mem_append_right _ (List.mem_append_right _ (List.mem_append_left _ (List.mem_of_getElem? (i := 232) rfl))), rfl⟩, Or.inl rfl⟩⟩
theorem lk_mo_91 : ev_lk "LicenceRulesModel" 91 M_mo_isLicence := Or.inl (List.mem_filter.mpr ⟨List.mem_append_right _ (List.mem_append_right _ (List.mem_append_right _ (List.mem_of_getElem? (i := 107) rfl))), rfl⟩)
theorem lk_mo_95 : ev_lk "LicenceRulesModel" 95 M_mo_isWay := Or.inl (List.mem_filter.mpr ⟨List.mem_append_right _ (List.mem_append_right _ (List.mem_append_right _ (List.mem_of_getElem? (i := 111) rfl))), rfl⟩)
theorem pl_mo_lifts_81 : ev_pl M_mo_lifts 81 6 0 (.int) := ⟨RC_mo, FT_mo, 35, ft_mo, k_mo, by decide, rfl, Or.inl ⟨List.mem_filter.mpr ⟨List.mem_append_right _ (List.mem_append_right _ (List.mem_append_left _ (List.mem_of_getElem? (i := 232) rfl))), rfl⟩, Or.inl rfl⟩⟩
theorem pl_mo_type_81 : ev_pl M_mo_type 81 6 0 (.int) := ⟨RC_mo, FT_mo, 35, ft_mo, k_mo, by decide, rfl, Or.inl ⟨List.mem_filter.mpr ⟨List.mem_append_right _ (List.mem_append_right _ (List.mem_append_left _ (List.mem_of_getElem? (i := 232) rfl))), rfl⟩, Or.inl rfl⟩⟩
theorem fl_mo_98 : ev_fl "LicenceRulesModel" 98 6 9 false (.int) := ⟨RC_mo, FT_mo, 35, ft_mo, k_mo, by decide, rfl, rfl, Or.inl ⟨List.mem_filter.mpr ⟨List.mem_append_right _ (List.mem_append_right _ (List.mem_append_right _ (List.mem_of_getElem? (i := 1) rfl))), rfl⟩, fun _ => rfl⟩⟩
theorem pl_mo_type_98 : ev_pl M_mo_type 98 6 9 (.int) := ⟨RC_mo, FT_mo, 35, ft_mo, k_mo, by decide, rfl, Or.inl ⟨List.mem_filter.mpr ⟨List.mem_append_right _ (List.mem_append_right _ (List.mem_append_right _ (List.mem_of_getElem? (i := 1) rfl))), rfl⟩, Or.inl rfl⟩⟩
theorem pl_mo_pack_81 : ev_pl M_mo_pack 81 6 0 (.int) := ⟨RC_mo, FT_mo, 35, ft_mo, k_mo, by decide, rfl, Or.inl ⟨List.mem_filter.mpr ⟨List.mem_append_right _ (List.mem_append_right _ (List.mem_append_left _ (List.mem_of_getElem? (i := 232) rfl))), rfl⟩, Or.inl rfl⟩⟩
theorem pl_mo_pack_88 : ev_pl M_mo_pack 88 6 3 (.int) := ⟨RC_mo, FT_mo, 35, ft_mo, k_mo, by decide, rfl, Or.inl ⟨List.mem_filter.mpr ⟨List.mem_append_right _ (List.mem_append_right _ (List.mem_append_left _ (List.mem_of_getElem? (i := 235) rfl))), rfl⟩, Or.inl rfl⟩⟩
theorem fl_mo_101 : ev_fl "LicenceRulesModel" 101 6 23 false (.int) := ⟨RC_mo, FT_mo, 35, ft_mo, k_mo, by decide, rfl, rfl, Or.inl ⟨List.mem_filter.mpr ⟨List.mem_append_right _ (List.mem_append_right _ (List.mem_append_right _ (List.mem_of_getElem? (i := 15) rfl))), rfl⟩, fun _ => rfl⟩⟩
theorem pl_mo_pairOf_101 : ev_pl M_mo_pairOf 101 6 23 (.int) := ⟨RC_mo, FT_mo, 35, ft_mo, k_mo, by decide, rfl, Or.inl ⟨List.mem_filter.mpr ⟨List.mem_append_right _ (List.mem_append_right _ (List.mem_append_right _ (List.mem_of_getElem? (i := 15) rfl))), rfl⟩, Or.inl rfl⟩⟩
theorem fl_mo_104 : ev_fl "LicenceRulesModel" 104 6 24 false (.int) := ⟨RC_mo, FT_mo, 35, ft_mo, k_mo, by decide, rfl, rfl, Or.inl ⟨List.mem_filter.mpr ⟨List.mem_append_right _ (List.mem_append_right _ (List.mem_append_right _ (List.mem_of_getElem? (i := 16) rfl))), rfl⟩, fun _ => rfl⟩⟩
theorem pl_mo_join_104 : ev_pl M_mo_join 104 6 24 (.int) := ⟨RC_mo, FT_mo, 35, ft_mo, k_mo, by decide, rfl, Or.inl ⟨List.mem_filter.mpr ⟨List.mem_append_right _ (List.mem_append_right _ (List.mem_append_right _ (List.mem_of_getElem? (i := 16) rfl))), rfl⟩, Or.inl rfl⟩⟩
theorem fl_mo_107 : ev_fl "LicenceRulesModel" 107 6 27 false (.boolean) := ⟨RC_mo, FT_mo, 35, ft_mo, k_mo, by decide, rfl, rfl, Or.inl ⟨List.mem_filter.mpr ⟨List.mem_append_right _ (List.mem_append_right _ (List.mem_append_right _ (List.mem_of_getElem? (i := 19) rfl))), rfl⟩, fun _ => rfl⟩⟩
theorem pl_mo_join_107 : ev_pl M_mo_join 107 6 27 (.boolean) := ⟨RC_mo, FT_mo, 35, ft_mo, k_mo, by decide, rfl, Or.inl ⟨List.mem_filter.mpr ⟨List.mem_append_right _ (List.mem_append_right _ (List.mem_append_right _ (List.mem_of_getElem? (i := 19) rfl))), rfl⟩, Or.inl rfl⟩⟩
theorem fl_mo_111 : ev_fl "LicenceRulesModel" 111 6 25 false (.int) := ⟨RC_mo, FT_mo, 35, ft_mo, k_mo, by decide, rfl, rfl, Or.inl ⟨List.mem_filter.mpr ⟨List.mem_append_right _ (List.mem_append_right _ (List.mem_append_right _ (List.mem_of_getElem? (i := 17) rfl))), rfl⟩, fun _ => rfl⟩⟩
theorem pl_mo_workOff_111 : ev_pl M_mo_workOff 111 6 25 (.int) := ⟨RC_mo, FT_mo, 35, ft_mo, k_mo, by decide, rfl, Or.inl ⟨List.mem_filter.mpr ⟨List.mem_append_right _ (List.mem_append_right _ (List.mem_append_right _ (List.mem_of_getElem? (i := 17) rfl))), rfl⟩, Or.inl rfl⟩⟩
theorem lk_mo_114 : ev_lk "LicenceRulesModel" 114 M_mo_join := Or.inl (List.mem_filter.mpr ⟨List.mem_append_right _ (List.mem_append_right _ (List.mem_append_right _ (List.mem_of_getElem? (i := 150) rfl))), rfl⟩)
theorem fl_mo_118 : ev_fl "LicenceRulesModel" 118 6 34 false (.int) := ⟨RC_mo, FT_mo, 35, ft_mo, k_mo, by decide, rfl, rfl, Or.inl ⟨List.mem_filter.mpr ⟨List.mem_append_right _ (List.mem_append_right _ (List.mem_append_right _ (List.mem_of_getElem? (i := 26) rfl))), rfl⟩, fun _ => rfl⟩⟩
theorem pl_mo_next_118 : ev_pl M_mo_next 118 6 34 (.int) := ⟨RC_mo, FT_mo, 35, ft_mo, k_mo, by decide, rfl, Or.inl ⟨List.mem_filter.mpr ⟨List.mem_append_right _ (List.mem_append_right _ (List.mem_append_right _ (List.mem_of_getElem? (i := 26) rfl))), rfl⟩, Or.inl rfl⟩⟩
theorem lk_mo_121 : ev_lk "LicenceRulesModel" 121 M_mo_next := Or.inl (List.mem_filter.mpr ⟨List.mem_append_right _ (List.mem_append_right _ (List.mem_append_right _ (List.mem_of_getElem? (i := 138) rfl))), rfl⟩)
theorem fl_mo_125 : ev_fl "LicenceRulesModel" 125 6 26 false (.int) := ⟨RC_mo, FT_mo, 35, ft_mo, k_mo, by decide, rfl, rfl, Or.inl ⟨List.mem_filter.mpr ⟨List.mem_append_right _ (List.mem_append_right _ (List.mem_append_right _ (List.mem_of_getElem? (i := 18) rfl))), rfl⟩, fun _ => rfl⟩⟩
theorem pl_mo_operand_111 : ev_pl M_mo_operand 111 6 25 (.int) := ⟨RC_mo, FT_mo, 35, ft_mo, k_mo, by decide, rfl, Or.inl ⟨List.mem_filter.mpr ⟨List.mem_append_right _ (List.mem_append_right _ (List.mem_append_right _ (List.mem_of_getElem? (i := 17) rfl))), rfl⟩, Or.inl rfl⟩⟩
theorem pl_mo_operand_125 : ev_pl M_mo_operand 125 6 26 (.int) := ⟨RC_mo, FT_mo, 35, ft_mo, k_mo, by decide, rfl, Or.inl ⟨List.mem_filter.mpr ⟨List.mem_append_right _ (List.mem_append_right _ (List.mem_append_right _ (List.mem_of_getElem? (i := 18) rfl))), rfl⟩, Or.inl rfl⟩⟩
theorem pl_mo_operand_118 : ev_pl M_mo_operand 118 6 34 (.int) := ⟨RC_mo, FT_mo, 35, ft_mo, k_mo, by decide, rfl, Or.inl ⟨List.mem_filter.mpr ⟨List.mem_append_right _ (List.mem_append_right _ (List.mem_append_right _ (List.mem_of_getElem? (i := 26) rfl))), rfl⟩, Or.inl rfl⟩⟩
theorem lk_mo_128 : ev_lk "LicenceRulesModel" 128 M_mo_pairOf := Or.inl (List.mem_filter.mpr ⟨List.mem_append_right _ (List.mem_append_right _ (List.mem_append_right _ (List.mem_of_getElem? (i := 142) rfl))), rfl⟩)
theorem pl_mo_operand_104 : ev_pl M_mo_operand 104 6 24 (.int) := ⟨RC_mo, FT_mo, 35, ft_mo, k_mo, by decide, rfl, Or.inl ⟨List.mem_filter.mpr ⟨List.mem_append_right _ (List.mem_append_right _ (List.mem_append_right _ (List.mem_of_getElem? (i := 16) rfl))), rfl⟩, Or.inl rfl⟩⟩
theorem pl_mo_read_118 : ev_pl M_mo_read 118 6 34 (.int) := ⟨RC_mo, FT_mo, 35, ft_mo, k_mo, by decide, rfl, Or.inl ⟨List.mem_filter.mpr ⟨List.mem_append_right _ (List.mem_append_right _ (List.mem_append_right _ (List.mem_of_getElem? (i := 26) rfl))), rfl⟩, Or.inl rfl⟩⟩
theorem pl_mo_read_111 : ev_pl M_mo_read 111 6 25 (.int) := ⟨RC_mo, FT_mo, 35, ft_mo, k_mo, by decide, rfl, Or.inl ⟨List.mem_filter.mpr ⟨List.mem_append_right _ (List.mem_append_right _ (List.mem_append_right _ (List.mem_of_getElem? (i := 17) rfl))), rfl⟩, Or.inl rfl⟩⟩
theorem pl_mo_read_104 : ev_pl M_mo_read 104 6 24 (.int) := ⟨RC_mo, FT_mo, 35, ft_mo, k_mo, by decide, rfl, Or.inl ⟨List.mem_filter.mpr ⟨List.mem_append_right _ (List.mem_append_right _ (List.mem_append_right _ (List.mem_of_getElem? (i := 16) rfl))), rfl⟩, Or.inl rfl⟩⟩
theorem pl_mo_read_101 : ev_pl M_mo_read 101 6 23 (.int) := ⟨RC_mo, FT_mo, 35, ft_mo, k_mo, by decide, rfl, Or.inl ⟨List.mem_filter.mpr ⟨List.mem_append_right _ (List.mem_append_right _ (List.mem_append_right _ (List.mem_of_getElem? (i := 15) rfl))), rfl⟩, Or.inl rfl⟩⟩
theorem pl_mo_read_125 : ev_pl M_mo_read 125 6 26 (.int) := ⟨RC_mo, FT_mo, 35, ft_mo, k_mo, by decide, rfl, Or.inl ⟨List.mem_filter.mpr ⟨List.mem_append_right _ (List.mem_append_right _ (List.mem_append_right _ (List.mem_of_getElem? (i := 18) rfl))), rfl⟩, Or.inl rfl⟩⟩
theorem pl_mo_read_107 : ev_pl M_mo_read 107 6 27 (.boolean) := ⟨RC_mo, FT_mo, 35, ft_mo, k_mo, by decide, rfl, Or.inl ⟨List.mem_filter.mpr ⟨List.mem_append_right _ (List.mem_append_right _ (List.mem_append_right _ (List.mem_of_getElem? (i := 19) rfl))), rfl⟩, Or.inl rfl⟩⟩
theorem lk_mo_132 : ev_lk "LicenceRulesModel" 132 M_mo_operand := Or.inl (List.mem_filter.mpr ⟨List.mem_append_right _ (List.mem_append_right _ (List.mem_append_right _ (List.mem_of_getElem? (i := 134) rfl))), rfl⟩)
theorem lk_mo_136 : ev_lk "LicenceRulesModel" 136 M_mo_workOff := Or.inl (List.mem_filter.mpr ⟨List.mem_append_right _ (List.mem_append_right _ (List.mem_append_right _ (List.mem_of_getElem? (i := 146) rfl))), rfl⟩)
theorem pl_mo_express_81 : ev_pl M_mo_express 81 6 0 (.int) := ⟨RC_mo, FT_mo, 35, ft_mo, k_mo, by decide, rfl, Or.inl ⟨List.mem_filter.mpr ⟨List.mem_append_right _ (List.mem_append_right _ (List.mem_append_left _ (List.mem_of_getElem? (i := 232) rfl))), rfl⟩, Or.inl rfl⟩⟩
theorem lk_mo_140 : ev_lk "LicenceRulesModel" 140 M_mo_read := Or.inl (List.mem_filter.mpr ⟨List.mem_append_right _ (List.mem_append_right _ (List.mem_append_right _ (List.mem_of_getElem? (i := 130) rfl))), rfl⟩)
theorem pl_mo_express_98 : ev_pl M_mo_express 98 6 9 (.int) := ⟨RC_mo, FT_mo, 35, ft_mo, k_mo, by decide, rfl, Or.inl ⟨List.mem_filter.mpr ⟨List.mem_append_right _ (List.mem_append_right _ (List.mem_append_right _ (List.mem_of_getElem? (i := 1) rfl))), rfl⟩, Or.inl rfl⟩⟩
theorem lk_mo_143 : ev_lk "LicenceRulesModel" 143 M_mo_isPack := Or.inl (List.mem_filter.mpr ⟨List.mem_append_right _ (List.mem_append_right _ (List.mem_append_right _ (List.mem_of_getElem? (i := 154) rfl))), rfl⟩)
theorem pl_mo_choices_81 : ev_pl M_mo_choices 81 6 0 (.int) := ⟨RC_mo, FT_mo, 35, ft_mo, k_mo, by decide, rfl, Or.inl ⟨List.mem_filter.mpr ⟨List.mem_append_right _ (List.mem_append_right _ (List.mem_append_left _ (List.mem_of_getElem? (i := 232) rfl))), rfl⟩, Or.inl rfl⟩⟩
theorem pl_mo_pair_81 : ev_pl M_mo_pair 81 6 0 (.int) := ⟨RC_mo, FT_mo, 35, ft_mo, k_mo, by decide, rfl, Or.inl ⟨List.mem_filter.mpr ⟨List.mem_append_right _ (List.mem_append_right _ (List.mem_append_left _ (List.mem_of_getElem? (i := 232) rfl))), rfl⟩, Or.inl rfl⟩⟩
theorem lk_mo_146 : ev_lk "LicenceRulesModel" 146 M_mo_isLifted := Or.inl (List.mem_filter.mpr ⟨List.mem_append_right _ (List.mem_append_right _ (List.mem_append_right _ (List.mem_of_getElem? (i := 178) rfl))), rfl⟩)
theorem lk_mo_150 : ev_lk "LicenceRulesModel" 150 M_mo_dutiesOf := Or.inl (List.mem_filter.mpr ⟨List.mem_append_right _ (List.mem_append_right _ (List.mem_append_right _ (List.mem_of_getElem? (i := 174) rfl))), rfl⟩)
theorem lk_mo_154 : ev_lk "LicenceRulesModel" 154 M_mo_count := Or.inl (List.mem_filter.mpr ⟨List.mem_append_right _ (List.mem_append_right _ (List.mem_append_right _ (List.mem_of_getElem? (i := 182) rfl))), rfl⟩)
theorem pl_mo_best_81 : ev_pl M_mo_best 81 6 0 (.int) := ⟨RC_mo, FT_mo, 35, ft_mo, k_mo, by decide, rfl, Or.inl ⟨List.mem_filter.mpr ⟨List.mem_append_right _ (List.mem_append_right _ (List.mem_append_left _ (List.mem_of_getElem? (i := 232) rfl))), rfl⟩, Or.inl rfl⟩⟩
theorem lk_mo_157 : ev_lk "LicenceRulesModel" 157 M_mo_bestOf := Or.inl (List.mem_filter.mpr ⟨List.mem_append_right _ (List.mem_append_right _ (List.mem_append_right _ (List.mem_of_getElem? (i := 170) rfl))), rfl⟩)
theorem pl_mo_duties_81 : ev_pl M_mo_duties 81 6 0 (.int) := ⟨RC_mo, FT_mo, 35, ft_mo, k_mo, by decide, rfl, Or.inl ⟨List.mem_filter.mpr ⟨List.mem_append_right _ (List.mem_append_right _ (List.mem_append_left _ (List.mem_of_getElem? (i := 232) rfl))), rfl⟩, Or.inl rfl⟩⟩
theorem lk_mo_161 : ev_lk "LicenceRulesModel" 161 M_mo_bestDuties := Or.inl (List.mem_filter.mpr ⟨List.mem_append_right _ (List.mem_append_right _ (List.mem_append_right _ (List.mem_of_getElem? (i := 189) rfl))), rfl⟩)
theorem pl_mo_uses_81 : ev_pl M_mo_uses 81 6 0 (.int) := ⟨RC_mo, FT_mo, 35, ft_mo, k_mo, by decide, rfl, Or.inl ⟨List.mem_filter.mpr ⟨List.mem_append_right _ (List.mem_append_right _ (List.mem_append_left _ (List.mem_of_getElem? (i := 232) rfl))), rfl⟩, Or.inl rfl⟩⟩
theorem pl_mo_grant_81 : ev_pl M_mo_grant 81 6 0 (.int) := ⟨RC_mo, FT_mo, 35, ft_mo, k_mo, by decide, rfl, Or.inl ⟨List.mem_filter.mpr ⟨List.mem_append_right _ (List.mem_append_right _ (List.mem_append_left _ (List.mem_of_getElem? (i := 232) rfl))), rfl⟩, Or.inl rfl⟩⟩
theorem pl_mo_tick_81 : ev_pl M_mo_tick 81 6 0 (.int) := ⟨RC_mo, FT_mo, 35, ft_mo, k_mo, by decide, rfl, Or.inl ⟨List.mem_filter.mpr ⟨List.mem_append_right _ (List.mem_append_right _ (List.mem_append_left _ (List.mem_of_getElem? (i := 232) rfl))), rfl⟩, Or.inl rfl⟩⟩
theorem kc_mo_164 : Cond.constant "LicenceRulesModel" 164 100000 ∈ ev_WS := List.mem_filter.mpr ⟨List.mem_append_right _ (List.mem_append_right _ (List.mem_append_right _ (List.mem_of_getElem? (i := 205) rfl))), rfl⟩
theorem fl_mo_165 : ev_fl "LicenceRulesModel" 165 6 1 false (.int) := ⟨RC_mo, FT_mo, 35, ft_mo, k_mo, by decide, rfl, rfl, Or.inl ⟨List.mem_filter.mpr ⟨List.mem_append_right _ (List.mem_append_right _ (List.mem_append_left _ (List.mem_of_getElem? (i := 233) rfl))), rfl⟩, fun _ => rfl⟩⟩
theorem kc_mo_168 : Cond.constant "LicenceRulesModel" 168 1000000000 ∈ ev_WS := List.mem_filter.mpr ⟨List.mem_append_right _ (List.mem_append_right _ (List.mem_append_right _ (List.mem_of_getElem? (i := 206) rfl))), rfl⟩
theorem pl_mo_tick_165 : ev_pl M_mo_tick 165 6 1 (.int) := ⟨RC_mo, FT_mo, 35, ft_mo, k_mo, by decide, rfl, Or.inl ⟨List.mem_filter.mpr ⟨List.mem_append_right _ (List.mem_append_right _ (List.mem_append_left _ (List.mem_of_getElem? (i := 233) rfl))), rfl⟩, Or.inl rfl⟩⟩
theorem fl_mo_169 : ev_fl "LicenceRulesModel" 169 6 28 false (.int) := ⟨RC_mo, FT_mo, 35, ft_mo, k_mo, by decide, rfl, rfl, Or.inl ⟨List.mem_filter.mpr ⟨List.mem_append_right _ (List.mem_append_right _ (List.mem_append_right _ (List.mem_of_getElem? (i := 20) rfl))), rfl⟩, fun _ => rfl⟩⟩
theorem pl_mo_come_169 : ev_pl M_mo_come 169 6 28 (.int) := ⟨RC_mo, FT_mo, 35, ft_mo, k_mo, by decide, rfl, Or.inl ⟨List.mem_filter.mpr ⟨List.mem_append_right _ (List.mem_append_right _ (List.mem_append_right _ (List.mem_of_getElem? (i := 20) rfl))), rfl⟩, Or.inl rfl⟩⟩
theorem pl_mo_review_81 : ev_pl M_mo_review 81 6 0 (.int) := ⟨RC_mo, FT_mo, 35, ft_mo, k_mo, by decide, rfl, Or.inl ⟨List.mem_filter.mpr ⟨List.mem_append_right _ (List.mem_append_right _ (List.mem_append_left _ (List.mem_of_getElem? (i := 232) rfl))), rfl⟩, Or.inl rfl⟩⟩
theorem pl_mo_review_169 : ev_pl M_mo_review 169 6 28 (.int) := ⟨RC_mo, FT_mo, 35, ft_mo, k_mo, by decide, rfl, Or.inl ⟨List.mem_filter.mpr ⟨List.mem_append_right _ (List.mem_append_right _ (List.mem_append_right _ (List.mem_of_getElem? (i := 20) rfl))), rfl⟩, Or.inl rfl⟩⟩
theorem lk_mo_172 : ev_lk "LicenceRulesModel" 172 M_mo_come := Or.inl (List.mem_filter.mpr ⟨List.mem_append_right _ (List.mem_append_right _ (List.mem_append_right _ (List.mem_of_getElem? (i := 211) rfl))), rfl⟩)
theorem pl_mo_entry_81 : ev_pl M_mo_entry 81 6 0 (.int) := ⟨RC_mo, FT_mo, 35, ft_mo, k_mo, by decide, rfl, Or.inl ⟨List.mem_filter.mpr ⟨List.mem_append_right _ (List.mem_append_right _ (List.mem_append_left _ (List.mem_of_getElem? (i := 232) rfl))), rfl⟩, Or.inl rfl⟩⟩
theorem pl_mo_all_81 : ev_pl M_mo_all 81 6 0 (.int) := ⟨RC_mo, FT_mo, 35, ft_mo, k_mo, by decide, rfl, Or.inl ⟨List.mem_filter.mpr ⟨List.mem_append_right _ (List.mem_append_right _ (List.mem_append_left _ (List.mem_of_getElem? (i := 232) rfl))), rfl⟩, Or.inl rfl⟩⟩
theorem pl_mo_material_81 : ev_pl M_mo_material 81 6 0 (.int) := ⟨RC_mo, FT_mo, 35, ft_mo, k_mo, by decide, rfl, Or.inl ⟨List.mem_filter.mpr ⟨List.mem_append_right _ (List.mem_append_right _ (List.mem_append_left _ (List.mem_of_getElem? (i := 232) rfl))), rfl⟩, Or.inl rfl⟩⟩
theorem pl_mo_score_81 : ev_pl M_mo_score 81 6 0 (.int) := ⟨RC_mo, FT_mo, 35, ft_mo, k_mo, by decide, rfl, Or.inl ⟨List.mem_filter.mpr ⟨List.mem_append_right _ (List.mem_append_right _ (List.mem_append_left _ (List.mem_of_getElem? (i := 232) rfl))), rfl⟩, Or.inl rfl⟩⟩
theorem lk_mo_176 : ev_lk "LicenceRulesModel" 176 M_mo_scoreOf := Or.inl (List.mem_filter.mpr ⟨List.mem_append_right _ (List.mem_append_right _ (List.mem_append_right _ (List.mem_of_getElem? (i := 231) rfl))), rfl⟩)
theorem pl_mo_found_81 : ev_pl M_mo_found 81 6 0 (.int) := ⟨RC_mo, FT_mo, 35, ft_mo, k_mo, by decide, rfl, Or.inl ⟨List.mem_filter.mpr ⟨List.mem_append_right _ (List.mem_append_right _ (List.mem_append_left _ (List.mem_of_getElem? (i := 232) rfl))), rfl⟩, Or.inl rfl⟩⟩
theorem cl_law_7 : Cond.classLink "LicenceRulesLaw" 7 "LicenceRules" ∈ ev_WS := List.mem_filter.mpr ⟨List.mem_append_right _ (List.mem_append_left _ (List.mem_of_getElem? (i := 12) rfl)), rfl⟩
theorem lk_law_9 : ev_lk "LicenceRulesLaw" 9 M_lr_init := Or.inl (List.mem_filter.mpr ⟨List.mem_append_right _ (List.mem_append_left _ (List.mem_of_getElem? (i := 14) rfl)), rfl⟩)
theorem cl_law_10 : Cond.classLink "LicenceRulesLaw" 10 "LicenceRulesModel" ∈ ev_WS := List.mem_filter.mpr ⟨List.mem_append_right _ (List.mem_append_right _ (List.mem_append_left _ (List.mem_of_getElem? (i := 226) rfl))), rfl⟩
theorem lk_law_12 : ev_lk "LicenceRulesLaw" 12 M_mo_init := Or.inl (List.mem_filter.mpr ⟨List.mem_append_right _ (List.mem_append_right _ (List.mem_append_left _ (List.mem_of_getElem? (i := 228) rfl))), rfl⟩)
theorem kc_law_13 : Cond.constantLong "LicenceRulesLaw" 13 4294967295 ∈ ev_WS := List.mem_filter.mpr ⟨List.mem_append_right _ (List.mem_append_right _ (List.mem_append_right _ (List.mem_of_getElem? (i := 239) rfl))), rfl⟩
theorem lk_law_15 : ev_lk "LicenceRulesLaw" 15 M_lr_licence := Or.inl (List.mem_filter.mpr ⟨List.mem_append_right _ (List.mem_append_left _ (List.mem_of_getElem? (i := 145) rfl)), rfl⟩)
theorem lk_law_19 : ev_lk "LicenceRulesLaw" 19 M_mo_licence := Or.inl (List.mem_filter.mpr ⟨List.mem_append_right _ (List.mem_append_right _ (List.mem_append_right _ (List.mem_of_getElem? (i := 99) rfl))), rfl⟩)
theorem lk_law_20 : ev_lk "LicenceRulesLaw" 20 M_lr_rule := Or.inl (List.mem_filter.mpr ⟨List.mem_append_right _ (List.mem_append_left _ (List.mem_of_getElem? (i := 153) rfl)), rfl⟩)
theorem lk_law_24 : ev_lk "LicenceRulesLaw" 24 M_mo_rule := Or.inl (List.mem_filter.mpr ⟨List.mem_append_right _ (List.mem_append_right _ (List.mem_append_right _ (List.mem_of_getElem? (i := 103) rfl))), rfl⟩)
theorem lk_law_25 : ev_lk "LicenceRulesLaw" 25 M_lr_lifts := Or.inl (List.mem_filter.mpr ⟨List.mem_append_right _ (List.mem_append_left _ (List.mem_of_getElem? (i := 168) rfl)), rfl⟩)
theorem lk_law_29 : ev_lk "LicenceRulesLaw" 29 M_mo_lifts := Or.inl (List.mem_filter.mpr ⟨List.mem_append_right _ (List.mem_append_right _ (List.mem_append_right _ (List.mem_of_getElem? (i := 114) rfl))), rfl⟩)
theorem lk_law_30 : ev_lk "LicenceRulesLaw" 30 M_lr_type := Or.inl (List.mem_filter.mpr ⟨List.mem_append_right _ (List.mem_append_left _ (List.mem_of_getElem? (i := 176) rfl)), rfl⟩)
theorem lk_law_34 : ev_lk "LicenceRulesLaw" 34 M_mo_type := Or.inl (List.mem_filter.mpr ⟨List.mem_append_right _ (List.mem_append_right _ (List.mem_append_right _ (List.mem_of_getElem? (i := 118) rfl))), rfl⟩)
theorem lk_law_35 : ev_lk "LicenceRulesLaw" 35 M_lr_pack := Or.inl (List.mem_filter.mpr ⟨List.mem_append_right _ (List.mem_append_left _ (List.mem_of_getElem? (i := 184) rfl)), rfl⟩)
theorem lk_law_39 : ev_lk "LicenceRulesLaw" 39 M_mo_pack := Or.inl (List.mem_filter.mpr ⟨List.mem_append_right _ (List.mem_append_right _ (List.mem_append_right _ (List.mem_of_getElem? (i := 122) rfl))), rfl⟩)
theorem lk_law_40 : ev_lk "LicenceRulesLaw" 40 M_lr_express := Or.inl (List.mem_filter.mpr ⟨List.mem_append_right _ (List.mem_append_left _ (List.mem_of_getElem? (i := 218) rfl)), rfl⟩)
theorem lk_law_44 : ev_lk "LicenceRulesLaw" 44 M_mo_express := Or.inl (List.mem_filter.mpr ⟨List.mem_append_right _ (List.mem_append_right _ (List.mem_append_right _ (List.mem_of_getElem? (i := 126) rfl))), rfl⟩)
theorem lk_law_45 : ev_lk "LicenceRulesLaw" 45 M_lr_choices := Or.inl (List.mem_filter.mpr ⟨List.mem_append_right _ (List.mem_append_right _ (List.mem_append_left _ (List.mem_of_getElem? (i := 87) rfl))), rfl⟩)
theorem lk_law_48 : ev_lk "LicenceRulesLaw" 48 M_mo_choices := Or.inl (List.mem_filter.mpr ⟨List.mem_append_right _ (List.mem_append_right _ (List.mem_append_right _ (List.mem_of_getElem? (i := 158) rfl))), rfl⟩)
theorem lk_law_49 : ev_lk "LicenceRulesLaw" 49 M_lr_pair := Or.inl (List.mem_filter.mpr ⟨List.mem_append_right _ (List.mem_append_right _ (List.mem_append_left _ (List.mem_of_getElem? (i := 91) rfl))), rfl⟩)
theorem lk_law_53 : ev_lk "LicenceRulesLaw" 53 M_mo_pair := Or.inl (List.mem_filter.mpr ⟨List.mem_append_right _ (List.mem_append_right _ (List.mem_append_right _ (List.mem_of_getElem? (i := 162) rfl))), rfl⟩)
theorem lk_law_54 : ev_lk "LicenceRulesLaw" 54 M_lr_best := Or.inl (List.mem_filter.mpr ⟨List.mem_append_right _ (List.mem_append_right _ (List.mem_append_left _ (List.mem_of_getElem? (i := 103) rfl))), rfl⟩)
theorem lk_law_58 : ev_lk "LicenceRulesLaw" 58 M_mo_best := Or.inl (List.mem_filter.mpr ⟨List.mem_append_right _ (List.mem_append_right _ (List.mem_append_right _ (List.mem_of_getElem? (i := 166) rfl))), rfl⟩)
theorem lk_law_59 : ev_lk "LicenceRulesLaw" 59 M_lr_duties := Or.inl (List.mem_filter.mpr ⟨List.mem_append_right _ (List.mem_append_right _ (List.mem_append_left _ (List.mem_of_getElem? (i := 137) rfl))), rfl⟩)
theorem lk_law_62 : ev_lk "LicenceRulesLaw" 62 M_mo_duties := Or.inl (List.mem_filter.mpr ⟨List.mem_append_right _ (List.mem_append_right _ (List.mem_append_right _ (List.mem_of_getElem? (i := 185) rfl))), rfl⟩)
theorem lk_law_63 : ev_lk "LicenceRulesLaw" 63 M_lr_uses := Or.inl (List.mem_filter.mpr ⟨List.mem_append_right _ (List.mem_append_right _ (List.mem_append_left _ (List.mem_of_getElem? (i := 143) rfl))), rfl⟩)
theorem lk_law_67 : ev_lk "LicenceRulesLaw" 67 M_mo_uses := Or.inl (List.mem_filter.mpr ⟨List.mem_append_right _ (List.mem_append_right _ (List.mem_append_right _ (List.mem_of_getElem? (i := 193) rfl))), rfl⟩)
theorem lk_law_68 : ev_lk "LicenceRulesLaw" 68 M_lr_grant := Or.inl (List.mem_filter.mpr ⟨List.mem_append_right _ (List.mem_append_right _ (List.mem_append_left _ (List.mem_of_getElem? (i := 151) rfl))), rfl⟩)
theorem lk_law_72 : ev_lk "LicenceRulesLaw" 72 M_mo_grant := Or.inl (List.mem_filter.mpr ⟨List.mem_append_right _ (List.mem_append_right _ (List.mem_append_right _ (List.mem_of_getElem? (i := 197) rfl))), rfl⟩)
theorem lk_law_73 : ev_lk "LicenceRulesLaw" 73 M_lr_tick := Or.inl (List.mem_filter.mpr ⟨List.mem_append_right _ (List.mem_append_right _ (List.mem_append_left _ (List.mem_of_getElem? (i := 155) rfl))), rfl⟩)
theorem lk_law_76 : ev_lk "LicenceRulesLaw" 76 M_mo_tick := Or.inl (List.mem_filter.mpr ⟨List.mem_append_right _ (List.mem_append_right _ (List.mem_append_right _ (List.mem_of_getElem? (i := 201) rfl))), rfl⟩)
theorem lk_law_77 : ev_lk "LicenceRulesLaw" 77 M_lr_review := Or.inl (List.mem_filter.mpr ⟨List.mem_append_right _ (List.mem_append_right _ (List.mem_append_left _ (List.mem_of_getElem? (i := 161) rfl))), rfl⟩)
theorem lk_law_80 : ev_lk "LicenceRulesLaw" 80 M_mo_review := Or.inl (List.mem_filter.mpr ⟨List.mem_append_right _ (List.mem_append_right _ (List.mem_append_right _ (List.mem_of_getElem? (i := 207) rfl))), rfl⟩)
theorem lk_law_81 : ev_lk "LicenceRulesLaw" 81 M_lr_entry := Or.inl (List.mem_filter.mpr ⟨List.mem_append_right _ (List.mem_append_right _ (List.mem_append_left _ (List.mem_of_getElem? (i := 185) rfl))), rfl⟩)
theorem lk_law_84 : ev_lk "LicenceRulesLaw" 84 M_mo_entry := Or.inl (List.mem_filter.mpr ⟨List.mem_append_right _ (List.mem_append_right _ (List.mem_append_right _ (List.mem_of_getElem? (i := 215) rfl))), rfl⟩)
theorem lk_law_85 : ev_lk "LicenceRulesLaw" 85 M_lr_all := Or.inl (List.mem_filter.mpr ⟨List.mem_append_right _ (List.mem_append_right _ (List.mem_append_left _ (List.mem_of_getElem? (i := 193) rfl))), rfl⟩)
theorem lk_law_88 : ev_lk "LicenceRulesLaw" 88 M_mo_all := Or.inl (List.mem_filter.mpr ⟨List.mem_append_right _ (List.mem_append_right _ (List.mem_append_right _ (List.mem_of_getElem? (i := 219) rfl))), rfl⟩)
theorem lk_law_89 : ev_lk "LicenceRulesLaw" 89 M_lr_material := Or.inl (List.mem_filter.mpr ⟨List.mem_append_right _ (List.mem_append_right _ (List.mem_append_left _ (List.mem_of_getElem? (i := 201) rfl))), rfl⟩)
theorem lk_law_92 : ev_lk "LicenceRulesLaw" 92 M_mo_material := Or.inl (List.mem_filter.mpr ⟨List.mem_append_right _ (List.mem_append_right _ (List.mem_append_right _ (List.mem_of_getElem? (i := 223) rfl))), rfl⟩)
theorem lk_law_93 : ev_lk "LicenceRulesLaw" 93 M_lr_found := Or.inl (List.mem_filter.mpr ⟨List.mem_append_right _ (List.mem_append_right _ (List.mem_append_left _ (List.mem_of_getElem? (i := 213) rfl))), rfl⟩)
theorem lk_law_97 : ev_lk "LicenceRulesLaw" 97 M_mo_found := Or.inl (List.mem_filter.mpr ⟨List.mem_append_right _ (List.mem_append_right _ (List.mem_append_right _ (List.mem_of_getElem? (i := 235) rfl))), rfl⟩)
theorem lk_law_98 : ev_lk "LicenceRulesLaw" 98 M_lr_score := Or.inl (List.mem_filter.mpr ⟨List.mem_append_right _ (List.mem_append_right _ (List.mem_append_left _ (List.mem_of_getElem? (i := 222) rfl))), rfl⟩)
theorem lk_law_101 : ev_lk "LicenceRulesLaw" 101 M_mo_score := Or.inl (List.mem_filter.mpr ⟨List.mem_append_right _ (List.mem_append_right _ (List.mem_append_right _ (List.mem_of_getElem? (i := 227) rfl))), rfl⟩)
theorem kc_jin_265 : Cond.constant "java/lang/Integer" 265 1431655765 ∈ ev_WS := List.mem_filter.mpr ⟨List.mem_append_right _ (List.mem_append_right _ (List.mem_append_left _ (List.mem_of_getElem? (i := 124) rfl))), rfl⟩
theorem kc_jin_266 : Cond.constant "java/lang/Integer" 266 858993459 ∈ ev_WS := List.mem_filter.mpr ⟨List.mem_append_right _ (List.mem_append_right _ (List.mem_append_left _ (List.mem_of_getElem? (i := 125) rfl))), rfl⟩
theorem kc_jin_267 : Cond.constant "java/lang/Integer" 267 252645135 ∈ ev_WS := List.mem_filter.mpr ⟨List.mem_append_right _ (List.mem_append_right _ (List.mem_append_left _ (List.mem_of_getElem? (i := 126) rfl))), rfl⟩
theorem kc_jlo_314 : Cond.constantLong "java/lang/Long" 314 6148914691236517205 ∈ ev_WS := List.mem_filter.mpr ⟨List.mem_append_right _ (List.mem_append_right _ (List.mem_append_left _ (List.mem_of_getElem? (i := 134) rfl))), rfl⟩
theorem kc_jlo_316 : Cond.constantLong "java/lang/Long" 316 3689348814741910323 ∈ ev_WS := List.mem_filter.mpr ⟨List.mem_append_right _ (List.mem_append_right _ (List.mem_append_left _ (List.mem_of_getElem? (i := 135) rfl))), rfl⟩
theorem kc_jlo_318 : Cond.constantLong "java/lang/Long" 318 1085102592571150095 ∈ ev_WS := List.mem_filter.mpr ⟨List.mem_append_right _ (List.mem_append_right _ (List.mem_append_left _ (List.mem_of_getElem? (i := 136) rfl))), rfl⟩
end
section
theorem i_fo_init_0 : fe M_fo_init 0 (.aload_n 0) 1 1 := ⟨by decide +kernel, rfl⟩
theorem i_fo_init_1 : fe M_fo_init 1 (.invokespecial 3) 3 4 := ⟨by decide +kernel, rfl⟩
theorem i_fo_init_4 : fe M_fo_init 4 (.aload_n 0) 1 5 := ⟨by decide +kernel, rfl⟩
theorem i_fo_init_5 : fe M_fo_init 5 (.iconst 0) 1 6 := ⟨by decide +kernel, rfl⟩
theorem i_fo_init_6 : fe M_fo_init 6 (.putfield 9) 3 9 := ⟨by decide +kernel, rfl⟩
theorem i_fo_init_9 : fe M_fo_init 9 (.aload_n 0) 1 10 := ⟨by decide +kernel, rfl⟩
theorem i_fo_init_10 : fe M_fo_init 10 (.iload_n 1) 1 11 := ⟨by decide +kernel, rfl⟩
theorem i_fo_init_11 : fe M_fo_init 11 (.iconst 1) 1 12 := ⟨by decide +kernel, rfl⟩
theorem i_fo_init_12 : fe M_fo_init 12 (.invokestatic 15) 3 15 := ⟨by decide +kernel, rfl⟩
theorem i_fo_init_15 : fe M_fo_init 15 (.putfield 21) 3 18 := ⟨by decide +kernel, rfl⟩
theorem i_fo_init_18 : fe M_fo_init 18 (.aload_n 0) 1 19 := ⟨by decide +kernel, rfl⟩
theorem i_fo_init_19 : fe M_fo_init 19 (.aload_n 0) 1 20 := ⟨by decide +kernel, rfl⟩
theorem i_fo_init_20 : fe M_fo_init 20 (.getfield 21) 3 23 := ⟨by decide +kernel, rfl⟩
theorem i_fo_init_23 : fe M_fo_init 23 (.iconst 3) 1 24 := ⟨by decide +kernel, rfl⟩
theorem i_fo_init_24 : fe M_fo_init 24 .imul 1 25 := ⟨by decide +kernel, rfl⟩
theorem i_fo_init_25 : fe M_fo_init 25 (.newarray .long) 2 27 := ⟨by decide +kernel, rfl⟩
theorem i_fo_init_27 : fe M_fo_init 27 (.putfield 24) 3 30 := ⟨by decide +kernel, rfl⟩
theorem i_fo_init_30 : fe M_fo_init 30 .return_ 1 31 := ⟨by decide +kernel, rfl⟩
theorem i_fo_size_0 : fe M_fo_size 0 (.aload_n 0) 1 1 := ⟨by decide +kernel, rfl⟩
theorem i_fo_size_1 : fe M_fo_size 1 (.getfield 9) 3 4 := ⟨by decide +kernel, rfl⟩
theorem i_fo_size_4 : fe M_fo_size 4 .ireturn 1 5 := ⟨by decide +kernel, rfl⟩
theorem i_fo_clear_0 : fe M_fo_clear 0 (.aload_n 0) 1 1 := ⟨by decide +kernel, rfl⟩
theorem i_fo_clear_1 : fe M_fo_clear 1 (.iconst 0) 1 2 := ⟨by decide +kernel, rfl⟩
theorem i_fo_clear_2 : fe M_fo_clear 2 (.putfield 9) 3 5 := ⟨by decide +kernel, rfl⟩
theorem i_fo_clear_5 : fe M_fo_clear 5 .return_ 1 6 := ⟨by decide +kernel, rfl⟩
theorem i_fo_setOnly_0 : fe M_fo_setOnly 0 (.iconst 0) 1 1 := ⟨by decide +kernel, rfl⟩
theorem i_fo_setOnly_1 : fe M_fo_setOnly 1 (.istore_n 2) 1 2 := ⟨by decide +kernel, rfl⟩
theorem i_fo_setOnly_2 : fe M_fo_setOnly 2 (.iload_n 2) 1 3 := ⟨by decide +kernel, rfl⟩
theorem i_fo_setOnly_3 : fe M_fo_setOnly 3 (.iconst 3) 1 4 := ⟨by decide +kernel, rfl⟩
theorem i_fo_setOnly_4 : fb M_fo_setOnly 4 (.if_icmp .ge) 37 7 := ⟨33, by decide +kernel, by decide, rfl⟩
theorem i_fo_setOnly_7 : fe M_fo_setOnly 7 (.aload_n 0) 1 8 := ⟨by decide +kernel, rfl⟩
theorem i_fo_setOnly_8 : fe M_fo_setOnly 8 (.getfield 24) 3 11 := ⟨by decide +kernel, rfl⟩
theorem i_fo_setOnly_11 : fe M_fo_setOnly 11 (.iload_n 2) 1 12 := ⟨by decide +kernel, rfl⟩
theorem i_fo_setOnly_12 : fe M_fo_setOnly 12 (.iload_n 1) 1 13 := ⟨by decide +kernel, rfl⟩
theorem i_fo_setOnly_13 : fe M_fo_setOnly 13 (.bipush 6) 2 15 := ⟨by decide +kernel, rfl⟩
theorem i_fo_setOnly_15 : fe M_fo_setOnly 15 .ishr 1 16 := ⟨by decide +kernel, rfl⟩
theorem i_fo_setOnly_16 : fe M_fo_setOnly 16 (.iload_n 2) 1 17 := ⟨by decide +kernel, rfl⟩
theorem i_fo_setOnly_17 : fb M_fo_setOnly 17 (.if_icmp .ne) 29 20 := ⟨12, by decide +kernel, by decide, rfl⟩
theorem i_fo_setOnly_20 : fe M_fo_setOnly 20 (.lconst 1) 1 21 := ⟨by decide +kernel, rfl⟩
theorem i_fo_setOnly_21 : fe M_fo_setOnly 21 (.iload_n 1) 1 22 := ⟨by decide +kernel, rfl⟩
theorem i_fo_setOnly_22 : fe M_fo_setOnly 22 (.bipush 63) 2 24 := ⟨by decide +kernel, rfl⟩
theorem i_fo_setOnly_24 : fe M_fo_setOnly 24 .iand 1 25 := ⟨by decide +kernel, rfl⟩
theorem i_fo_setOnly_25 : fe M_fo_setOnly 25 .lshl 1 26 := ⟨by decide +kernel, rfl⟩
theorem i_fo_setOnly_26 : fb M_fo_setOnly 26 .goto 30 29 := ⟨4, by decide +kernel, by decide, rfl⟩
theorem i_fo_setOnly_29 : fe M_fo_setOnly 29 (.lconst 0) 1 30 := ⟨by decide +kernel, rfl⟩
theorem i_fo_setOnly_30 : fe M_fo_setOnly 30 .lastore 1 31 := ⟨by decide +kernel, rfl⟩
theorem i_fo_setOnly_31 : fe M_fo_setOnly 31 (.iinc 2 1) 3 34 := ⟨by decide +kernel, rfl⟩
theorem i_fo_setOnly_34 : fb M_fo_setOnly 34 .goto 2 37 := ⟨-32, by decide +kernel, by decide, rfl⟩
theorem i_fo_setOnly_37 : fe M_fo_setOnly 37 (.aload_n 0) 1 38 := ⟨by decide +kernel, rfl⟩
theorem i_fo_setOnly_38 : fe M_fo_setOnly 38 (.iconst 1) 1 39 := ⟨by decide +kernel, rfl⟩
theorem i_fo_setOnly_39 : fe M_fo_setOnly 39 (.putfield 9) 3 42 := ⟨by decide +kernel, rfl⟩
theorem i_fo_setOnly_42 : fe M_fo_setOnly 42 .return_ 1 43 := ⟨by decide +kernel, rfl⟩
theorem i_fo_copyFrom_0 : fe M_fo_copyFrom 0 (.aload_n 0) 1 1 := ⟨by decide +kernel, rfl⟩
theorem i_fo_copyFrom_1 : fe M_fo_copyFrom 1 (.aload_n 1) 1 2 := ⟨by decide +kernel, rfl⟩
theorem i_fo_copyFrom_2 : fe M_fo_copyFrom 2 (.getfield 9) 3 5 := ⟨by decide +kernel, rfl⟩
theorem i_fo_copyFrom_5 : fe M_fo_copyFrom 5 (.aload_n 0) 1 6 := ⟨by decide +kernel, rfl⟩
theorem i_fo_copyFrom_6 : fe M_fo_copyFrom 6 (.getfield 21) 3 9 := ⟨by decide +kernel, rfl⟩
theorem i_fo_copyFrom_9 : fe M_fo_copyFrom 9 (.invokestatic 28) 3 12 := ⟨by decide +kernel, rfl⟩
theorem i_fo_copyFrom_12 : fe M_fo_copyFrom 12 (.putfield 9) 3 15 := ⟨by decide +kernel, rfl⟩
theorem i_fo_copyFrom_15 : fe M_fo_copyFrom 15 (.aload_n 1) 1 16 := ⟨by decide +kernel, rfl⟩
theorem i_fo_copyFrom_16 : fe M_fo_copyFrom 16 (.getfield 24) 3 19 := ⟨by decide +kernel, rfl⟩
theorem i_fo_copyFrom_19 : fe M_fo_copyFrom 19 (.iconst 0) 1 20 := ⟨by decide +kernel, rfl⟩
theorem i_fo_copyFrom_20 : fe M_fo_copyFrom 20 (.aload_n 0) 1 21 := ⟨by decide +kernel, rfl⟩
theorem i_fo_copyFrom_21 : fe M_fo_copyFrom 21 (.getfield 24) 3 24 := ⟨by decide +kernel, rfl⟩
theorem i_fo_copyFrom_24 : fe M_fo_copyFrom 24 (.iconst 0) 1 25 := ⟨by decide +kernel, rfl⟩
theorem i_fo_copyFrom_25 : fe M_fo_copyFrom 25 (.aload_n 0) 1 26 := ⟨by decide +kernel, rfl⟩
theorem i_fo_copyFrom_26 : fe M_fo_copyFrom 26 (.getfield 9) 3 29 := ⟨by decide +kernel, rfl⟩
theorem i_fo_copyFrom_29 : fe M_fo_copyFrom 29 (.iconst 3) 1 30 := ⟨by decide +kernel, rfl⟩
theorem i_fo_copyFrom_30 : fe M_fo_copyFrom 30 .imul 1 31 := ⟨by decide +kernel, rfl⟩
theorem i_fo_copyFrom_31 : fe M_fo_copyFrom 31 (.invokestatic 31) 3 34 := ⟨by decide +kernel, rfl⟩
theorem i_fo_copyFrom_34 : fe M_fo_copyFrom 34 .return_ 1 35 := ⟨by decide +kernel, rfl⟩
theorem i_fo_holds_0 : fe M_fo_holds 0 (.iload_n 1) 1 1 := ⟨by decide +kernel, rfl⟩
theorem i_fo_holds_1 : fb M_fo_holds 1 (.ifCond .lt) 23 4 := ⟨22, by decide +kernel, by decide, rfl⟩
theorem i_fo_holds_4 : fe M_fo_holds 4 (.iload_n 1) 1 5 := ⟨by decide +kernel, rfl⟩
theorem i_fo_holds_5 : fe M_fo_holds 5 (.aload_n 0) 1 6 := ⟨by decide +kernel, rfl⟩
theorem i_fo_holds_6 : fe M_fo_holds 6 (.getfield 9) 3 9 := ⟨by decide +kernel, rfl⟩
theorem i_fo_holds_9 : fb M_fo_holds 9 (.if_icmp .ge) 23 12 := ⟨14, by decide +kernel, by decide, rfl⟩
theorem i_fo_holds_12 : fe M_fo_holds 12 (.iload_n 2) 1 13 := ⟨by decide +kernel, rfl⟩
theorem i_fo_holds_13 : fb M_fo_holds 13 (.ifCond .lt) 23 16 := ⟨10, by decide +kernel, by decide, rfl⟩
theorem i_fo_holds_16 : fe M_fo_holds 16 (.iload_n 2) 1 17 := ⟨by decide +kernel, rfl⟩
theorem i_fo_holds_17 : fe M_fo_holds 17 (.sipush 144) 3 20 := ⟨by decide +kernel, rfl⟩
theorem i_fo_holds_20 : fb M_fo_holds 20 (.if_icmp .lt) 25 23 := ⟨5, by decide +kernel, by decide, rfl⟩
theorem i_fo_holds_23 : fe M_fo_holds 23 (.iconst 0) 1 24 := ⟨by decide +kernel, rfl⟩
theorem i_fo_holds_24 : fe M_fo_holds 24 .ireturn 1 25 := ⟨by decide +kernel, rfl⟩
theorem i_fo_holds_25 : fe M_fo_holds 25 (.aload_n 0) 1 26 := ⟨by decide +kernel, rfl⟩
theorem i_fo_holds_26 : fe M_fo_holds 26 (.getfield 24) 3 29 := ⟨by decide +kernel, rfl⟩
theorem i_fo_holds_29 : fe M_fo_holds 29 (.iload_n 1) 1 30 := ⟨by decide +kernel, rfl⟩
theorem i_fo_holds_30 : fe M_fo_holds 30 (.iconst 3) 1 31 := ⟨by decide +kernel, rfl⟩
theorem i_fo_holds_31 : fe M_fo_holds 31 .imul 1 32 := ⟨by decide +kernel, rfl⟩
theorem i_fo_holds_32 : fe M_fo_holds 32 (.iload_n 2) 1 33 := ⟨by decide +kernel, rfl⟩
theorem i_fo_holds_33 : fe M_fo_holds 33 (.bipush 6) 2 35 := ⟨by decide +kernel, rfl⟩
theorem i_fo_holds_35 : fe M_fo_holds 35 .ishr 1 36 := ⟨by decide +kernel, rfl⟩
theorem i_fo_holds_36 : fe M_fo_holds 36 .iadd 1 37 := ⟨by decide +kernel, rfl⟩
theorem i_fo_holds_37 : fe M_fo_holds 37 .laload 1 38 := ⟨by decide +kernel, rfl⟩
theorem i_fo_holds_38 : fe M_fo_holds 38 (.iload_n 2) 1 39 := ⟨by decide +kernel, rfl⟩
theorem i_fo_holds_39 : fe M_fo_holds 39 (.bipush 63) 2 41 := ⟨by decide +kernel, rfl⟩
theorem i_fo_holds_41 : fe M_fo_holds 41 .iand 1 42 := ⟨by decide +kernel, rfl⟩
theorem i_fo_holds_42 : fe M_fo_holds 42 .lushr 1 43 := ⟨by decide +kernel, rfl⟩
theorem i_fo_holds_43 : fe M_fo_holds 43 (.lconst 1) 1 44 := ⟨by decide +kernel, rfl⟩
theorem i_fo_holds_44 : fe M_fo_holds 44 .land 1 45 := ⟨by decide +kernel, rfl⟩
theorem i_fo_holds_45 : fe M_fo_holds 45 (.lconst 0) 1 46 := ⟨by decide +kernel, rfl⟩
theorem i_fo_holds_46 : fe M_fo_holds 46 .lcmp 1 47 := ⟨by decide +kernel, rfl⟩
theorem i_fo_holds_47 : fb M_fo_holds 47 (.ifCond .eq) 54 50 := ⟨7, by decide +kernel, by decide, rfl⟩
theorem i_fo_holds_50 : fe M_fo_holds 50 (.iconst 1) 1 51 := ⟨by decide +kernel, rfl⟩
theorem i_fo_holds_51 : fb M_fo_holds 51 .goto 55 54 := ⟨4, by decide +kernel, by decide, rfl⟩
theorem i_fo_holds_54 : fe M_fo_holds 54 (.iconst 0) 1 55 := ⟨by decide +kernel, rfl⟩
theorem i_fo_holds_55 : fe M_fo_holds 55 .ireturn 1 56 := ⟨by decide +kernel, rfl⟩
theorem i_fo_pairCount_0 : fe M_fo_pairCount 0 (.iconst 0) 1 1 := ⟨by decide +kernel, rfl⟩
theorem i_fo_pairCount_1 : fe M_fo_pairCount 1 (.istore_n 2) 1 2 := ⟨by decide +kernel, rfl⟩
theorem i_fo_pairCount_2 : fe M_fo_pairCount 2 (.iconst 0) 1 3 := ⟨by decide +kernel, rfl⟩
theorem i_fo_pairCount_3 : fe M_fo_pairCount 3 (.istore_n 3) 1 4 := ⟨by decide +kernel, rfl⟩
theorem i_fo_pairCount_4 : fe M_fo_pairCount 4 (.iload_n 3) 1 5 := ⟨by decide +kernel, rfl⟩
theorem i_fo_pairCount_5 : fe M_fo_pairCount 5 (.iconst 3) 1 6 := ⟨by decide +kernel, rfl⟩
theorem i_fo_pairCount_6 : fb M_fo_pairCount 6 (.if_icmp .ge) 43 9 := ⟨37, by decide +kernel, by decide, rfl⟩
theorem i_fo_pairCount_9 : fe M_fo_pairCount 9 (.iload_n 1) 1 10 := ⟨by decide +kernel, rfl⟩
theorem i_fo_pairCount_10 : fb M_fo_pairCount 10 (.ifCond .lt) 43 13 := ⟨33, by decide +kernel, by decide, rfl⟩
theorem i_fo_pairCount_13 : fe M_fo_pairCount 13 (.iload_n 1) 1 14 := ⟨by decide +kernel, rfl⟩
theorem i_fo_pairCount_14 : fe M_fo_pairCount 14 (.aload_n 0) 1 15 := ⟨by decide +kernel, rfl⟩
theorem i_fo_pairCount_15 : fe M_fo_pairCount 15 (.getfield 9) 3 18 := ⟨by decide +kernel, rfl⟩
theorem i_fo_pairCount_18 : fb M_fo_pairCount 18 (.if_icmp .ge) 43 21 := ⟨25, by decide +kernel, by decide, rfl⟩
theorem i_fo_pairCount_21 : fe M_fo_pairCount 21 (.iload_n 2) 1 22 := ⟨by decide +kernel, rfl⟩
theorem i_fo_pairCount_22 : fe M_fo_pairCount 22 (.aload_n 0) 1 23 := ⟨by decide +kernel, rfl⟩
theorem i_fo_pairCount_23 : fe M_fo_pairCount 23 (.getfield 24) 3 26 := ⟨by decide +kernel, rfl⟩
theorem i_fo_pairCount_26 : fe M_fo_pairCount 26 (.iload_n 1) 1 27 := ⟨by decide +kernel, rfl⟩
theorem i_fo_pairCount_27 : fe M_fo_pairCount 27 (.iconst 3) 1 28 := ⟨by decide +kernel, rfl⟩
theorem i_fo_pairCount_28 : fe M_fo_pairCount 28 .imul 1 29 := ⟨by decide +kernel, rfl⟩
theorem i_fo_pairCount_29 : fe M_fo_pairCount 29 (.iload_n 3) 1 30 := ⟨by decide +kernel, rfl⟩
theorem i_fo_pairCount_30 : fe M_fo_pairCount 30 .iadd 1 31 := ⟨by decide +kernel, rfl⟩
theorem i_fo_pairCount_31 : fe M_fo_pairCount 31 .laload 1 32 := ⟨by decide +kernel, rfl⟩
theorem i_fo_pairCount_32 : fe M_fo_pairCount 32 (.invokestatic 37) 3 35 := ⟨by decide +kernel, rfl⟩
theorem i_fo_pairCount_35 : fe M_fo_pairCount 35 .iadd 1 36 := ⟨by decide +kernel, rfl⟩
theorem i_fo_pairCount_36 : fe M_fo_pairCount 36 (.istore_n 2) 1 37 := ⟨by decide +kernel, rfl⟩
theorem i_fo_pairCount_37 : fe M_fo_pairCount 37 (.iinc 3 1) 3 40 := ⟨by decide +kernel, rfl⟩
theorem i_fo_pairCount_40 : fb M_fo_pairCount 40 .goto 4 43 := ⟨-36, by decide +kernel, by decide, rfl⟩
theorem i_fo_pairCount_43 : fe M_fo_pairCount 43 (.iload_n 2) 1 44 := ⟨by decide +kernel, rfl⟩
theorem i_fo_pairCount_44 : fe M_fo_pairCount 44 .ireturn 1 45 := ⟨by decide +kernel, rfl⟩
theorem i_fo_codeAt_0 : fe M_fo_codeAt 0 (.iload_n 2) 1 1 := ⟨by decide +kernel, rfl⟩
theorem i_fo_codeAt_1 : fb M_fo_codeAt 1 (.ifCond .ge) 6 4 := ⟨5, by decide +kernel, by decide, rfl⟩
theorem i_fo_codeAt_4 : fe M_fo_codeAt 4 (.iconst (-1)) 1 5 := ⟨by decide +kernel, rfl⟩
theorem i_fo_codeAt_5 : fe M_fo_codeAt 5 .ireturn 1 6 := ⟨by decide +kernel, rfl⟩
theorem i_fo_codeAt_6 : fe M_fo_codeAt 6 (.iconst 0) 1 7 := ⟨by decide +kernel, rfl⟩
theorem i_fo_codeAt_7 : fe M_fo_codeAt 7 (.istore_n 3) 1 8 := ⟨by decide +kernel, rfl⟩
theorem i_fo_codeAt_8 : fe M_fo_codeAt 8 (.iconst 0) 1 9 := ⟨by decide +kernel, rfl⟩
theorem i_fo_codeAt_9 : fe M_fo_codeAt 9 (.istore 4) 2 11 := ⟨by decide +kernel, rfl⟩
theorem i_fo_codeAt_11 : fe M_fo_codeAt 11 (.iload 4) 2 13 := ⟨by decide +kernel, rfl⟩
theorem i_fo_codeAt_13 : fe M_fo_codeAt 13 (.sipush 144) 3 16 := ⟨by decide +kernel, rfl⟩
theorem i_fo_codeAt_16 : fb M_fo_codeAt 16 (.if_icmp .ge) 46 19 := ⟨30, by decide +kernel, by decide, rfl⟩
theorem i_fo_codeAt_19 : fe M_fo_codeAt 19 (.aload_n 0) 1 20 := ⟨by decide +kernel, rfl⟩
theorem i_fo_codeAt_20 : fe M_fo_codeAt 20 (.iload_n 1) 1 21 := ⟨by decide +kernel, rfl⟩
theorem i_fo_codeAt_21 : fe M_fo_codeAt 21 (.iload 4) 2 23 := ⟨by decide +kernel, rfl⟩
theorem i_fo_codeAt_23 : fe M_fo_codeAt 23 (.invokevirtual 43) 3 26 := ⟨by decide +kernel, rfl⟩
theorem i_fo_codeAt_26 : fb M_fo_codeAt 26 (.ifCond .eq) 40 29 := ⟨14, by decide +kernel, by decide, rfl⟩
theorem i_fo_codeAt_29 : fe M_fo_codeAt 29 (.iload_n 3) 1 30 := ⟨by decide +kernel, rfl⟩
theorem i_fo_codeAt_30 : fe M_fo_codeAt 30 (.iload_n 2) 1 31 := ⟨by decide +kernel, rfl⟩
theorem i_fo_codeAt_31 : fb M_fo_codeAt 31 (.if_icmp .ne) 37 34 := ⟨6, by decide +kernel, by decide, rfl⟩
theorem i_fo_codeAt_34 : fe M_fo_codeAt 34 (.iload 4) 2 36 := ⟨by decide +kernel, rfl⟩
theorem i_fo_codeAt_36 : fe M_fo_codeAt 36 .ireturn 1 37 := ⟨by decide +kernel, rfl⟩
theorem i_fo_codeAt_37 : fe M_fo_codeAt 37 (.iinc 3 1) 3 40 := ⟨by decide +kernel, rfl⟩
theorem i_fo_codeAt_40 : fe M_fo_codeAt 40 (.iinc 4 1) 3 43 := ⟨by decide +kernel, rfl⟩
theorem i_fo_codeAt_43 : fb M_fo_codeAt 43 .goto 11 46 := ⟨-32, by decide +kernel, by decide, rfl⟩
theorem i_fo_codeAt_46 : fe M_fo_codeAt 46 (.iconst (-1)) 1 47 := ⟨by decide +kernel, rfl⟩
theorem i_fo_codeAt_47 : fe M_fo_codeAt 47 .ireturn 1 48 := ⟨by decide +kernel, rfl⟩
theorem i_fo_addJoined_0 : fe M_fo_addJoined 0 (.aload_n 1) 1 1 := ⟨by decide +kernel, rfl⟩
theorem i_fo_addJoined_1 : fe M_fo_addJoined 1 (.getfield 24) 3 4 := ⟨by decide +kernel, rfl⟩
theorem i_fo_addJoined_4 : fe M_fo_addJoined 4 (.iload_n 2) 1 5 := ⟨by decide +kernel, rfl⟩
theorem i_fo_addJoined_5 : fe M_fo_addJoined 5 (.iconst 3) 1 6 := ⟨by decide +kernel, rfl⟩
theorem i_fo_addJoined_6 : fe M_fo_addJoined 6 .imul 1 7 := ⟨by decide +kernel, rfl⟩
theorem i_fo_addJoined_7 : fe M_fo_addJoined 7 .laload 1 8 := ⟨by decide +kernel, rfl⟩
theorem i_fo_addJoined_8 : fe M_fo_addJoined 8 (.aload_n 3) 1 9 := ⟨by decide +kernel, rfl⟩
theorem i_fo_addJoined_9 : fe M_fo_addJoined 9 (.getfield 24) 3 12 := ⟨by decide +kernel, rfl⟩
theorem i_fo_addJoined_12 : fe M_fo_addJoined 12 (.iload 4) 2 14 := ⟨by decide +kernel, rfl⟩
theorem i_fo_addJoined_14 : fe M_fo_addJoined 14 (.iconst 3) 1 15 := ⟨by decide +kernel, rfl⟩
theorem i_fo_addJoined_15 : fe M_fo_addJoined 15 .imul 1 16 := ⟨by decide +kernel, rfl⟩
theorem i_fo_addJoined_16 : fe M_fo_addJoined 16 .laload 1 17 := ⟨by decide +kernel, rfl⟩
theorem i_fo_addJoined_17 : fe M_fo_addJoined 17 .lor 1 18 := ⟨by decide +kernel, rfl⟩
theorem i_fo_addJoined_18 : fe M_fo_addJoined 18 (.lstore 5) 2 20 := ⟨by decide +kernel, rfl⟩
theorem i_fo_addJoined_20 : fe M_fo_addJoined 20 (.aload_n 1) 1 21 := ⟨by decide +kernel, rfl⟩
theorem i_fo_addJoined_21 : fe M_fo_addJoined 21 (.getfield 24) 3 24 := ⟨by decide +kernel, rfl⟩
theorem i_fo_addJoined_24 : fe M_fo_addJoined 24 (.iload_n 2) 1 25 := ⟨by decide +kernel, rfl⟩
theorem i_fo_addJoined_25 : fe M_fo_addJoined 25 (.iconst 3) 1 26 := ⟨by decide +kernel, rfl⟩
theorem i_fo_addJoined_26 : fe M_fo_addJoined 26 .imul 1 27 := ⟨by decide +kernel, rfl⟩
theorem i_fo_addJoined_27 : fe M_fo_addJoined 27 (.iconst 1) 1 28 := ⟨by decide +kernel, rfl⟩
theorem i_fo_addJoined_28 : fe M_fo_addJoined 28 .iadd 1 29 := ⟨by decide +kernel, rfl⟩
theorem i_fo_addJoined_29 : fe M_fo_addJoined 29 .laload 1 30 := ⟨by decide +kernel, rfl⟩
theorem i_fo_addJoined_30 : fe M_fo_addJoined 30 (.aload_n 3) 1 31 := ⟨by decide +kernel, rfl⟩
theorem i_fo_addJoined_31 : fe M_fo_addJoined 31 (.getfield 24) 3 34 := ⟨by decide +kernel, rfl⟩
theorem i_fo_addJoined_34 : fe M_fo_addJoined 34 (.iload 4) 2 36 := ⟨by decide +kernel, rfl⟩
theorem i_fo_addJoined_36 : fe M_fo_addJoined 36 (.iconst 3) 1 37 := ⟨by decide +kernel, rfl⟩
theorem i_fo_addJoined_37 : fe M_fo_addJoined 37 .imul 1 38 := ⟨by decide +kernel, rfl⟩
theorem i_fo_addJoined_38 : fe M_fo_addJoined 38 (.iconst 1) 1 39 := ⟨by decide +kernel, rfl⟩
theorem i_fo_addJoined_39 : fe M_fo_addJoined 39 .iadd 1 40 := ⟨by decide +kernel, rfl⟩
theorem i_fo_addJoined_40 : fe M_fo_addJoined 40 .laload 1 41 := ⟨by decide +kernel, rfl⟩
theorem i_fo_addJoined_41 : fe M_fo_addJoined 41 .lor 1 42 := ⟨by decide +kernel, rfl⟩
theorem i_fo_addJoined_42 : fe M_fo_addJoined 42 (.lstore 7) 2 44 := ⟨by decide +kernel, rfl⟩
theorem i_fo_addJoined_44 : fe M_fo_addJoined 44 (.aload_n 1) 1 45 := ⟨by decide +kernel, rfl⟩
theorem i_fo_addJoined_45 : fe M_fo_addJoined 45 (.getfield 24) 3 48 := ⟨by decide +kernel, rfl⟩
theorem i_fo_addJoined_48 : fe M_fo_addJoined 48 (.iload_n 2) 1 49 := ⟨by decide +kernel, rfl⟩
theorem i_fo_addJoined_49 : fe M_fo_addJoined 49 (.iconst 3) 1 50 := ⟨by decide +kernel, rfl⟩
theorem i_fo_addJoined_50 : fe M_fo_addJoined 50 .imul 1 51 := ⟨by decide +kernel, rfl⟩
theorem i_fo_addJoined_51 : fe M_fo_addJoined 51 (.iconst 2) 1 52 := ⟨by decide +kernel, rfl⟩
theorem i_fo_addJoined_52 : fe M_fo_addJoined 52 .iadd 1 53 := ⟨by decide +kernel, rfl⟩
theorem i_fo_addJoined_53 : fe M_fo_addJoined 53 .laload 1 54 := ⟨by decide +kernel, rfl⟩
theorem i_fo_addJoined_54 : fe M_fo_addJoined 54 (.aload_n 3) 1 55 := ⟨by decide +kernel, rfl⟩
theorem i_fo_addJoined_55 : fe M_fo_addJoined 55 (.getfield 24) 3 58 := ⟨by decide +kernel, rfl⟩
theorem i_fo_addJoined_58 : fe M_fo_addJoined 58 (.iload 4) 2 60 := ⟨by decide +kernel, rfl⟩
theorem i_fo_addJoined_60 : fe M_fo_addJoined 60 (.iconst 3) 1 61 := ⟨by decide +kernel, rfl⟩
theorem i_fo_addJoined_61 : fe M_fo_addJoined 61 .imul 1 62 := ⟨by decide +kernel, rfl⟩
theorem i_fo_addJoined_62 : fe M_fo_addJoined 62 (.iconst 2) 1 63 := ⟨by decide +kernel, rfl⟩
theorem i_fo_addJoined_63 : fe M_fo_addJoined 63 .iadd 1 64 := ⟨by decide +kernel, rfl⟩
theorem i_fo_addJoined_64 : fe M_fo_addJoined 64 .laload 1 65 := ⟨by decide +kernel, rfl⟩
theorem i_fo_addJoined_65 : fe M_fo_addJoined 65 .lor 1 66 := ⟨by decide +kernel, rfl⟩
theorem i_fo_addJoined_66 : fe M_fo_addJoined 66 (.lstore 9) 2 68 := ⟨by decide +kernel, rfl⟩
theorem i_fo_addJoined_68 : fe M_fo_addJoined 68 (.aload_n 0) 1 69 := ⟨by decide +kernel, rfl⟩
theorem i_fo_addJoined_69 : fe M_fo_addJoined 69 (.lload 5) 2 71 := ⟨by decide +kernel, rfl⟩
theorem i_fo_addJoined_71 : fe M_fo_addJoined 71 (.lload 7) 2 73 := ⟨by decide +kernel, rfl⟩
theorem i_fo_addJoined_73 : fe M_fo_addJoined 73 (.lload 9) 2 75 := ⟨by decide +kernel, rfl⟩
theorem i_fo_addJoined_75 : fe M_fo_addJoined 75 (.invokevirtual 47) 3 78 := ⟨by decide +kernel, rfl⟩
theorem i_fo_addJoined_78 : fb M_fo_addJoined 78 (.ifCond .eq) 82 81 := ⟨4, by decide +kernel, by decide, rfl⟩
theorem i_fo_addJoined_81 : fe M_fo_addJoined 81 .return_ 1 82 := ⟨by decide +kernel, rfl⟩
theorem i_fo_addJoined_82 : fe M_fo_addJoined 82 (.aload_n 0) 1 83 := ⟨by decide +kernel, rfl⟩
theorem i_fo_addJoined_83 : fe M_fo_addJoined 83 (.lload 5) 2 85 := ⟨by decide +kernel, rfl⟩
theorem i_fo_addJoined_85 : fe M_fo_addJoined 85 (.lload 7) 2 87 := ⟨by decide +kernel, rfl⟩
theorem i_fo_addJoined_87 : fe M_fo_addJoined 87 (.lload 9) 2 89 := ⟨by decide +kernel, rfl⟩
theorem i_fo_addJoined_89 : fe M_fo_addJoined 89 (.invokevirtual 51) 3 92 := ⟨by decide +kernel, rfl⟩
theorem i_fo_addJoined_92 : fe M_fo_addJoined 92 (.aload_n 0) 1 93 := ⟨by decide +kernel, rfl⟩
theorem i_fo_addJoined_93 : fe M_fo_addJoined 93 (.getfield 9) 3 96 := ⟨by decide +kernel, rfl⟩
theorem i_fo_addJoined_96 : fe M_fo_addJoined 96 (.aload_n 0) 1 97 := ⟨by decide +kernel, rfl⟩
theorem i_fo_addJoined_97 : fe M_fo_addJoined 97 (.getfield 21) 3 100 := ⟨by decide +kernel, rfl⟩
theorem i_fo_addJoined_100 : fb M_fo_addJoined 100 (.if_icmp .ge) 156 103 := ⟨56, by decide +kernel, by decide, rfl⟩
theorem i_fo_addJoined_103 : fe M_fo_addJoined 103 (.aload_n 0) 1 104 := ⟨by decide +kernel, rfl⟩
theorem i_fo_addJoined_104 : fe M_fo_addJoined 104 (.getfield 24) 3 107 := ⟨by decide +kernel, rfl⟩
theorem i_fo_addJoined_107 : fe M_fo_addJoined 107 (.aload_n 0) 1 108 := ⟨by decide +kernel, rfl⟩
theorem i_fo_addJoined_108 : fe M_fo_addJoined 108 (.getfield 9) 3 111 := ⟨by decide +kernel, rfl⟩
theorem i_fo_addJoined_111 : fe M_fo_addJoined 111 (.iconst 3) 1 112 := ⟨by decide +kernel, rfl⟩
theorem i_fo_addJoined_112 : fe M_fo_addJoined 112 .imul 1 113 := ⟨by decide +kernel, rfl⟩
theorem i_fo_addJoined_113 : fe M_fo_addJoined 113 (.lload 5) 2 115 := ⟨by decide +kernel, rfl⟩
theorem i_fo_addJoined_115 : fe M_fo_addJoined 115 .lastore 1 116 := ⟨by decide +kernel, rfl⟩
theorem i_fo_addJoined_116 : fe M_fo_addJoined 116 (.aload_n 0) 1 117 := ⟨by decide +kernel, rfl⟩
theorem i_fo_addJoined_117 : fe M_fo_addJoined 117 (.getfield 24) 3 120 := ⟨by decide +kernel, rfl⟩
theorem i_fo_addJoined_120 : fe M_fo_addJoined 120 (.aload_n 0) 1 121 := ⟨by decide +kernel, rfl⟩
theorem i_fo_addJoined_121 : fe M_fo_addJoined 121 (.getfield 9) 3 124 := ⟨by decide +kernel, rfl⟩
theorem i_fo_addJoined_124 : fe M_fo_addJoined 124 (.iconst 3) 1 125 := ⟨by decide +kernel, rfl⟩
theorem i_fo_addJoined_125 : fe M_fo_addJoined 125 .imul 1 126 := ⟨by decide +kernel, rfl⟩
theorem i_fo_addJoined_126 : fe M_fo_addJoined 126 (.iconst 1) 1 127 := ⟨by decide +kernel, rfl⟩
theorem i_fo_addJoined_127 : fe M_fo_addJoined 127 .iadd 1 128 := ⟨by decide +kernel, rfl⟩
theorem i_fo_addJoined_128 : fe M_fo_addJoined 128 (.lload 7) 2 130 := ⟨by decide +kernel, rfl⟩
theorem i_fo_addJoined_130 : fe M_fo_addJoined 130 .lastore 1 131 := ⟨by decide +kernel, rfl⟩
theorem i_fo_addJoined_131 : fe M_fo_addJoined 131 (.aload_n 0) 1 132 := ⟨by decide +kernel, rfl⟩
theorem i_fo_addJoined_132 : fe M_fo_addJoined 132 (.getfield 24) 3 135 := ⟨by decide +kernel, rfl⟩
theorem i_fo_addJoined_135 : fe M_fo_addJoined 135 (.aload_n 0) 1 136 := ⟨by decide +kernel, rfl⟩
theorem i_fo_addJoined_136 : fe M_fo_addJoined 136 (.getfield 9) 3 139 := ⟨by decide +kernel, rfl⟩
theorem i_fo_addJoined_139 : fe M_fo_addJoined 139 (.iconst 3) 1 140 := ⟨by decide +kernel, rfl⟩
theorem i_fo_addJoined_140 : fe M_fo_addJoined 140 .imul 1 141 := ⟨by decide +kernel, rfl⟩
theorem i_fo_addJoined_141 : fe M_fo_addJoined 141 (.iconst 2) 1 142 := ⟨by decide +kernel, rfl⟩
theorem i_fo_addJoined_142 : fe M_fo_addJoined 142 .iadd 1 143 := ⟨by decide +kernel, rfl⟩
theorem i_fo_addJoined_143 : fe M_fo_addJoined 143 (.lload 9) 2 145 := ⟨by decide +kernel, rfl⟩
theorem i_fo_addJoined_145 : fe M_fo_addJoined 145 .lastore 1 146 := ⟨by decide +kernel, rfl⟩
theorem i_fo_addJoined_146 : fe M_fo_addJoined 146 (.aload_n 0) 1 147 := ⟨by decide +kernel, rfl⟩
theorem i_fo_addJoined_147 : fe M_fo_addJoined 147 .dup 1 148 := ⟨by decide +kernel, rfl⟩
theorem i_fo_addJoined_148 : fe M_fo_addJoined 148 (.getfield 9) 3 151 := ⟨by decide +kernel, rfl⟩
theorem i_fo_addJoined_151 : fe M_fo_addJoined 151 (.iconst 1) 1 152 := ⟨by decide +kernel, rfl⟩
theorem i_fo_addJoined_152 : fe M_fo_addJoined 152 .iadd 1 153 := ⟨by decide +kernel, rfl⟩
theorem i_fo_addJoined_153 : fe M_fo_addJoined 153 (.putfield 9) 3 156 := ⟨by decide +kernel, rfl⟩
theorem i_fo_addJoined_156 : fe M_fo_addJoined 156 .return_ 1 157 := ⟨by decide +kernel, rfl⟩
theorem i_fo_hasOneWithin_0 : fe M_fo_hasOneWithin 0 (.iconst 0) 1 1 := ⟨by decide +kernel, rfl⟩
theorem i_fo_hasOneWithin_1 : fe M_fo_hasOneWithin 1 (.istore 7) 2 3 := ⟨by decide +kernel, rfl⟩
theorem i_fo_hasOneWithin_3 : fe M_fo_hasOneWithin 3 (.iload 7) 2 5 := ⟨by decide +kernel, rfl⟩
theorem i_fo_hasOneWithin_5 : fe M_fo_hasOneWithin 5 (.aload_n 0) 1 6 := ⟨by decide +kernel, rfl⟩
theorem i_fo_hasOneWithin_6 : fe M_fo_hasOneWithin 6 (.getfield 9) 3 9 := ⟨by decide +kernel, rfl⟩
theorem i_fo_hasOneWithin_9 : fb M_fo_hasOneWithin 9 (.if_icmp .ge) 85 12 := ⟨76, by decide +kernel, by decide, rfl⟩
theorem i_fo_hasOneWithin_12 : fe M_fo_hasOneWithin 12 (.aload_n 0) 1 13 := ⟨by decide +kernel, rfl⟩
theorem i_fo_hasOneWithin_13 : fe M_fo_hasOneWithin 13 (.getfield 24) 3 16 := ⟨by decide +kernel, rfl⟩
theorem i_fo_hasOneWithin_16 : fe M_fo_hasOneWithin 16 (.iload 7) 2 18 := ⟨by decide +kernel, rfl⟩
theorem i_fo_hasOneWithin_18 : fe M_fo_hasOneWithin 18 (.iconst 3) 1 19 := ⟨by decide +kernel, rfl⟩
theorem i_fo_hasOneWithin_19 : fe M_fo_hasOneWithin 19 .imul 1 20 := ⟨by decide +kernel, rfl⟩
theorem i_fo_hasOneWithin_20 : fe M_fo_hasOneWithin 20 .laload 1 21 := ⟨by decide +kernel, rfl⟩
theorem i_fo_hasOneWithin_21 : fe M_fo_hasOneWithin 21 (.lload_n 1) 1 22 := ⟨by decide +kernel, rfl⟩
theorem i_fo_hasOneWithin_22 : fe M_fo_hasOneWithin 22 (.ldc2_w 55) 3 25 := ⟨by decide +kernel, rfl⟩
theorem i_fo_hasOneWithin_25 : fe M_fo_hasOneWithin 25 .lxor 1 26 := ⟨by decide +kernel, rfl⟩
theorem i_fo_hasOneWithin_26 : fe M_fo_hasOneWithin 26 .land 1 27 := ⟨by decide +kernel, rfl⟩
theorem i_fo_hasOneWithin_27 : fe M_fo_hasOneWithin 27 (.lconst 0) 1 28 := ⟨by decide +kernel, rfl⟩
theorem i_fo_hasOneWithin_28 : fe M_fo_hasOneWithin 28 .lcmp 1 29 := ⟨by decide +kernel, rfl⟩
theorem i_fo_hasOneWithin_29 : fb M_fo_hasOneWithin 29 (.ifCond .ne) 79 32 := ⟨50, by decide +kernel, by decide, rfl⟩
theorem i_fo_hasOneWithin_32 : fe M_fo_hasOneWithin 32 (.aload_n 0) 1 33 := ⟨by decide +kernel, rfl⟩
theorem i_fo_hasOneWithin_33 : fe M_fo_hasOneWithin 33 (.getfield 24) 3 36 := ⟨by decide +kernel, rfl⟩
theorem i_fo_hasOneWithin_36 : fe M_fo_hasOneWithin 36 (.iload 7) 2 38 := ⟨by decide +kernel, rfl⟩
theorem i_fo_hasOneWithin_38 : fe M_fo_hasOneWithin 38 (.iconst 3) 1 39 := ⟨by decide +kernel, rfl⟩
theorem i_fo_hasOneWithin_39 : fe M_fo_hasOneWithin 39 .imul 1 40 := ⟨by decide +kernel, rfl⟩
theorem i_fo_hasOneWithin_40 : fe M_fo_hasOneWithin 40 (.iconst 1) 1 41 := ⟨by decide +kernel, rfl⟩
theorem i_fo_hasOneWithin_41 : fe M_fo_hasOneWithin 41 .iadd 1 42 := ⟨by decide +kernel, rfl⟩
theorem i_fo_hasOneWithin_42 : fe M_fo_hasOneWithin 42 .laload 1 43 := ⟨by decide +kernel, rfl⟩
theorem i_fo_hasOneWithin_43 : fe M_fo_hasOneWithin 43 (.lload_n 3) 1 44 := ⟨by decide +kernel, rfl⟩
theorem i_fo_hasOneWithin_44 : fe M_fo_hasOneWithin 44 (.ldc2_w 55) 3 47 := ⟨by decide +kernel, rfl⟩
theorem i_fo_hasOneWithin_47 : fe M_fo_hasOneWithin 47 .lxor 1 48 := ⟨by decide +kernel, rfl⟩
theorem i_fo_hasOneWithin_48 : fe M_fo_hasOneWithin 48 .land 1 49 := ⟨by decide +kernel, rfl⟩
theorem i_fo_hasOneWithin_49 : fe M_fo_hasOneWithin 49 (.lconst 0) 1 50 := ⟨by decide +kernel, rfl⟩
theorem i_fo_hasOneWithin_50 : fe M_fo_hasOneWithin 50 .lcmp 1 51 := ⟨by decide +kernel, rfl⟩
theorem i_fo_hasOneWithin_51 : fb M_fo_hasOneWithin 51 (.ifCond .ne) 79 54 := ⟨28, by decide +kernel, by decide, rfl⟩
theorem i_fo_hasOneWithin_54 : fe M_fo_hasOneWithin 54 (.aload_n 0) 1 55 := ⟨by decide +kernel, rfl⟩
theorem i_fo_hasOneWithin_55 : fe M_fo_hasOneWithin 55 (.getfield 24) 3 58 := ⟨by decide +kernel, rfl⟩
theorem i_fo_hasOneWithin_58 : fe M_fo_hasOneWithin 58 (.iload 7) 2 60 := ⟨by decide +kernel, rfl⟩
theorem i_fo_hasOneWithin_60 : fe M_fo_hasOneWithin 60 (.iconst 3) 1 61 := ⟨by decide +kernel, rfl⟩
theorem i_fo_hasOneWithin_61 : fe M_fo_hasOneWithin 61 .imul 1 62 := ⟨by decide +kernel, rfl⟩
theorem i_fo_hasOneWithin_62 : fe M_fo_hasOneWithin 62 (.iconst 2) 1 63 := ⟨by decide +kernel, rfl⟩
theorem i_fo_hasOneWithin_63 : fe M_fo_hasOneWithin 63 .iadd 1 64 := ⟨by decide +kernel, rfl⟩
theorem i_fo_hasOneWithin_64 : fe M_fo_hasOneWithin 64 .laload 1 65 := ⟨by decide +kernel, rfl⟩
theorem i_fo_hasOneWithin_65 : fe M_fo_hasOneWithin 65 (.lload 5) 2 67 := ⟨by decide +kernel, rfl⟩
theorem i_fo_hasOneWithin_67 : fe M_fo_hasOneWithin 67 (.ldc2_w 55) 3 70 := ⟨by decide +kernel, rfl⟩
theorem i_fo_hasOneWithin_70 : fe M_fo_hasOneWithin 70 .lxor 1 71 := ⟨by decide +kernel, rfl⟩
theorem i_fo_hasOneWithin_71 : fe M_fo_hasOneWithin 71 .land 1 72 := ⟨by decide +kernel, rfl⟩
theorem i_fo_hasOneWithin_72 : fe M_fo_hasOneWithin 72 (.lconst 0) 1 73 := ⟨by decide +kernel, rfl⟩
theorem i_fo_hasOneWithin_73 : fe M_fo_hasOneWithin 73 .lcmp 1 74 := ⟨by decide +kernel, rfl⟩
theorem i_fo_hasOneWithin_74 : fb M_fo_hasOneWithin 74 (.ifCond .ne) 79 77 := ⟨5, by decide +kernel, by decide, rfl⟩
theorem i_fo_hasOneWithin_77 : fe M_fo_hasOneWithin 77 (.iconst 1) 1 78 := ⟨by decide +kernel, rfl⟩
theorem i_fo_hasOneWithin_78 : fe M_fo_hasOneWithin 78 .ireturn 1 79 := ⟨by decide +kernel, rfl⟩
theorem i_fo_hasOneWithin_79 : fe M_fo_hasOneWithin 79 (.iinc 7 1) 3 82 := ⟨by decide +kernel, rfl⟩
theorem i_fo_hasOneWithin_82 : fb M_fo_hasOneWithin 82 .goto 3 85 := ⟨-79, by decide +kernel, by decide, rfl⟩
theorem i_fo_hasOneWithin_85 : fe M_fo_hasOneWithin 85 (.iconst 0) 1 86 := ⟨by decide +kernel, rfl⟩
theorem i_fo_hasOneWithin_86 : fe M_fo_hasOneWithin 86 .ireturn 1 87 := ⟨by decide +kernel, rfl⟩
theorem i_fo_dropThoseWith_0 : fe M_fo_dropThoseWith 0 (.iconst 0) 1 1 := ⟨by decide +kernel, rfl⟩
theorem i_fo_dropThoseWith_1 : fe M_fo_dropThoseWith 1 (.istore 7) 2 3 := ⟨by decide +kernel, rfl⟩
theorem i_fo_dropThoseWith_3 : fe M_fo_dropThoseWith 3 (.iconst 0) 1 4 := ⟨by decide +kernel, rfl⟩
theorem i_fo_dropThoseWith_4 : fe M_fo_dropThoseWith 4 (.istore 8) 2 6 := ⟨by decide +kernel, rfl⟩
theorem i_fo_dropThoseWith_6 : fe M_fo_dropThoseWith 6 (.iload 8) 2 8 := ⟨by decide +kernel, rfl⟩
theorem i_fo_dropThoseWith_8 : fe M_fo_dropThoseWith 8 (.aload_n 0) 1 9 := ⟨by decide +kernel, rfl⟩
theorem i_fo_dropThoseWith_9 : fe M_fo_dropThoseWith 9 (.getfield 9) 3 12 := ⟨by decide +kernel, rfl⟩
theorem i_fo_dropThoseWith_12 : fb M_fo_dropThoseWith 12 (.if_icmp .ge) 140 15 := ⟨128, by decide +kernel, by decide, rfl⟩
theorem i_fo_dropThoseWith_15 : fe M_fo_dropThoseWith 15 (.lload_n 1) 1 16 := ⟨by decide +kernel, rfl⟩
theorem i_fo_dropThoseWith_16 : fe M_fo_dropThoseWith 16 (.aload_n 0) 1 17 := ⟨by decide +kernel, rfl⟩
theorem i_fo_dropThoseWith_17 : fe M_fo_dropThoseWith 17 (.getfield 24) 3 20 := ⟨by decide +kernel, rfl⟩
theorem i_fo_dropThoseWith_20 : fe M_fo_dropThoseWith 20 (.iload 8) 2 22 := ⟨by decide +kernel, rfl⟩
theorem i_fo_dropThoseWith_22 : fe M_fo_dropThoseWith 22 (.iconst 3) 1 23 := ⟨by decide +kernel, rfl⟩
theorem i_fo_dropThoseWith_23 : fe M_fo_dropThoseWith 23 .imul 1 24 := ⟨by decide +kernel, rfl⟩
theorem i_fo_dropThoseWith_24 : fe M_fo_dropThoseWith 24 .laload 1 25 := ⟨by decide +kernel, rfl⟩
theorem i_fo_dropThoseWith_25 : fe M_fo_dropThoseWith 25 (.ldc2_w 55) 3 28 := ⟨by decide +kernel, rfl⟩
theorem i_fo_dropThoseWith_28 : fe M_fo_dropThoseWith 28 .lxor 1 29 := ⟨by decide +kernel, rfl⟩
theorem i_fo_dropThoseWith_29 : fe M_fo_dropThoseWith 29 .land 1 30 := ⟨by decide +kernel, rfl⟩
theorem i_fo_dropThoseWith_30 : fe M_fo_dropThoseWith 30 (.lconst 0) 1 31 := ⟨by decide +kernel, rfl⟩
theorem i_fo_dropThoseWith_31 : fe M_fo_dropThoseWith 31 .lcmp 1 32 := ⟨by decide +kernel, rfl⟩
theorem i_fo_dropThoseWith_32 : fb M_fo_dropThoseWith 32 (.ifCond .ne) 84 35 := ⟨52, by decide +kernel, by decide, rfl⟩
theorem i_fo_dropThoseWith_35 : fe M_fo_dropThoseWith 35 (.lload_n 3) 1 36 := ⟨by decide +kernel, rfl⟩
theorem i_fo_dropThoseWith_36 : fe M_fo_dropThoseWith 36 (.aload_n 0) 1 37 := ⟨by decide +kernel, rfl⟩
theorem i_fo_dropThoseWith_37 : fe M_fo_dropThoseWith 37 (.getfield 24) 3 40 := ⟨by decide +kernel, rfl⟩
theorem i_fo_dropThoseWith_40 : fe M_fo_dropThoseWith 40 (.iload 8) 2 42 := ⟨by decide +kernel, rfl⟩
theorem i_fo_dropThoseWith_42 : fe M_fo_dropThoseWith 42 (.iconst 3) 1 43 := ⟨by decide +kernel, rfl⟩
theorem i_fo_dropThoseWith_43 : fe M_fo_dropThoseWith 43 .imul 1 44 := ⟨by decide +kernel, rfl⟩
theorem i_fo_dropThoseWith_44 : fe M_fo_dropThoseWith 44 (.iconst 1) 1 45 := ⟨by decide +kernel, rfl⟩
theorem i_fo_dropThoseWith_45 : fe M_fo_dropThoseWith 45 .iadd 1 46 := ⟨by decide +kernel, rfl⟩
theorem i_fo_dropThoseWith_46 : fe M_fo_dropThoseWith 46 .laload 1 47 := ⟨by decide +kernel, rfl⟩
theorem i_fo_dropThoseWith_47 : fe M_fo_dropThoseWith 47 (.ldc2_w 55) 3 50 := ⟨by decide +kernel, rfl⟩
theorem i_fo_dropThoseWith_50 : fe M_fo_dropThoseWith 50 .lxor 1 51 := ⟨by decide +kernel, rfl⟩
theorem i_fo_dropThoseWith_51 : fe M_fo_dropThoseWith 51 .land 1 52 := ⟨by decide +kernel, rfl⟩
theorem i_fo_dropThoseWith_52 : fe M_fo_dropThoseWith 52 (.lconst 0) 1 53 := ⟨by decide +kernel, rfl⟩
theorem i_fo_dropThoseWith_53 : fe M_fo_dropThoseWith 53 .lcmp 1 54 := ⟨by decide +kernel, rfl⟩
theorem i_fo_dropThoseWith_54 : fb M_fo_dropThoseWith 54 (.ifCond .ne) 84 57 := ⟨30, by decide +kernel, by decide, rfl⟩
theorem i_fo_dropThoseWith_57 : fe M_fo_dropThoseWith 57 (.lload 5) 2 59 := ⟨by decide +kernel, rfl⟩
theorem i_fo_dropThoseWith_59 : fe M_fo_dropThoseWith 59 (.aload_n 0) 1 60 := ⟨by decide +kernel, rfl⟩
theorem i_fo_dropThoseWith_60 : fe M_fo_dropThoseWith 60 (.getfield 24) 3 63 := ⟨by decide +kernel, rfl⟩
theorem i_fo_dropThoseWith_63 : fe M_fo_dropThoseWith 63 (.iload 8) 2 65 := ⟨by decide +kernel, rfl⟩
theorem i_fo_dropThoseWith_65 : fe M_fo_dropThoseWith 65 (.iconst 3) 1 66 := ⟨by decide +kernel, rfl⟩
theorem i_fo_dropThoseWith_66 : fe M_fo_dropThoseWith 66 .imul 1 67 := ⟨by decide +kernel, rfl⟩
theorem i_fo_dropThoseWith_67 : fe M_fo_dropThoseWith 67 (.iconst 2) 1 68 := ⟨by decide +kernel, rfl⟩
theorem i_fo_dropThoseWith_68 : fe M_fo_dropThoseWith 68 .iadd 1 69 := ⟨by decide +kernel, rfl⟩
theorem i_fo_dropThoseWith_69 : fe M_fo_dropThoseWith 69 .laload 1 70 := ⟨by decide +kernel, rfl⟩
theorem i_fo_dropThoseWith_70 : fe M_fo_dropThoseWith 70 (.ldc2_w 55) 3 73 := ⟨by decide +kernel, rfl⟩
theorem i_fo_dropThoseWith_73 : fe M_fo_dropThoseWith 73 .lxor 1 74 := ⟨by decide +kernel, rfl⟩
theorem i_fo_dropThoseWith_74 : fe M_fo_dropThoseWith 74 .land 1 75 := ⟨by decide +kernel, rfl⟩
theorem i_fo_dropThoseWith_75 : fe M_fo_dropThoseWith 75 (.lconst 0) 1 76 := ⟨by decide +kernel, rfl⟩
theorem i_fo_dropThoseWith_76 : fe M_fo_dropThoseWith 76 .lcmp 1 77 := ⟨by decide +kernel, rfl⟩
theorem i_fo_dropThoseWith_77 : fb M_fo_dropThoseWith 77 (.ifCond .ne) 84 80 := ⟨7, by decide +kernel, by decide, rfl⟩
theorem i_fo_dropThoseWith_80 : fe M_fo_dropThoseWith 80 (.iconst 1) 1 81 := ⟨by decide +kernel, rfl⟩
theorem i_fo_dropThoseWith_81 : fb M_fo_dropThoseWith 81 .goto 85 84 := ⟨4, by decide +kernel, by decide, rfl⟩
theorem i_fo_dropThoseWith_84 : fe M_fo_dropThoseWith 84 (.iconst 0) 1 85 := ⟨by decide +kernel, rfl⟩
theorem i_fo_dropThoseWith_85 : fe M_fo_dropThoseWith 85 (.istore 9) 2 87 := ⟨by decide +kernel, rfl⟩
theorem i_fo_dropThoseWith_87 : fe M_fo_dropThoseWith 87 (.iload 9) 2 89 := ⟨by decide +kernel, rfl⟩
theorem i_fo_dropThoseWith_89 : fb M_fo_dropThoseWith 89 (.ifCond .ne) 134 92 := ⟨45, by decide +kernel, by decide, rfl⟩
theorem i_fo_dropThoseWith_92 : fe M_fo_dropThoseWith 92 (.iconst 0) 1 93 := ⟨by decide +kernel, rfl⟩
theorem i_fo_dropThoseWith_93 : fe M_fo_dropThoseWith 93 (.istore 10) 2 95 := ⟨by decide +kernel, rfl⟩
theorem i_fo_dropThoseWith_95 : fe M_fo_dropThoseWith 95 (.iload 10) 2 97 := ⟨by decide +kernel, rfl⟩
theorem i_fo_dropThoseWith_97 : fe M_fo_dropThoseWith 97 (.iconst 3) 1 98 := ⟨by decide +kernel, rfl⟩
theorem i_fo_dropThoseWith_98 : fb M_fo_dropThoseWith 98 (.if_icmp .ge) 131 101 := ⟨33, by decide +kernel, by decide, rfl⟩
theorem i_fo_dropThoseWith_101 : fe M_fo_dropThoseWith 101 (.aload_n 0) 1 102 := ⟨by decide +kernel, rfl⟩
theorem i_fo_dropThoseWith_102 : fe M_fo_dropThoseWith 102 (.getfield 24) 3 105 := ⟨by decide +kernel, rfl⟩
theorem i_fo_dropThoseWith_105 : fe M_fo_dropThoseWith 105 (.iload 7) 2 107 := ⟨by decide +kernel, rfl⟩
theorem i_fo_dropThoseWith_107 : fe M_fo_dropThoseWith 107 (.iconst 3) 1 108 := ⟨by decide +kernel, rfl⟩
theorem i_fo_dropThoseWith_108 : fe M_fo_dropThoseWith 108 .imul 1 109 := ⟨by decide +kernel, rfl⟩
theorem i_fo_dropThoseWith_109 : fe M_fo_dropThoseWith 109 (.iload 10) 2 111 := ⟨by decide +kernel, rfl⟩
theorem i_fo_dropThoseWith_111 : fe M_fo_dropThoseWith 111 .iadd 1 112 := ⟨by decide +kernel, rfl⟩
theorem i_fo_dropThoseWith_112 : fe M_fo_dropThoseWith 112 (.aload_n 0) 1 113 := ⟨by decide +kernel, rfl⟩
theorem i_fo_dropThoseWith_113 : fe M_fo_dropThoseWith 113 (.getfield 24) 3 116 := ⟨by decide +kernel, rfl⟩
theorem i_fo_dropThoseWith_116 : fe M_fo_dropThoseWith 116 (.iload 8) 2 118 := ⟨by decide +kernel, rfl⟩
theorem i_fo_dropThoseWith_118 : fe M_fo_dropThoseWith 118 (.iconst 3) 1 119 := ⟨by decide +kernel, rfl⟩
theorem i_fo_dropThoseWith_119 : fe M_fo_dropThoseWith 119 .imul 1 120 := ⟨by decide +kernel, rfl⟩
theorem i_fo_dropThoseWith_120 : fe M_fo_dropThoseWith 120 (.iload 10) 2 122 := ⟨by decide +kernel, rfl⟩
theorem i_fo_dropThoseWith_122 : fe M_fo_dropThoseWith 122 .iadd 1 123 := ⟨by decide +kernel, rfl⟩
theorem i_fo_dropThoseWith_123 : fe M_fo_dropThoseWith 123 .laload 1 124 := ⟨by decide +kernel, rfl⟩
theorem i_fo_dropThoseWith_124 : fe M_fo_dropThoseWith 124 .lastore 1 125 := ⟨by decide +kernel, rfl⟩
theorem i_fo_dropThoseWith_125 : fe M_fo_dropThoseWith 125 (.iinc 10 1) 3 128 := ⟨by decide +kernel, rfl⟩
theorem i_fo_dropThoseWith_128 : fb M_fo_dropThoseWith 128 .goto 95 131 := ⟨-33, by decide +kernel, by decide, rfl⟩
theorem i_fo_dropThoseWith_131 : fe M_fo_dropThoseWith 131 (.iinc 7 1) 3 134 := ⟨by decide +kernel, rfl⟩
theorem i_fo_dropThoseWith_134 : fe M_fo_dropThoseWith 134 (.iinc 8 1) 3 137 := ⟨by decide +kernel, rfl⟩
theorem i_fo_dropThoseWith_137 : fb M_fo_dropThoseWith 137 .goto 6 140 := ⟨-131, by decide +kernel, by decide, rfl⟩
theorem i_fo_dropThoseWith_140 : fe M_fo_dropThoseWith 140 (.aload_n 0) 1 141 := ⟨by decide +kernel, rfl⟩
theorem i_fo_dropThoseWith_141 : fe M_fo_dropThoseWith 141 (.iload 7) 2 143 := ⟨by decide +kernel, rfl⟩
theorem i_fo_dropThoseWith_143 : fe M_fo_dropThoseWith 143 (.putfield 9) 3 146 := ⟨by decide +kernel, rfl⟩
theorem i_fo_dropThoseWith_146 : fe M_fo_dropThoseWith 146 .return_ 1 147 := ⟨by decide +kernel, rfl⟩
theorem i_jin_bitCount_0 : fe M_jin_bitCount 0 (.iload_n 0) 1 1 := ⟨by decide +kernel, rfl⟩
theorem i_jin_bitCount_1 : fe M_jin_bitCount 1 (.iload_n 0) 1 2 := ⟨by decide +kernel, rfl⟩
theorem i_jin_bitCount_2 : fe M_jin_bitCount 2 (.iconst 1) 1 3 := ⟨by decide +kernel, rfl⟩
theorem i_jin_bitCount_3 : fe M_jin_bitCount 3 .iushr 1 4 := ⟨by decide +kernel, rfl⟩
theorem i_jin_bitCount_4 : fe M_jin_bitCount 4 (.ldc_w 265) 3 7 := ⟨by decide +kernel, rfl⟩
theorem i_jin_bitCount_7 : fe M_jin_bitCount 7 .iand 1 8 := ⟨by decide +kernel, rfl⟩
theorem i_jin_bitCount_8 : fe M_jin_bitCount 8 .isub 1 9 := ⟨by decide +kernel, rfl⟩
theorem i_jin_bitCount_9 : fe M_jin_bitCount 9 (.istore_n 0) 1 10 := ⟨by decide +kernel, rfl⟩
theorem i_jin_bitCount_10 : fe M_jin_bitCount 10 (.iload_n 0) 1 11 := ⟨by decide +kernel, rfl⟩
theorem i_jin_bitCount_11 : fe M_jin_bitCount 11 (.ldc_w 266) 3 14 := ⟨by decide +kernel, rfl⟩
theorem i_jin_bitCount_14 : fe M_jin_bitCount 14 .iand 1 15 := ⟨by decide +kernel, rfl⟩
theorem i_jin_bitCount_15 : fe M_jin_bitCount 15 (.iload_n 0) 1 16 := ⟨by decide +kernel, rfl⟩
theorem i_jin_bitCount_16 : fe M_jin_bitCount 16 (.iconst 2) 1 17 := ⟨by decide +kernel, rfl⟩
theorem i_jin_bitCount_17 : fe M_jin_bitCount 17 .iushr 1 18 := ⟨by decide +kernel, rfl⟩
theorem i_jin_bitCount_18 : fe M_jin_bitCount 18 (.ldc_w 266) 3 21 := ⟨by decide +kernel, rfl⟩
theorem i_jin_bitCount_21 : fe M_jin_bitCount 21 .iand 1 22 := ⟨by decide +kernel, rfl⟩
theorem i_jin_bitCount_22 : fe M_jin_bitCount 22 .iadd 1 23 := ⟨by decide +kernel, rfl⟩
theorem i_jin_bitCount_23 : fe M_jin_bitCount 23 (.istore_n 0) 1 24 := ⟨by decide +kernel, rfl⟩
theorem i_jin_bitCount_24 : fe M_jin_bitCount 24 (.iload_n 0) 1 25 := ⟨by decide +kernel, rfl⟩
theorem i_jin_bitCount_25 : fe M_jin_bitCount 25 (.iload_n 0) 1 26 := ⟨by decide +kernel, rfl⟩
theorem i_jin_bitCount_26 : fe M_jin_bitCount 26 (.iconst 4) 1 27 := ⟨by decide +kernel, rfl⟩
theorem i_jin_bitCount_27 : fe M_jin_bitCount 27 .iushr 1 28 := ⟨by decide +kernel, rfl⟩
theorem i_jin_bitCount_28 : fe M_jin_bitCount 28 .iadd 1 29 := ⟨by decide +kernel, rfl⟩
theorem i_jin_bitCount_29 : fe M_jin_bitCount 29 (.ldc_w 267) 3 32 := ⟨by decide +kernel, rfl⟩
theorem i_jin_bitCount_32 : fe M_jin_bitCount 32 .iand 1 33 := ⟨by decide +kernel, rfl⟩
theorem i_jin_bitCount_33 : fe M_jin_bitCount 33 (.istore_n 0) 1 34 := ⟨by decide +kernel, rfl⟩
theorem i_jin_bitCount_34 : fe M_jin_bitCount 34 (.iload_n 0) 1 35 := ⟨by decide +kernel, rfl⟩
theorem i_jin_bitCount_35 : fe M_jin_bitCount 35 (.iload_n 0) 1 36 := ⟨by decide +kernel, rfl⟩
theorem i_jin_bitCount_36 : fe M_jin_bitCount 36 (.bipush 8) 2 38 := ⟨by decide +kernel, rfl⟩
theorem i_jin_bitCount_38 : fe M_jin_bitCount 38 .iushr 1 39 := ⟨by decide +kernel, rfl⟩
theorem i_jin_bitCount_39 : fe M_jin_bitCount 39 .iadd 1 40 := ⟨by decide +kernel, rfl⟩
theorem i_jin_bitCount_40 : fe M_jin_bitCount 40 (.istore_n 0) 1 41 := ⟨by decide +kernel, rfl⟩
theorem i_jin_bitCount_41 : fe M_jin_bitCount 41 (.iload_n 0) 1 42 := ⟨by decide +kernel, rfl⟩
theorem i_jin_bitCount_42 : fe M_jin_bitCount 42 (.iload_n 0) 1 43 := ⟨by decide +kernel, rfl⟩
theorem i_jin_bitCount_43 : fe M_jin_bitCount 43 (.bipush 16) 2 45 := ⟨by decide +kernel, rfl⟩
theorem i_jin_bitCount_45 : fe M_jin_bitCount 45 .iushr 1 46 := ⟨by decide +kernel, rfl⟩
theorem i_jin_bitCount_46 : fe M_jin_bitCount 46 .iadd 1 47 := ⟨by decide +kernel, rfl⟩
theorem i_jin_bitCount_47 : fe M_jin_bitCount 47 (.istore_n 0) 1 48 := ⟨by decide +kernel, rfl⟩
theorem i_jin_bitCount_48 : fe M_jin_bitCount 48 (.iload_n 0) 1 49 := ⟨by decide +kernel, rfl⟩
theorem i_jin_bitCount_49 : fe M_jin_bitCount 49 (.bipush 63) 2 51 := ⟨by decide +kernel, rfl⟩
theorem i_jin_bitCount_51 : fe M_jin_bitCount 51 .iand 1 52 := ⟨by decide +kernel, rfl⟩
theorem i_jin_bitCount_52 : fe M_jin_bitCount 52 .ireturn 1 53 := ⟨by decide +kernel, rfl⟩
theorem i_jlo_bitCount_0 : fe M_jlo_bitCount 0 (.lload_n 0) 1 1 := ⟨by decide +kernel, rfl⟩
theorem i_jlo_bitCount_1 : fe M_jlo_bitCount 1 (.lload_n 0) 1 2 := ⟨by decide +kernel, rfl⟩
theorem i_jlo_bitCount_2 : fe M_jlo_bitCount 2 (.iconst 1) 1 3 := ⟨by decide +kernel, rfl⟩
theorem i_jlo_bitCount_3 : fe M_jlo_bitCount 3 .lushr 1 4 := ⟨by decide +kernel, rfl⟩
theorem i_jlo_bitCount_4 : fe M_jlo_bitCount 4 (.ldc2_w 314) 3 7 := ⟨by decide +kernel, rfl⟩
theorem i_jlo_bitCount_7 : fe M_jlo_bitCount 7 .land 1 8 := ⟨by decide +kernel, rfl⟩
theorem i_jlo_bitCount_8 : fe M_jlo_bitCount 8 .lsub 1 9 := ⟨by decide +kernel, rfl⟩
theorem i_jlo_bitCount_9 : fe M_jlo_bitCount 9 (.lstore_n 0) 1 10 := ⟨by decide +kernel, rfl⟩
theorem i_jlo_bitCount_10 : fe M_jlo_bitCount 10 (.lload_n 0) 1 11 := ⟨by decide +kernel, rfl⟩
theorem i_jlo_bitCount_11 : fe M_jlo_bitCount 11 (.ldc2_w 316) 3 14 := ⟨by decide +kernel, rfl⟩
theorem i_jlo_bitCount_14 : fe M_jlo_bitCount 14 .land 1 15 := ⟨by decide +kernel, rfl⟩
theorem i_jlo_bitCount_15 : fe M_jlo_bitCount 15 (.lload_n 0) 1 16 := ⟨by decide +kernel, rfl⟩
theorem i_jlo_bitCount_16 : fe M_jlo_bitCount 16 (.iconst 2) 1 17 := ⟨by decide +kernel, rfl⟩
theorem i_jlo_bitCount_17 : fe M_jlo_bitCount 17 .lushr 1 18 := ⟨by decide +kernel, rfl⟩
theorem i_jlo_bitCount_18 : fe M_jlo_bitCount 18 (.ldc2_w 316) 3 21 := ⟨by decide +kernel, rfl⟩
theorem i_jlo_bitCount_21 : fe M_jlo_bitCount 21 .land 1 22 := ⟨by decide +kernel, rfl⟩
theorem i_jlo_bitCount_22 : fe M_jlo_bitCount 22 .ladd 1 23 := ⟨by decide +kernel, rfl⟩
theorem i_jlo_bitCount_23 : fe M_jlo_bitCount 23 (.lstore_n 0) 1 24 := ⟨by decide +kernel, rfl⟩
theorem i_jlo_bitCount_24 : fe M_jlo_bitCount 24 (.lload_n 0) 1 25 := ⟨by decide +kernel, rfl⟩
theorem i_jlo_bitCount_25 : fe M_jlo_bitCount 25 (.lload_n 0) 1 26 := ⟨by decide +kernel, rfl⟩
theorem i_jlo_bitCount_26 : fe M_jlo_bitCount 26 (.iconst 4) 1 27 := ⟨by decide +kernel, rfl⟩
theorem i_jlo_bitCount_27 : fe M_jlo_bitCount 27 .lushr 1 28 := ⟨by decide +kernel, rfl⟩
theorem i_jlo_bitCount_28 : fe M_jlo_bitCount 28 .ladd 1 29 := ⟨by decide +kernel, rfl⟩
theorem i_jlo_bitCount_29 : fe M_jlo_bitCount 29 (.ldc2_w 318) 3 32 := ⟨by decide +kernel, rfl⟩
theorem i_jlo_bitCount_32 : fe M_jlo_bitCount 32 .land 1 33 := ⟨by decide +kernel, rfl⟩
theorem i_jlo_bitCount_33 : fe M_jlo_bitCount 33 (.lstore_n 0) 1 34 := ⟨by decide +kernel, rfl⟩
theorem i_jlo_bitCount_34 : fe M_jlo_bitCount 34 (.lload_n 0) 1 35 := ⟨by decide +kernel, rfl⟩
theorem i_jlo_bitCount_35 : fe M_jlo_bitCount 35 (.lload_n 0) 1 36 := ⟨by decide +kernel, rfl⟩
theorem i_jlo_bitCount_36 : fe M_jlo_bitCount 36 (.bipush 8) 2 38 := ⟨by decide +kernel, rfl⟩
theorem i_jlo_bitCount_38 : fe M_jlo_bitCount 38 .lushr 1 39 := ⟨by decide +kernel, rfl⟩
theorem i_jlo_bitCount_39 : fe M_jlo_bitCount 39 .ladd 1 40 := ⟨by decide +kernel, rfl⟩
theorem i_jlo_bitCount_40 : fe M_jlo_bitCount 40 (.lstore_n 0) 1 41 := ⟨by decide +kernel, rfl⟩
theorem i_jlo_bitCount_41 : fe M_jlo_bitCount 41 (.lload_n 0) 1 42 := ⟨by decide +kernel, rfl⟩
theorem i_jlo_bitCount_42 : fe M_jlo_bitCount 42 (.lload_n 0) 1 43 := ⟨by decide +kernel, rfl⟩
theorem i_jlo_bitCount_43 : fe M_jlo_bitCount 43 (.bipush 16) 2 45 := ⟨by decide +kernel, rfl⟩
theorem i_jlo_bitCount_45 : fe M_jlo_bitCount 45 .lushr 1 46 := ⟨by decide +kernel, rfl⟩
theorem i_jlo_bitCount_46 : fe M_jlo_bitCount 46 .ladd 1 47 := ⟨by decide +kernel, rfl⟩
theorem i_jlo_bitCount_47 : fe M_jlo_bitCount 47 (.lstore_n 0) 1 48 := ⟨by decide +kernel, rfl⟩
theorem i_jlo_bitCount_48 : fe M_jlo_bitCount 48 (.lload_n 0) 1 49 := ⟨by decide +kernel, rfl⟩
theorem i_jlo_bitCount_49 : fe M_jlo_bitCount 49 (.lload_n 0) 1 50 := ⟨by decide +kernel, rfl⟩
theorem i_jlo_bitCount_50 : fe M_jlo_bitCount 50 (.bipush 32) 2 52 := ⟨by decide +kernel, rfl⟩
theorem i_jlo_bitCount_52 : fe M_jlo_bitCount 52 .lushr 1 53 := ⟨by decide +kernel, rfl⟩
theorem i_jlo_bitCount_53 : fe M_jlo_bitCount 53 .ladd 1 54 := ⟨by decide +kernel, rfl⟩
theorem i_jlo_bitCount_54 : fe M_jlo_bitCount 54 (.lstore_n 0) 1 55 := ⟨by decide +kernel, rfl⟩
theorem i_jlo_bitCount_55 : fe M_jlo_bitCount 55 (.lload_n 0) 1 56 := ⟨by decide +kernel, rfl⟩
theorem i_jlo_bitCount_56 : fe M_jlo_bitCount 56 .l2i 1 57 := ⟨by decide +kernel, rfl⟩
theorem i_jlo_bitCount_57 : fe M_jlo_bitCount 57 (.bipush 127) 2 59 := ⟨by decide +kernel, rfl⟩
theorem i_jlo_bitCount_59 : fe M_jlo_bitCount 59 .iand 1 60 := ⟨by decide +kernel, rfl⟩
theorem i_jlo_bitCount_60 : fe M_jlo_bitCount 60 .ireturn 1 61 := ⟨by decide +kernel, rfl⟩
theorem i_jma_max_0 : fe M_jma_max 0 (.iload_n 0) 1 1 := ⟨by decide +kernel, rfl⟩
theorem i_jma_max_1 : fe M_jma_max 1 (.iload_n 1) 1 2 := ⟨by decide +kernel, rfl⟩
theorem i_jma_max_2 : fb M_jma_max 2 (.if_icmp .lt) 9 5 := ⟨7, by decide +kernel, by decide, rfl⟩
theorem i_jma_max_5 : fe M_jma_max 5 (.iload_n 0) 1 6 := ⟨by decide +kernel, rfl⟩
theorem i_jma_max_6 : fb M_jma_max 6 .goto 10 9 := ⟨4, by decide +kernel, by decide, rfl⟩
theorem i_jma_max_9 : fe M_jma_max 9 (.iload_n 1) 1 10 := ⟨by decide +kernel, rfl⟩
theorem i_jma_max_10 : fe M_jma_max 10 .ireturn 1 11 := ⟨by decide +kernel, rfl⟩
theorem i_jma_min_0 : fe M_jma_min 0 (.iload_n 0) 1 1 := ⟨by decide +kernel, rfl⟩
theorem i_jma_min_1 : fe M_jma_min 1 (.iload_n 1) 1 2 := ⟨by decide +kernel, rfl⟩
theorem i_jma_min_2 : fb M_jma_min 2 (.if_icmp .gt) 9 5 := ⟨7, by decide +kernel, by decide, rfl⟩
theorem i_jma_min_5 : fe M_jma_min 5 (.iload_n 0) 1 6 := ⟨by decide +kernel, rfl⟩
theorem i_jma_min_6 : fb M_jma_min 6 .goto 10 9 := ⟨4, by decide +kernel, by decide, rfl⟩
theorem i_jma_min_9 : fe M_jma_min 9 (.iload_n 1) 1 10 := ⟨by decide +kernel, rfl⟩
theorem i_jma_min_10 : fe M_jma_min 10 .ireturn 1 11 := ⟨by decide +kernel, rfl⟩
end
section
theorem i_pk_init_0 : fe M_pk_init 0 (.aload_n 0) 1 1 := ⟨by decide +kernel, rfl⟩
theorem i_pk_init_1 : fe M_pk_init 1 (.invokespecial 3) 3 4 := ⟨by decide +kernel, rfl⟩
theorem i_pk_init_4 : fe M_pk_init 4 (.aload_n 0) 1 5 := ⟨by decide +kernel, rfl⟩
theorem i_pk_init_5 : fe M_pk_init 5 (.new 9) 3 8 := ⟨by decide +kernel, rfl⟩
theorem i_pk_init_8 : fe M_pk_init 8 .dup 1 9 := ⟨by decide +kernel, rfl⟩
theorem i_pk_init_9 : fe M_pk_init 9 (.bipush 20) 2 11 := ⟨by decide +kernel, rfl⟩
theorem i_pk_init_11 : fe M_pk_init 11 (.invokespecial 11) 3 14 := ⟨by decide +kernel, rfl⟩
theorem i_pk_init_14 : fe M_pk_init 14 (.putfield 14) 3 17 := ⟨by decide +kernel, rfl⟩
theorem i_pk_init_17 : fe M_pk_init 17 (.aload_n 0) 1 18 := ⟨by decide +kernel, rfl⟩
theorem i_pk_init_18 : fe M_pk_init 18 (.bipush 6) 2 20 := ⟨by decide +kernel, rfl⟩
theorem i_pk_init_20 : fe M_pk_init 20 (.newarray .int) 2 22 := ⟨by decide +kernel, rfl⟩
theorem i_pk_init_22 : fe M_pk_init 22 (.putfield 20) 3 25 := ⟨by decide +kernel, rfl⟩
theorem i_pk_init_25 : fe M_pk_init 25 (.aload_n 0) 1 26 := ⟨by decide +kernel, rfl⟩
theorem i_pk_init_26 : fe M_pk_init 26 (.bipush 6) 2 28 := ⟨by decide +kernel, rfl⟩
theorem i_pk_init_28 : fe M_pk_init 28 (.newarray .int) 2 30 := ⟨by decide +kernel, rfl⟩
theorem i_pk_init_30 : fe M_pk_init 30 (.putfield 24) 3 33 := ⟨by decide +kernel, rfl⟩
theorem i_pk_init_33 : fe M_pk_init 33 (.aload_n 0) 1 34 := ⟨by decide +kernel, rfl⟩
theorem i_pk_init_34 : fe M_pk_init 34 (.iconst 0) 1 35 := ⟨by decide +kernel, rfl⟩
theorem i_pk_init_35 : fe M_pk_init 35 (.putfield 27) 3 38 := ⟨by decide +kernel, rfl⟩
theorem i_pk_init_38 : fe M_pk_init 38 (.aload_n 0) 1 39 := ⟨by decide +kernel, rfl⟩
theorem i_pk_init_39 : fe M_pk_init 39 (.iconst (-1)) 1 40 := ⟨by decide +kernel, rfl⟩
theorem i_pk_init_40 : fe M_pk_init 40 (.putfield 31) 3 43 := ⟨by decide +kernel, rfl⟩
theorem i_pk_init_43 : fe M_pk_init 43 .return_ 1 44 := ⟨by decide +kernel, rfl⟩
theorem i_pk_addUse_0 : fe M_pk_addUse 0 (.aload_n 0) 1 1 := ⟨by decide +kernel, rfl⟩
theorem i_pk_addUse_1 : fe M_pk_addUse 1 (.getfield 27) 3 4 := ⟨by decide +kernel, rfl⟩
theorem i_pk_addUse_4 : fe M_pk_addUse 4 (.bipush 6) 2 6 := ⟨by decide +kernel, rfl⟩
theorem i_pk_addUse_6 : fb M_pk_addUse 6 (.if_icmp .lt) 11 9 := ⟨5, by decide +kernel, by decide, rfl⟩
theorem i_pk_addUse_9 : fe M_pk_addUse 9 (.iconst 0) 1 10 := ⟨by decide +kernel, rfl⟩
theorem i_pk_addUse_10 : fe M_pk_addUse 10 .ireturn 1 11 := ⟨by decide +kernel, rfl⟩
theorem i_pk_addUse_11 : fe M_pk_addUse 11 (.iconst 0) 1 12 := ⟨by decide +kernel, rfl⟩
theorem i_pk_addUse_12 : fe M_pk_addUse 12 (.istore_n 3) 1 13 := ⟨by decide +kernel, rfl⟩
theorem i_pk_addUse_13 : fe M_pk_addUse 13 (.iload_n 3) 1 14 := ⟨by decide +kernel, rfl⟩
theorem i_pk_addUse_14 : fe M_pk_addUse 14 (.aload_n 0) 1 15 := ⟨by decide +kernel, rfl⟩
theorem i_pk_addUse_15 : fe M_pk_addUse 15 (.getfield 27) 3 18 := ⟨by decide +kernel, rfl⟩
theorem i_pk_addUse_18 : fb M_pk_addUse 18 (.if_icmp .ge) 49 21 := ⟨31, by decide +kernel, by decide, rfl⟩
theorem i_pk_addUse_21 : fe M_pk_addUse 21 (.aload_n 0) 1 22 := ⟨by decide +kernel, rfl⟩
theorem i_pk_addUse_22 : fe M_pk_addUse 22 (.getfield 20) 3 25 := ⟨by decide +kernel, rfl⟩
theorem i_pk_addUse_25 : fe M_pk_addUse 25 (.iload_n 3) 1 26 := ⟨by decide +kernel, rfl⟩
theorem i_pk_addUse_26 : fe M_pk_addUse 26 .iaload 1 27 := ⟨by decide +kernel, rfl⟩
theorem i_pk_addUse_27 : fe M_pk_addUse 27 (.iload_n 1) 1 28 := ⟨by decide +kernel, rfl⟩
theorem i_pk_addUse_28 : fb M_pk_addUse 28 (.if_icmp .ne) 43 31 := ⟨15, by decide +kernel, by decide, rfl⟩
theorem i_pk_addUse_31 : fe M_pk_addUse 31 (.aload_n 0) 1 32 := ⟨by decide +kernel, rfl⟩
theorem i_pk_addUse_32 : fe M_pk_addUse 32 (.getfield 24) 3 35 := ⟨by decide +kernel, rfl⟩
theorem i_pk_addUse_35 : fe M_pk_addUse 35 (.iload_n 3) 1 36 := ⟨by decide +kernel, rfl⟩
theorem i_pk_addUse_36 : fe M_pk_addUse 36 .iaload 1 37 := ⟨by decide +kernel, rfl⟩
theorem i_pk_addUse_37 : fe M_pk_addUse 37 (.iload_n 2) 1 38 := ⟨by decide +kernel, rfl⟩
theorem i_pk_addUse_38 : fb M_pk_addUse 38 (.if_icmp .ne) 43 41 := ⟨5, by decide +kernel, by decide, rfl⟩
theorem i_pk_addUse_41 : fe M_pk_addUse 41 (.iconst 0) 1 42 := ⟨by decide +kernel, rfl⟩
theorem i_pk_addUse_42 : fe M_pk_addUse 42 .ireturn 1 43 := ⟨by decide +kernel, rfl⟩
theorem i_pk_addUse_43 : fe M_pk_addUse 43 (.iinc 3 1) 3 46 := ⟨by decide +kernel, rfl⟩
theorem i_pk_addUse_46 : fb M_pk_addUse 46 .goto 13 49 := ⟨-33, by decide +kernel, by decide, rfl⟩
theorem i_pk_addUse_49 : fe M_pk_addUse 49 (.aload_n 0) 1 50 := ⟨by decide +kernel, rfl⟩
theorem i_pk_addUse_50 : fe M_pk_addUse 50 (.getfield 20) 3 53 := ⟨by decide +kernel, rfl⟩
theorem i_pk_addUse_53 : fe M_pk_addUse 53 (.aload_n 0) 1 54 := ⟨by decide +kernel, rfl⟩
theorem i_pk_addUse_54 : fe M_pk_addUse 54 (.getfield 27) 3 57 := ⟨by decide +kernel, rfl⟩
theorem i_pk_addUse_57 : fe M_pk_addUse 57 (.iload_n 1) 1 58 := ⟨by decide +kernel, rfl⟩
theorem i_pk_addUse_58 : fe M_pk_addUse 58 .iastore 1 59 := ⟨by decide +kernel, rfl⟩
theorem i_pk_addUse_59 : fe M_pk_addUse 59 (.aload_n 0) 1 60 := ⟨by decide +kernel, rfl⟩
theorem i_pk_addUse_60 : fe M_pk_addUse 60 (.getfield 24) 3 63 := ⟨by decide +kernel, rfl⟩
theorem i_pk_addUse_63 : fe M_pk_addUse 63 (.aload_n 0) 1 64 := ⟨by decide +kernel, rfl⟩
theorem i_pk_addUse_64 : fe M_pk_addUse 64 (.getfield 27) 3 67 := ⟨by decide +kernel, rfl⟩
theorem i_pk_addUse_67 : fe M_pk_addUse 67 (.iload_n 2) 1 68 := ⟨by decide +kernel, rfl⟩
theorem i_pk_addUse_68 : fe M_pk_addUse 68 .iastore 1 69 := ⟨by decide +kernel, rfl⟩
theorem i_pk_addUse_69 : fe M_pk_addUse 69 (.aload_n 0) 1 70 := ⟨by decide +kernel, rfl⟩
theorem i_pk_addUse_70 : fe M_pk_addUse 70 .dup 1 71 := ⟨by decide +kernel, rfl⟩
theorem i_pk_addUse_71 : fe M_pk_addUse 71 (.getfield 27) 3 74 := ⟨by decide +kernel, rfl⟩
theorem i_pk_addUse_74 : fe M_pk_addUse 74 (.iconst 1) 1 75 := ⟨by decide +kernel, rfl⟩
theorem i_pk_addUse_75 : fe M_pk_addUse 75 .iadd 1 76 := ⟨by decide +kernel, rfl⟩
theorem i_pk_addUse_76 : fe M_pk_addUse 76 (.putfield 27) 3 79 := ⟨by decide +kernel, rfl⟩
theorem i_pk_addUse_79 : fe M_pk_addUse 79 (.iconst 1) 1 80 := ⟨by decide +kernel, rfl⟩
theorem i_pk_addUse_80 : fe M_pk_addUse 80 .ireturn 1 81 := ⟨by decide +kernel, rfl⟩
theorem i_rd_init_0 : fe M_rd_init 0 (.aload_n 0) 1 1 := ⟨by decide +kernel, rfl⟩
theorem i_rd_init_1 : fe M_rd_init 1 (.invokespecial 3) 3 4 := ⟨by decide +kernel, rfl⟩
theorem i_rd_init_4 : fe M_rd_init 4 (.aload_n 0) 1 5 := ⟨by decide +kernel, rfl⟩
theorem i_rd_init_5 : fe M_rd_init 5 (.bipush 60) 2 7 := ⟨by decide +kernel, rfl⟩
theorem i_rd_init_7 : fe M_rd_init 7 (.newarray .char) 2 9 := ⟨by decide +kernel, rfl⟩
theorem i_rd_init_9 : fe M_rd_init 9 (.putfield 9) 3 12 := ⟨by decide +kernel, rfl⟩
theorem i_rd_init_12 : fe M_rd_init 12 (.aload_n 0) 1 13 := ⟨by decide +kernel, rfl⟩
theorem i_rd_init_13 : fe M_rd_init 13 (.bipush 11) 2 15 := ⟨by decide +kernel, rfl⟩
theorem i_rd_init_15 : fe M_rd_init 15 (.anewarray 15) 3 18 := ⟨by decide +kernel, rfl⟩
theorem i_rd_init_18 : fe M_rd_init 18 (.putfield 17) 3 21 := ⟨by decide +kernel, rfl⟩
theorem i_rd_init_21 : fe M_rd_init 21 (.aload_n 0) 1 22 := ⟨by decide +kernel, rfl⟩
theorem i_rd_init_22 : fe M_rd_init 22 (.bipush 11) 2 24 := ⟨by decide +kernel, rfl⟩
theorem i_rd_init_24 : fe M_rd_init 24 (.anewarray 15) 3 27 := ⟨by decide +kernel, rfl⟩
theorem i_rd_init_27 : fe M_rd_init 27 (.putfield 21) 3 30 := ⟨by decide +kernel, rfl⟩
theorem i_rd_init_30 : fe M_rd_init 30 (.aload_n 0) 1 31 := ⟨by decide +kernel, rfl⟩
theorem i_rd_init_31 : fe M_rd_init 31 (.new 15) 3 34 := ⟨by decide +kernel, rfl⟩
theorem i_rd_init_34 : fe M_rd_init 34 .dup 1 35 := ⟨by decide +kernel, rfl⟩
theorem i_rd_init_35 : fe M_rd_init 35 (.iconst 1) 1 36 := ⟨by decide +kernel, rfl⟩
theorem i_rd_init_36 : fe M_rd_init 36 (.invokespecial 24) 3 39 := ⟨by decide +kernel, rfl⟩
theorem i_rd_init_39 : fe M_rd_init 39 (.putfield 27) 3 42 := ⟨by decide +kernel, rfl⟩
theorem i_rd_init_42 : fe M_rd_init 42 (.aload_n 0) 1 43 := ⟨by decide +kernel, rfl⟩
theorem i_rd_init_43 : fe M_rd_init 43 (.new 15) 3 46 := ⟨by decide +kernel, rfl⟩
theorem i_rd_init_46 : fe M_rd_init 46 .dup 1 47 := ⟨by decide +kernel, rfl⟩
theorem i_rd_init_47 : fe M_rd_init 47 (.sipush 400) 3 50 := ⟨by decide +kernel, rfl⟩
theorem i_rd_init_50 : fe M_rd_init 50 (.invokespecial 24) 3 53 := ⟨by decide +kernel, rfl⟩
theorem i_rd_init_53 : fe M_rd_init 53 (.putfield 31) 3 56 := ⟨by decide +kernel, rfl⟩
theorem i_rd_init_56 : fe M_rd_init 56 (.aload_n 0) 1 57 := ⟨by decide +kernel, rfl⟩
theorem i_rd_init_57 : fe M_rd_init 57 (.iconst 0) 1 58 := ⟨by decide +kernel, rfl⟩
theorem i_rd_init_58 : fe M_rd_init 58 (.putfield 34) 3 61 := ⟨by decide +kernel, rfl⟩
theorem i_rd_init_61 : fe M_rd_init 61 (.aload_n 0) 1 62 := ⟨by decide +kernel, rfl⟩
theorem i_rd_init_62 : fe M_rd_init 62 (.iconst 0) 1 63 := ⟨by decide +kernel, rfl⟩
theorem i_rd_init_63 : fe M_rd_init 63 (.putfield 38) 3 66 := ⟨by decide +kernel, rfl⟩
theorem i_rd_init_66 : fe M_rd_init 66 (.aload_n 0) 1 67 := ⟨by decide +kernel, rfl⟩
theorem i_rd_init_67 : fe M_rd_init 67 (.iconst 0) 1 68 := ⟨by decide +kernel, rfl⟩
theorem i_rd_init_68 : fe M_rd_init 68 (.putfield 41) 3 71 := ⟨by decide +kernel, rfl⟩
theorem i_rd_init_71 : fe M_rd_init 71 (.aload_n 0) 1 72 := ⟨by decide +kernel, rfl⟩
theorem i_rd_init_72 : fe M_rd_init 72 (.iconst 0) 1 73 := ⟨by decide +kernel, rfl⟩
theorem i_rd_init_73 : fe M_rd_init 73 (.putfield 44) 3 76 := ⟨by decide +kernel, rfl⟩
theorem i_rd_init_76 : fe M_rd_init 76 (.aload_n 0) 1 77 := ⟨by decide +kernel, rfl⟩
theorem i_rd_init_77 : fe M_rd_init 77 (.iconst 0) 1 78 := ⟨by decide +kernel, rfl⟩
theorem i_rd_init_78 : fe M_rd_init 78 (.putfield 47) 3 81 := ⟨by decide +kernel, rfl⟩
theorem i_rd_init_81 : fe M_rd_init 81 (.iconst 0) 1 82 := ⟨by decide +kernel, rfl⟩
theorem i_rd_init_82 : fe M_rd_init 82 (.istore_n 1) 1 83 := ⟨by decide +kernel, rfl⟩
theorem i_rd_init_83 : fe M_rd_init 83 (.iload_n 1) 1 84 := ⟨by decide +kernel, rfl⟩
theorem i_rd_init_84 : fe M_rd_init 84 (.bipush 10) 2 86 := ⟨by decide +kernel, rfl⟩
theorem i_rd_init_86 : fb M_rd_init 86 (.if_icmp .gt) 125 89 := ⟨39, by decide +kernel, by decide, rfl⟩
theorem i_rd_init_89 : fe M_rd_init 89 (.aload_n 0) 1 90 := ⟨by decide +kernel, rfl⟩
theorem i_rd_init_90 : fe M_rd_init 90 (.getfield 17) 3 93 := ⟨by decide +kernel, rfl⟩
theorem i_rd_init_93 : fe M_rd_init 93 (.iload_n 1) 1 94 := ⟨by decide +kernel, rfl⟩
theorem i_rd_init_94 : fe M_rd_init 94 (.new 15) 3 97 := ⟨by decide +kernel, rfl⟩
theorem i_rd_init_97 : fe M_rd_init 97 .dup 1 98 := ⟨by decide +kernel, rfl⟩
theorem i_rd_init_98 : fe M_rd_init 98 (.bipush 20) 2 100 := ⟨by decide +kernel, rfl⟩
theorem i_rd_init_100 : fe M_rd_init 100 (.invokespecial 24) 3 103 := ⟨by decide +kernel, rfl⟩
theorem i_rd_init_103 : fe M_rd_init 103 .aastore 1 104 := ⟨by decide +kernel, rfl⟩
theorem i_rd_init_104 : fe M_rd_init 104 (.aload_n 0) 1 105 := ⟨by decide +kernel, rfl⟩
theorem i_rd_init_105 : fe M_rd_init 105 (.getfield 21) 3 108 := ⟨by decide +kernel, rfl⟩
theorem i_rd_init_108 : fe M_rd_init 108 (.iload_n 1) 1 109 := ⟨by decide +kernel, rfl⟩
theorem i_rd_init_109 : fe M_rd_init 109 (.new 15) 3 112 := ⟨by decide +kernel, rfl⟩
theorem i_rd_init_112 : fe M_rd_init 112 .dup 1 113 := ⟨by decide +kernel, rfl⟩
theorem i_rd_init_113 : fe M_rd_init 113 (.bipush 20) 2 115 := ⟨by decide +kernel, rfl⟩
theorem i_rd_init_115 : fe M_rd_init 115 (.invokespecial 24) 3 118 := ⟨by decide +kernel, rfl⟩
theorem i_rd_init_118 : fe M_rd_init 118 .aastore 1 119 := ⟨by decide +kernel, rfl⟩
theorem i_rd_init_119 : fe M_rd_init 119 (.iinc 1 1) 3 122 := ⟨by decide +kernel, rfl⟩
theorem i_rd_init_122 : fb M_rd_init 122 .goto 83 125 := ⟨-39, by decide +kernel, by decide, rfl⟩
theorem i_rd_init_125 : fe M_rd_init 125 .return_ 1 126 := ⟨by decide +kernel, rfl⟩
theorem i_rd_append_0 : fe M_rd_append 0 (.iload_n 1) 1 1 := ⟨by decide +kernel, rfl⟩
theorem i_rd_append_1 : fe M_rd_append 1 (.bipush 32) 2 3 := ⟨by decide +kernel, rfl⟩
theorem i_rd_append_3 : fb M_rd_append 3 (.if_icmp .lt) 21 6 := ⟨18, by decide +kernel, by decide, rfl⟩
theorem i_rd_append_6 : fe M_rd_append 6 (.iload_n 1) 1 7 := ⟨by decide +kernel, rfl⟩
theorem i_rd_append_7 : fe M_rd_append 7 (.bipush 126) 2 9 := ⟨by decide +kernel, rfl⟩
theorem i_rd_append_9 : fb M_rd_append 9 (.if_icmp .gt) 21 12 := ⟨12, by decide +kernel, by decide, rfl⟩
theorem i_rd_append_12 : fe M_rd_append 12 (.aload_n 0) 1 13 := ⟨by decide +kernel, rfl⟩
theorem i_rd_append_13 : fe M_rd_append 13 (.getfield 34) 3 16 := ⟨by decide +kernel, rfl⟩
theorem i_rd_append_16 : fe M_rd_append 16 (.bipush 60) 2 18 := ⟨by decide +kernel, rfl⟩
theorem i_rd_append_18 : fb M_rd_append 18 (.if_icmp .lt) 23 21 := ⟨5, by decide +kernel, by decide, rfl⟩
theorem i_rd_append_21 : fe M_rd_append 21 (.iconst 0) 1 22 := ⟨by decide +kernel, rfl⟩
theorem i_rd_append_22 : fe M_rd_append 22 .ireturn 1 23 := ⟨by decide +kernel, rfl⟩
theorem i_rd_append_23 : fe M_rd_append 23 (.aload_n 0) 1 24 := ⟨by decide +kernel, rfl⟩
theorem i_rd_append_24 : fe M_rd_append 24 (.getfield 9) 3 27 := ⟨by decide +kernel, rfl⟩
theorem i_rd_append_27 : fe M_rd_append 27 (.aload_n 0) 1 28 := ⟨by decide +kernel, rfl⟩
theorem i_rd_append_28 : fe M_rd_append 28 (.getfield 34) 3 31 := ⟨by decide +kernel, rfl⟩
theorem i_rd_append_31 : fe M_rd_append 31 (.iload_n 1) 1 32 := ⟨by decide +kernel, rfl⟩
theorem i_rd_append_32 : fe M_rd_append 32 .castore 1 33 := ⟨by decide +kernel, rfl⟩
theorem i_rd_append_33 : fe M_rd_append 33 (.aload_n 0) 1 34 := ⟨by decide +kernel, rfl⟩
theorem i_rd_append_34 : fe M_rd_append 34 .dup 1 35 := ⟨by decide +kernel, rfl⟩
theorem i_rd_append_35 : fe M_rd_append 35 (.getfield 34) 3 38 := ⟨by decide +kernel, rfl⟩
theorem i_rd_append_38 : fe M_rd_append 38 (.iconst 1) 1 39 := ⟨by decide +kernel, rfl⟩
theorem i_rd_append_39 : fe M_rd_append 39 .iadd 1 40 := ⟨by decide +kernel, rfl⟩
theorem i_rd_append_40 : fe M_rd_append 40 (.putfield 34) 3 43 := ⟨by decide +kernel, rfl⟩
theorem i_rd_append_43 : fe M_rd_append 43 (.iconst 1) 1 44 := ⟨by decide +kernel, rfl⟩
theorem i_rd_append_44 : fe M_rd_append 44 .ireturn 1 45 := ⟨by decide +kernel, rfl⟩
theorem i_rd_empty_0 : fe M_rd_empty 0 (.aload_n 0) 1 1 := ⟨by decide +kernel, rfl⟩
theorem i_rd_empty_1 : fe M_rd_empty 1 (.iconst 0) 1 2 := ⟨by decide +kernel, rfl⟩
theorem i_rd_empty_2 : fe M_rd_empty 2 (.putfield 34) 3 5 := ⟨by decide +kernel, rfl⟩
theorem i_rd_empty_5 : fe M_rd_empty 5 .return_ 1 6 := ⟨by decide +kernel, rfl⟩
theorem i_rd_hasTooMany_0 : fe M_rd_hasTooMany 0 (.aload_n 0) 1 1 := ⟨by decide +kernel, rfl⟩
theorem i_rd_hasTooMany_1 : fe M_rd_hasTooMany 1 (.getfield 47) 3 4 := ⟨by decide +kernel, rfl⟩
theorem i_rd_hasTooMany_4 : fe M_rd_hasTooMany 4 .ireturn 1 5 := ⟨by decide +kernel, rfl⟩
theorem i_rd_result_0 : fe M_rd_result 0 (.aload_n 0) 1 1 := ⟨by decide +kernel, rfl⟩
theorem i_rd_result_1 : fe M_rd_result 1 (.getfield 17) 3 4 := ⟨by decide +kernel, rfl⟩
theorem i_rd_result_4 : fe M_rd_result 4 (.iconst 0) 1 5 := ⟨by decide +kernel, rfl⟩
theorem i_rd_result_5 : fe M_rd_result 5 .aaload 1 6 := ⟨by decide +kernel, rfl⟩
theorem i_rd_result_6 : fe M_rd_result 6 .areturn 1 7 := ⟨by decide +kernel, rfl⟩
theorem i_rd_read_0 : fe M_rd_read 0 (.aload_n 0) 1 1 := ⟨by decide +kernel, rfl⟩
theorem i_rd_read_1 : fe M_rd_read 1 (.iconst 0) 1 2 := ⟨by decide +kernel, rfl⟩
theorem i_rd_read_2 : fe M_rd_read 2 (.putfield 38) 3 5 := ⟨by decide +kernel, rfl⟩
theorem i_rd_read_5 : fe M_rd_read 5 (.aload_n 0) 1 6 := ⟨by decide +kernel, rfl⟩
theorem i_rd_read_6 : fe M_rd_read 6 (.iconst 0) 1 7 := ⟨by decide +kernel, rfl⟩
theorem i_rd_read_7 : fe M_rd_read 7 (.putfield 41) 3 10 := ⟨by decide +kernel, rfl⟩
theorem i_rd_read_10 : fe M_rd_read 10 (.aload_n 0) 1 11 := ⟨by decide +kernel, rfl⟩
theorem i_rd_read_11 : fe M_rd_read 11 (.iconst 0) 1 12 := ⟨by decide +kernel, rfl⟩
theorem i_rd_read_12 : fe M_rd_read 12 (.putfield 47) 3 15 := ⟨by decide +kernel, rfl⟩
theorem i_rd_read_15 : fe M_rd_read 15 (.aload_n 0) 1 16 := ⟨by decide +kernel, rfl⟩
theorem i_rd_read_16 : fe M_rd_read 16 (.invokevirtual 51) 3 19 := ⟨by decide +kernel, rfl⟩
theorem i_rd_read_19 : fe M_rd_read 19 (.iconst 0) 1 20 := ⟨by decide +kernel, rfl⟩
theorem i_rd_read_20 : fe M_rd_read 20 (.istore_n 2) 1 21 := ⟨by decide +kernel, rfl⟩
theorem i_rd_read_21 : fe M_rd_read 21 (.iload_n 2) 1 22 := ⟨by decide +kernel, rfl⟩
theorem i_rd_read_22 : fe M_rd_read 22 (.aload_n 0) 1 23 := ⟨by decide +kernel, rfl⟩
theorem i_rd_read_23 : fe M_rd_read 23 (.getfield 34) 3 26 := ⟨by decide +kernel, rfl⟩
theorem i_rd_read_26 : fb M_rd_read 26 (.if_icmp .ge) 62 29 := ⟨36, by decide +kernel, by decide, rfl⟩
theorem i_rd_read_29 : fe M_rd_read 29 (.aload_n 0) 1 30 := ⟨by decide +kernel, rfl⟩
theorem i_rd_read_30 : fe M_rd_read 30 (.getfield 9) 3 33 := ⟨by decide +kernel, rfl⟩
theorem i_rd_read_33 : fe M_rd_read 33 (.iload_n 2) 1 34 := ⟨by decide +kernel, rfl⟩
theorem i_rd_read_34 : fe M_rd_read 34 .caload 1 35 := ⟨by decide +kernel, rfl⟩
theorem i_rd_read_35 : fe M_rd_read 35 (.bipush 32) 2 37 := ⟨by decide +kernel, rfl⟩
theorem i_rd_read_37 : fb M_rd_read 37 (.if_icmp .eq) 56 40 := ⟨19, by decide +kernel, by decide, rfl⟩
theorem i_rd_read_40 : fe M_rd_read 40 (.aload_n 0) 1 41 := ⟨by decide +kernel, rfl⟩
theorem i_rd_read_41 : fe M_rd_read 41 (.aload_n 0) 1 42 := ⟨by decide +kernel, rfl⟩
theorem i_rd_read_42 : fe M_rd_read 42 (.getfield 9) 3 45 := ⟨by decide +kernel, rfl⟩
theorem i_rd_read_45 : fe M_rd_read 45 (.iload_n 2) 1 46 := ⟨by decide +kernel, rfl⟩
theorem i_rd_read_46 : fe M_rd_read 46 .caload 1 47 := ⟨by decide +kernel, rfl⟩
theorem i_rd_read_47 : fe M_rd_read 47 (.iload_n 1) 1 48 := ⟨by decide +kernel, rfl⟩
theorem i_rd_read_48 : fe M_rd_read 48 (.invokevirtual 54) 3 51 := ⟨by decide +kernel, rfl⟩
theorem i_rd_read_51 : fb M_rd_read 51 (.ifCond .ne) 56 54 := ⟨5, by decide +kernel, by decide, rfl⟩
theorem i_rd_read_54 : fe M_rd_read 54 (.iload_n 2) 1 55 := ⟨by decide +kernel, rfl⟩
theorem i_rd_read_55 : fe M_rd_read 55 .ireturn 1 56 := ⟨by decide +kernel, rfl⟩
theorem i_rd_read_56 : fe M_rd_read 56 (.iinc 2 1) 3 59 := ⟨by decide +kernel, rfl⟩
theorem i_rd_read_59 : fb M_rd_read 59 .goto 21 62 := ⟨-38, by decide +kernel, by decide, rfl⟩
theorem i_rd_read_62 : fe M_rd_read 62 (.aload_n 0) 1 63 := ⟨by decide +kernel, rfl⟩
theorem i_rd_read_63 : fe M_rd_read 63 (.invokevirtual 58) 3 66 := ⟨by decide +kernel, rfl⟩
theorem i_rd_read_66 : fe M_rd_read 66 (.aload_n 0) 1 67 := ⟨by decide +kernel, rfl⟩
theorem i_rd_read_67 : fe M_rd_read 67 (.getfield 41) 3 70 := ⟨by decide +kernel, rfl⟩
theorem i_rd_read_70 : fe M_rd_read 70 (.iconst 3) 1 71 := ⟨by decide +kernel, rfl⟩
theorem i_rd_read_71 : fb M_rd_read 71 (.if_icmp .ne) 81 74 := ⟨10, by decide +kernel, by decide, rfl⟩
theorem i_rd_read_74 : fe M_rd_read 74 (.aload_n 0) 1 75 := ⟨by decide +kernel, rfl⟩
theorem i_rd_read_75 : fe M_rd_read 75 (.getfield 38) 3 78 := ⟨by decide +kernel, rfl⟩
theorem i_rd_read_78 : fb M_rd_read 78 (.ifCond .eq) 86 81 := ⟨8, by decide +kernel, by decide, rfl⟩
theorem i_rd_read_81 : fe M_rd_read 81 (.aload_n 0) 1 82 := ⟨by decide +kernel, rfl⟩
theorem i_rd_read_82 : fe M_rd_read 82 (.getfield 34) 3 85 := ⟨by decide +kernel, rfl⟩
theorem i_rd_read_85 : fe M_rd_read 85 .ireturn 1 86 := ⟨by decide +kernel, rfl⟩
theorem i_rd_read_86 : fe M_rd_read 86 (.aload_n 0) 1 87 := ⟨by decide +kernel, rfl⟩
theorem i_rd_read_87 : fe M_rd_read 87 (.invokevirtual 61) 3 90 := ⟨by decide +kernel, rfl⟩
theorem i_rd_read_90 : fe M_rd_read 90 (.iconst (-1)) 1 91 := ⟨by decide +kernel, rfl⟩
theorem i_rd_read_91 : fe M_rd_read 91 .ireturn 1 92 := ⟨by decide +kernel, rfl⟩
theorem i_rd_takes_0 : fe M_rd_takes 0 (.aload_n 0) 1 1 := ⟨by decide +kernel, rfl⟩
theorem i_rd_takes_1 : fe M_rd_takes 1 (.getfield 41) 3 4 := ⟨by decide +kernel, rfl⟩
theorem i_rd_takes_4 : fb M_rd_takes 4 (.ifCond .ne) 27 7 := ⟨23, by decide +kernel, by decide, rfl⟩
theorem i_rd_takes_7 : fe M_rd_takes 7 (.iload_n 1) 1 8 := ⟨by decide +kernel, rfl⟩
theorem i_rd_takes_8 : fe M_rd_takes 8 (.bipush 40) 2 10 := ⟨by decide +kernel, rfl⟩
theorem i_rd_takes_10 : fb M_rd_takes 10 (.if_icmp .ne) 20 13 := ⟨10, by decide +kernel, by decide, rfl⟩
theorem i_rd_takes_13 : fe M_rd_takes 13 (.aload_n 0) 1 14 := ⟨by decide +kernel, rfl⟩
theorem i_rd_takes_14 : fe M_rd_takes 14 (.invokevirtual 64) 3 17 := ⟨by decide +kernel, rfl⟩
theorem i_rd_takes_17 : fb M_rd_takes 17 .goto 26 20 := ⟨9, by decide +kernel, by decide, rfl⟩
theorem i_rd_takes_20 : fe M_rd_takes 20 (.aload_n 0) 1 21 := ⟨by decide +kernel, rfl⟩
theorem i_rd_takes_21 : fe M_rd_takes 21 (.iload_n 1) 1 22 := ⟨by decide +kernel, rfl⟩
theorem i_rd_takes_22 : fe M_rd_takes 22 (.iload_n 2) 1 23 := ⟨by decide +kernel, rfl⟩
theorem i_rd_takes_23 : fe M_rd_takes 23 (.invokevirtual 68) 3 26 := ⟨by decide +kernel, rfl⟩
theorem i_rd_takes_26 : fe M_rd_takes 26 .ireturn 1 27 := ⟨by decide +kernel, rfl⟩
theorem i_rd_takes_27 : fe M_rd_takes 27 (.aload_n 0) 1 28 := ⟨by decide +kernel, rfl⟩
theorem i_rd_takes_28 : fe M_rd_takes 28 (.getfield 41) 3 31 := ⟨by decide +kernel, rfl⟩
theorem i_rd_takes_31 : fe M_rd_takes 31 (.iconst 2) 1 32 := ⟨by decide +kernel, rfl⟩
theorem i_rd_takes_32 : fb M_rd_takes 32 (.if_icmp .ne) 41 35 := ⟨9, by decide +kernel, by decide, rfl⟩
theorem i_rd_takes_35 : fe M_rd_takes 35 (.aload_n 0) 1 36 := ⟨by decide +kernel, rfl⟩
theorem i_rd_takes_36 : fe M_rd_takes 36 (.iload_n 1) 1 37 := ⟨by decide +kernel, rfl⟩
theorem i_rd_takes_37 : fe M_rd_takes 37 (.invokevirtual 71) 3 40 := ⟨by decide +kernel, rfl⟩
theorem i_rd_takes_40 : fe M_rd_takes 40 .ireturn 1 41 := ⟨by decide +kernel, rfl⟩
theorem i_rd_takes_41 : fe M_rd_takes 41 (.aload_n 0) 1 42 := ⟨by decide +kernel, rfl⟩
theorem i_rd_takes_42 : fe M_rd_takes 42 (.getfield 41) 3 45 := ⟨by decide +kernel, rfl⟩
theorem i_rd_takes_45 : fe M_rd_takes 45 (.iconst 1) 1 46 := ⟨by decide +kernel, rfl⟩
theorem i_rd_takes_46 : fb M_rd_takes 46 (.if_icmp .ne) 62 49 := ⟨16, by decide +kernel, by decide, rfl⟩
theorem i_rd_takes_49 : fe M_rd_takes 49 (.iload_n 1) 1 50 := ⟨by decide +kernel, rfl⟩
theorem i_rd_takes_50 : fe M_rd_takes 50 (.bipush 94) 2 52 := ⟨by decide +kernel, rfl⟩
theorem i_rd_takes_52 : fb M_rd_takes 52 (.if_icmp .ne) 62 55 := ⟨10, by decide +kernel, by decide, rfl⟩
theorem i_rd_takes_55 : fe M_rd_takes 55 (.aload_n 0) 1 56 := ⟨by decide +kernel, rfl⟩
theorem i_rd_takes_56 : fe M_rd_takes 56 (.iconst 2) 1 57 := ⟨by decide +kernel, rfl⟩
theorem i_rd_takes_57 : fe M_rd_takes 57 (.putfield 41) 3 60 := ⟨by decide +kernel, rfl⟩
theorem i_rd_takes_60 : fe M_rd_takes 60 (.iconst 1) 1 61 := ⟨by decide +kernel, rfl⟩
theorem i_rd_takes_61 : fe M_rd_takes 61 .ireturn 1 62 := ⟨by decide +kernel, rfl⟩
theorem i_rd_takes_62 : fe M_rd_takes 62 (.aload_n 0) 1 63 := ⟨by decide +kernel, rfl⟩
theorem i_rd_takes_63 : fe M_rd_takes 63 (.invokevirtual 58) 3 66 := ⟨by decide +kernel, rfl⟩
theorem i_rd_takes_66 : fe M_rd_takes 66 (.iload_n 1) 1 67 := ⟨by decide +kernel, rfl⟩
theorem i_rd_takes_67 : fe M_rd_takes 67 (.bipush 41) 2 69 := ⟨by decide +kernel, rfl⟩
theorem i_rd_takes_69 : fb M_rd_takes 69 (.if_icmp .ne) 79 72 := ⟨10, by decide +kernel, by decide, rfl⟩
theorem i_rd_takes_72 : fe M_rd_takes 72 (.aload_n 0) 1 73 := ⟨by decide +kernel, rfl⟩
theorem i_rd_takes_73 : fe M_rd_takes 73 (.invokevirtual 75) 3 76 := ⟨by decide +kernel, rfl⟩
theorem i_rd_takes_76 : fb M_rd_takes 76 .goto 84 79 := ⟨8, by decide +kernel, by decide, rfl⟩
theorem i_rd_takes_79 : fe M_rd_takes 79 (.aload_n 0) 1 80 := ⟨by decide +kernel, rfl⟩
theorem i_rd_takes_80 : fe M_rd_takes 80 (.iload_n 1) 1 81 := ⟨by decide +kernel, rfl⟩
theorem i_rd_takes_81 : fe M_rd_takes 81 (.invokevirtual 78) 3 84 := ⟨by decide +kernel, rfl⟩
theorem i_rd_takes_84 : fe M_rd_takes 84 .ireturn 1 85 := ⟨by decide +kernel, rfl⟩
theorem i_rd_opens_0 : fe M_rd_opens 0 (.aload_n 0) 1 1 := ⟨by decide +kernel, rfl⟩
theorem i_rd_opens_1 : fe M_rd_opens 1 (.getfield 38) 3 4 := ⟨by decide +kernel, rfl⟩
theorem i_rd_opens_4 : fe M_rd_opens 4 (.bipush 10) 2 6 := ⟨by decide +kernel, rfl⟩
theorem i_rd_opens_6 : fb M_rd_opens 6 (.if_icmp .lt) 11 9 := ⟨5, by decide +kernel, by decide, rfl⟩
theorem i_rd_opens_9 : fe M_rd_opens 9 (.iconst 0) 1 10 := ⟨by decide +kernel, rfl⟩
theorem i_rd_opens_10 : fe M_rd_opens 10 .ireturn 1 11 := ⟨by decide +kernel, rfl⟩
theorem i_rd_opens_11 : fe M_rd_opens 11 (.aload_n 0) 1 12 := ⟨by decide +kernel, rfl⟩
theorem i_rd_opens_12 : fe M_rd_opens 12 .dup 1 13 := ⟨by decide +kernel, rfl⟩
theorem i_rd_opens_13 : fe M_rd_opens 13 (.getfield 38) 3 16 := ⟨by decide +kernel, rfl⟩
theorem i_rd_opens_16 : fe M_rd_opens 16 (.iconst 1) 1 17 := ⟨by decide +kernel, rfl⟩
theorem i_rd_opens_17 : fe M_rd_opens 17 .iadd 1 18 := ⟨by decide +kernel, rfl⟩
theorem i_rd_opens_18 : fe M_rd_opens 18 (.putfield 38) 3 21 := ⟨by decide +kernel, rfl⟩
theorem i_rd_opens_21 : fe M_rd_opens 21 (.aload_n 0) 1 22 := ⟨by decide +kernel, rfl⟩
theorem i_rd_opens_22 : fe M_rd_opens 22 (.invokevirtual 51) 3 25 := ⟨by decide +kernel, rfl⟩
theorem i_rd_opens_25 : fe M_rd_opens 25 (.iconst 1) 1 26 := ⟨by decide +kernel, rfl⟩
theorem i_rd_opens_26 : fe M_rd_opens 26 .ireturn 1 27 := ⟨by decide +kernel, rfl⟩
theorem i_rd_takesName_0 : fe M_rd_takesName 0 (.iload_n 1) 1 1 := ⟨by decide +kernel, rfl⟩
theorem i_rd_takesName_1 : fe M_rd_takesName 1 (.bipush 97) 2 3 := ⟨by decide +kernel, rfl⟩
theorem i_rd_takesName_3 : fb M_rd_takesName 3 (.if_icmp .lt) 14 6 := ⟨11, by decide +kernel, by decide, rfl⟩
theorem i_rd_takesName_6 : fe M_rd_takesName 6 (.iload_n 1) 1 7 := ⟨by decide +kernel, rfl⟩
theorem i_rd_takesName_7 : fe M_rd_takesName 7 (.bipush 97) 2 9 := ⟨by decide +kernel, rfl⟩
theorem i_rd_takesName_9 : fe M_rd_takesName 9 .isub 1 10 := ⟨by decide +kernel, rfl⟩
theorem i_rd_takesName_10 : fe M_rd_takesName 10 (.iload_n 2) 1 11 := ⟨by decide +kernel, rfl⟩
theorem i_rd_takesName_11 : fb M_rd_takesName 11 (.if_icmp .lt) 16 14 := ⟨5, by decide +kernel, by decide, rfl⟩
theorem i_rd_takesName_14 : fe M_rd_takesName 14 (.iconst 0) 1 15 := ⟨by decide +kernel, rfl⟩
theorem i_rd_takesName_15 : fe M_rd_takesName 15 .ireturn 1 16 := ⟨by decide +kernel, rfl⟩
theorem i_rd_takesName_16 : fe M_rd_takesName 16 (.aload_n 0) 1 17 := ⟨by decide +kernel, rfl⟩
theorem i_rd_takesName_17 : fe M_rd_takesName 17 (.iload_n 1) 1 18 := ⟨by decide +kernel, rfl⟩
theorem i_rd_takesName_18 : fe M_rd_takesName 18 (.bipush 97) 2 20 := ⟨by decide +kernel, rfl⟩
theorem i_rd_takesName_20 : fe M_rd_takesName 20 .isub 1 21 := ⟨by decide +kernel, rfl⟩
theorem i_rd_takesName_21 : fe M_rd_takesName 21 (.putfield 44) 3 24 := ⟨by decide +kernel, rfl⟩
theorem i_rd_takesName_24 : fe M_rd_takesName 24 (.aload_n 0) 1 25 := ⟨by decide +kernel, rfl⟩
theorem i_rd_takesName_25 : fe M_rd_takesName 25 (.iconst 1) 1 26 := ⟨by decide +kernel, rfl⟩
theorem i_rd_takesName_26 : fe M_rd_takesName 26 (.putfield 41) 3 29 := ⟨by decide +kernel, rfl⟩
theorem i_rd_takesName_29 : fe M_rd_takesName 29 (.iconst 1) 1 30 := ⟨by decide +kernel, rfl⟩
theorem i_rd_takesName_30 : fe M_rd_takesName 30 .ireturn 1 31 := ⟨by decide +kernel, rfl⟩
theorem i_rd_takesDigit_0 : fe M_rd_takesDigit 0 (.iload_n 1) 1 1 := ⟨by decide +kernel, rfl⟩
theorem i_rd_takesDigit_1 : fe M_rd_takesDigit 1 (.bipush 48) 2 3 := ⟨by decide +kernel, rfl⟩
theorem i_rd_takesDigit_3 : fb M_rd_takesDigit 3 (.if_icmp .lt) 15 6 := ⟨12, by decide +kernel, by decide, rfl⟩
theorem i_rd_takesDigit_6 : fe M_rd_takesDigit 6 (.iload_n 1) 1 7 := ⟨by decide +kernel, rfl⟩
theorem i_rd_takesDigit_7 : fe M_rd_takesDigit 7 (.bipush 48) 2 9 := ⟨by decide +kernel, rfl⟩
theorem i_rd_takesDigit_9 : fe M_rd_takesDigit 9 .isub 1 10 := ⟨by decide +kernel, rfl⟩
theorem i_rd_takesDigit_10 : fe M_rd_takesDigit 10 (.bipush 8) 2 12 := ⟨by decide +kernel, rfl⟩
theorem i_rd_takesDigit_12 : fb M_rd_takesDigit 12 (.if_icmp .lt) 17 15 := ⟨5, by decide +kernel, by decide, rfl⟩
theorem i_rd_takesDigit_15 : fe M_rd_takesDigit 15 (.iconst 0) 1 16 := ⟨by decide +kernel, rfl⟩
theorem i_rd_takesDigit_16 : fe M_rd_takesDigit 16 .ireturn 1 17 := ⟨by decide +kernel, rfl⟩
theorem i_rd_takesDigit_17 : fe M_rd_takesDigit 17 (.aload_n 0) 1 18 := ⟨by decide +kernel, rfl⟩
theorem i_rd_takesDigit_18 : fe M_rd_takesDigit 18 (.getfield 27) 3 21 := ⟨by decide +kernel, rfl⟩
theorem i_rd_takesDigit_21 : fe M_rd_takesDigit 21 (.aload_n 0) 1 22 := ⟨by decide +kernel, rfl⟩
theorem i_rd_takesDigit_22 : fe M_rd_takesDigit 22 (.getfield 44) 3 25 := ⟨by decide +kernel, rfl⟩
theorem i_rd_takesDigit_25 : fe M_rd_takesDigit 25 (.bipush 9) 2 27 := ⟨by decide +kernel, rfl⟩
theorem i_rd_takesDigit_27 : fe M_rd_takesDigit 27 .imul 1 28 := ⟨by decide +kernel, rfl⟩
theorem i_rd_takesDigit_28 : fe M_rd_takesDigit 28 (.iload_n 1) 1 29 := ⟨by decide +kernel, rfl⟩
theorem i_rd_takesDigit_29 : fe M_rd_takesDigit 29 (.bipush 48) 2 31 := ⟨by decide +kernel, rfl⟩
theorem i_rd_takesDigit_31 : fe M_rd_takesDigit 31 .isub 1 32 := ⟨by decide +kernel, rfl⟩
theorem i_rd_takesDigit_32 : fe M_rd_takesDigit 32 .iadd 1 33 := ⟨by decide +kernel, rfl⟩
theorem i_rd_takesDigit_33 : fe M_rd_takesDigit 33 (.iconst 1) 1 34 := ⟨by decide +kernel, rfl⟩
theorem i_rd_takesDigit_34 : fe M_rd_takesDigit 34 .iadd 1 35 := ⟨by decide +kernel, rfl⟩
theorem i_rd_takesDigit_35 : fe M_rd_takesDigit 35 (.invokevirtual 81) 3 38 := ⟨by decide +kernel, rfl⟩
theorem i_rd_takesDigit_38 : fe M_rd_takesDigit 38 (.aload_n 0) 1 39 := ⟨by decide +kernel, rfl⟩
theorem i_rd_takesDigit_39 : fe M_rd_takesDigit 39 (.aload_n 0) 1 40 := ⟨by decide +kernel, rfl⟩
theorem i_rd_takesDigit_40 : fe M_rd_takesDigit 40 (.getfield 27) 3 43 := ⟨by decide +kernel, rfl⟩
theorem i_rd_takesDigit_43 : fe M_rd_takesDigit 43 (.invokevirtual 84) 3 46 := ⟨by decide +kernel, rfl⟩
theorem i_rd_takesDigit_46 : fe M_rd_takesDigit 46 (.iconst 1) 1 47 := ⟨by decide +kernel, rfl⟩
theorem i_rd_takesDigit_47 : fe M_rd_takesDigit 47 .ireturn 1 48 := ⟨by decide +kernel, rfl⟩
theorem i_rd_closes_0 : fe M_rd_closes 0 (.aload_n 0) 1 1 := ⟨by decide +kernel, rfl⟩
theorem i_rd_closes_1 : fe M_rd_closes 1 (.getfield 38) 3 4 := ⟨by decide +kernel, rfl⟩
theorem i_rd_closes_4 : fb M_rd_closes 4 (.ifCond .gt) 9 7 := ⟨5, by decide +kernel, by decide, rfl⟩
theorem i_rd_closes_7 : fe M_rd_closes 7 (.iconst 0) 1 8 := ⟨by decide +kernel, rfl⟩
theorem i_rd_closes_8 : fe M_rd_closes 8 .ireturn 1 9 := ⟨by decide +kernel, rfl⟩
theorem i_rd_closes_9 : fe M_rd_closes 9 (.aload_n 0) 1 10 := ⟨by decide +kernel, rfl⟩
theorem i_rd_closes_10 : fe M_rd_closes 10 (.invokevirtual 61) 3 13 := ⟨by decide +kernel, rfl⟩
theorem i_rd_closes_13 : fe M_rd_closes 13 (.aload_n 0) 1 14 := ⟨by decide +kernel, rfl⟩
theorem i_rd_closes_14 : fe M_rd_closes 14 .dup 1 15 := ⟨by decide +kernel, rfl⟩
theorem i_rd_closes_15 : fe M_rd_closes 15 (.getfield 38) 3 18 := ⟨by decide +kernel, rfl⟩
theorem i_rd_closes_18 : fe M_rd_closes 18 (.iconst 1) 1 19 := ⟨by decide +kernel, rfl⟩
theorem i_rd_closes_19 : fe M_rd_closes 19 .isub 1 20 := ⟨by decide +kernel, rfl⟩
theorem i_rd_closes_20 : fe M_rd_closes 20 (.putfield 38) 3 23 := ⟨by decide +kernel, rfl⟩
theorem i_rd_closes_23 : fe M_rd_closes 23 (.aload_n 0) 1 24 := ⟨by decide +kernel, rfl⟩
theorem i_rd_closes_24 : fe M_rd_closes 24 (.aload_n 0) 1 25 := ⟨by decide +kernel, rfl⟩
theorem i_rd_closes_25 : fe M_rd_closes 25 (.getfield 17) 3 28 := ⟨by decide +kernel, rfl⟩
theorem i_rd_closes_28 : fe M_rd_closes 28 (.aload_n 0) 1 29 := ⟨by decide +kernel, rfl⟩
theorem i_rd_closes_29 : fe M_rd_closes 29 (.getfield 38) 3 32 := ⟨by decide +kernel, rfl⟩
theorem i_rd_closes_32 : fe M_rd_closes 32 (.iconst 1) 1 33 := ⟨by decide +kernel, rfl⟩
theorem i_rd_closes_33 : fe M_rd_closes 33 .iadd 1 34 := ⟨by decide +kernel, rfl⟩
theorem i_rd_closes_34 : fe M_rd_closes 34 .aaload 1 35 := ⟨by decide +kernel, rfl⟩
theorem i_rd_closes_35 : fe M_rd_closes 35 (.invokevirtual 84) 3 38 := ⟨by decide +kernel, rfl⟩
theorem i_rd_closes_38 : fe M_rd_closes 38 (.iconst 1) 1 39 := ⟨by decide +kernel, rfl⟩
theorem i_rd_closes_39 : fe M_rd_closes 39 .ireturn 1 40 := ⟨by decide +kernel, rfl⟩
theorem i_rd_takesSign_0 : fe M_rd_takesSign 0 (.iload_n 1) 1 1 := ⟨by decide +kernel, rfl⟩
theorem i_rd_takesSign_1 : fe M_rd_takesSign 1 (.bipush 124) 2 3 := ⟨by decide +kernel, rfl⟩
theorem i_rd_takesSign_3 : fb M_rd_takesSign 3 (.if_icmp .eq) 14 6 := ⟨11, by decide +kernel, by decide, rfl⟩
theorem i_rd_takesSign_6 : fe M_rd_takesSign 6 (.iload_n 1) 1 7 := ⟨by decide +kernel, rfl⟩
theorem i_rd_takesSign_7 : fe M_rd_takesSign 7 (.bipush 38) 2 9 := ⟨by decide +kernel, rfl⟩
theorem i_rd_takesSign_9 : fb M_rd_takesSign 9 (.if_icmp .eq) 14 12 := ⟨5, by decide +kernel, by decide, rfl⟩
theorem i_rd_takesSign_12 : fe M_rd_takesSign 12 (.iconst 0) 1 13 := ⟨by decide +kernel, rfl⟩
theorem i_rd_takesSign_13 : fe M_rd_takesSign 13 .ireturn 1 14 := ⟨by decide +kernel, rfl⟩
theorem i_rd_takesSign_14 : fe M_rd_takesSign 14 (.iload_n 1) 1 15 := ⟨by decide +kernel, rfl⟩
theorem i_rd_takesSign_15 : fe M_rd_takesSign 15 (.bipush 124) 2 17 := ⟨by decide +kernel, rfl⟩
theorem i_rd_takesSign_17 : fb M_rd_takesSign 17 (.if_icmp .ne) 24 20 := ⟨7, by decide +kernel, by decide, rfl⟩
theorem i_rd_takesSign_20 : fe M_rd_takesSign 20 (.aload_n 0) 1 21 := ⟨by decide +kernel, rfl⟩
theorem i_rd_takesSign_21 : fe M_rd_takesSign 21 (.invokevirtual 61) 3 24 := ⟨by decide +kernel, rfl⟩
theorem i_rd_takesSign_24 : fe M_rd_takesSign 24 (.aload_n 0) 1 25 := ⟨by decide +kernel, rfl⟩
theorem i_rd_takesSign_25 : fe M_rd_takesSign 25 (.iconst 0) 1 26 := ⟨by decide +kernel, rfl⟩
theorem i_rd_takesSign_26 : fe M_rd_takesSign 26 (.putfield 41) 3 29 := ⟨by decide +kernel, rfl⟩
theorem i_rd_takesSign_29 : fe M_rd_takesSign 29 (.iconst 1) 1 30 := ⟨by decide +kernel, rfl⟩
theorem i_rd_takesSign_30 : fe M_rd_takesSign 30 .ireturn 1 31 := ⟨by decide +kernel, rfl⟩
theorem i_rd_startLevel_0 : fe M_rd_startLevel 0 (.aload_n 0) 1 1 := ⟨by decide +kernel, rfl⟩
theorem i_rd_startLevel_1 : fe M_rd_startLevel 1 (.getfield 17) 3 4 := ⟨by decide +kernel, rfl⟩
theorem i_rd_startLevel_4 : fe M_rd_startLevel 4 (.aload_n 0) 1 5 := ⟨by decide +kernel, rfl⟩
theorem i_rd_startLevel_5 : fe M_rd_startLevel 5 (.getfield 38) 3 8 := ⟨by decide +kernel, rfl⟩
theorem i_rd_startLevel_8 : fe M_rd_startLevel 8 .aaload 1 9 := ⟨by decide +kernel, rfl⟩
theorem i_rd_startLevel_9 : fe M_rd_startLevel 9 (.invokevirtual 88) 3 12 := ⟨by decide +kernel, rfl⟩
theorem i_rd_startLevel_12 : fe M_rd_startLevel 12 (.aload_n 0) 1 13 := ⟨by decide +kernel, rfl⟩
theorem i_rd_startLevel_13 : fe M_rd_startLevel 13 (.getfield 21) 3 16 := ⟨by decide +kernel, rfl⟩
theorem i_rd_startLevel_16 : fe M_rd_startLevel 16 (.aload_n 0) 1 17 := ⟨by decide +kernel, rfl⟩
theorem i_rd_startLevel_17 : fe M_rd_startLevel 17 (.getfield 38) 3 20 := ⟨by decide +kernel, rfl⟩
theorem i_rd_startLevel_20 : fe M_rd_startLevel 20 .aaload 1 21 := ⟨by decide +kernel, rfl⟩
theorem i_rd_startLevel_21 : fe M_rd_startLevel 21 (.invokevirtual 88) 3 24 := ⟨by decide +kernel, rfl⟩
theorem i_rd_startLevel_24 : fe M_rd_startLevel 24 .return_ 1 25 := ⟨by decide +kernel, rfl⟩
theorem i_rd_endName_0 : fe M_rd_endName 0 (.aload_n 0) 1 1 := ⟨by decide +kernel, rfl⟩
theorem i_rd_endName_1 : fe M_rd_endName 1 (.getfield 41) 3 4 := ⟨by decide +kernel, rfl⟩
theorem i_rd_endName_4 : fe M_rd_endName 4 (.iconst 1) 1 5 := ⟨by decide +kernel, rfl⟩
theorem i_rd_endName_5 : fb M_rd_endName 5 (.if_icmp .ne) 30 8 := ⟨25, by decide +kernel, by decide, rfl⟩
theorem i_rd_endName_8 : fe M_rd_endName 8 (.aload_n 0) 1 9 := ⟨by decide +kernel, rfl⟩
theorem i_rd_endName_9 : fe M_rd_endName 9 (.getfield 27) 3 12 := ⟨by decide +kernel, rfl⟩
theorem i_rd_endName_12 : fe M_rd_endName 12 (.aload_n 0) 1 13 := ⟨by decide +kernel, rfl⟩
theorem i_rd_endName_13 : fe M_rd_endName 13 (.getfield 44) 3 16 := ⟨by decide +kernel, rfl⟩
theorem i_rd_endName_16 : fe M_rd_endName 16 (.bipush 9) 2 18 := ⟨by decide +kernel, rfl⟩
theorem i_rd_endName_18 : fe M_rd_endName 18 .imul 1 19 := ⟨by decide +kernel, rfl⟩
theorem i_rd_endName_19 : fe M_rd_endName 19 (.invokevirtual 81) 3 22 := ⟨by decide +kernel, rfl⟩
theorem i_rd_endName_22 : fe M_rd_endName 22 (.aload_n 0) 1 23 := ⟨by decide +kernel, rfl⟩
theorem i_rd_endName_23 : fe M_rd_endName 23 (.aload_n 0) 1 24 := ⟨by decide +kernel, rfl⟩
theorem i_rd_endName_24 : fe M_rd_endName 24 (.getfield 27) 3 27 := ⟨by decide +kernel, rfl⟩
theorem i_rd_endName_27 : fe M_rd_endName 27 (.invokevirtual 84) 3 30 := ⟨by decide +kernel, rfl⟩
theorem i_rd_endName_30 : fe M_rd_endName 30 .return_ 1 31 := ⟨by decide +kernel, rfl⟩
theorem i_rd_endAtom_0 : fe M_rd_endAtom 0 (.aload_n 0) 1 1 := ⟨by decide +kernel, rfl⟩
theorem i_rd_endAtom_1 : fe M_rd_endAtom 1 (.getfield 21) 3 4 := ⟨by decide +kernel, rfl⟩
theorem i_rd_endAtom_4 : fe M_rd_endAtom 4 (.aload_n 0) 1 5 := ⟨by decide +kernel, rfl⟩
theorem i_rd_endAtom_5 : fe M_rd_endAtom 5 (.getfield 38) 3 8 := ⟨by decide +kernel, rfl⟩
theorem i_rd_endAtom_8 : fe M_rd_endAtom 8 .aaload 1 9 := ⟨by decide +kernel, rfl⟩
theorem i_rd_endAtom_9 : fe M_rd_endAtom 9 (.astore_n 2) 1 10 := ⟨by decide +kernel, rfl⟩
theorem i_rd_endAtom_10 : fe M_rd_endAtom 10 (.aload_n 0) 1 11 := ⟨by decide +kernel, rfl⟩
theorem i_rd_endAtom_11 : fe M_rd_endAtom 11 (.iconst 3) 1 12 := ⟨by decide +kernel, rfl⟩
theorem i_rd_endAtom_12 : fe M_rd_endAtom 12 (.putfield 41) 3 15 := ⟨by decide +kernel, rfl⟩
theorem i_rd_endAtom_15 : fe M_rd_endAtom 15 (.aload_n 2) 1 16 := ⟨by decide +kernel, rfl⟩
theorem i_rd_endAtom_16 : fe M_rd_endAtom 16 (.invokevirtual 91) 3 19 := ⟨by decide +kernel, rfl⟩
theorem i_rd_endAtom_19 : fb M_rd_endAtom 19 (.ifCond .ne) 28 22 := ⟨9, by decide +kernel, by decide, rfl⟩
theorem i_rd_endAtom_22 : fe M_rd_endAtom 22 (.aload_n 2) 1 23 := ⟨by decide +kernel, rfl⟩
theorem i_rd_endAtom_23 : fe M_rd_endAtom 23 (.aload_n 1) 1 24 := ⟨by decide +kernel, rfl⟩
theorem i_rd_endAtom_24 : fe M_rd_endAtom 24 (.invokevirtual 95) 3 27 := ⟨by decide +kernel, rfl⟩
theorem i_rd_endAtom_27 : fe M_rd_endAtom 27 .return_ 1 28 := ⟨by decide +kernel, rfl⟩
theorem i_rd_endAtom_28 : fe M_rd_endAtom 28 (.aload_n 0) 1 29 := ⟨by decide +kernel, rfl⟩
theorem i_rd_endAtom_29 : fe M_rd_endAtom 29 (.getfield 31) 3 32 := ⟨by decide +kernel, rfl⟩
theorem i_rd_endAtom_32 : fe M_rd_endAtom 32 (.invokevirtual 88) 3 35 := ⟨by decide +kernel, rfl⟩
theorem i_rd_endAtom_35 : fe M_rd_endAtom 35 (.iconst 0) 1 36 := ⟨by decide +kernel, rfl⟩
theorem i_rd_endAtom_36 : fe M_rd_endAtom 36 (.istore_n 3) 1 37 := ⟨by decide +kernel, rfl⟩
theorem i_rd_endAtom_37 : fe M_rd_endAtom 37 (.iload_n 3) 1 38 := ⟨by decide +kernel, rfl⟩
theorem i_rd_endAtom_38 : fe M_rd_endAtom 38 (.aload_n 2) 1 39 := ⟨by decide +kernel, rfl⟩
theorem i_rd_endAtom_39 : fe M_rd_endAtom 39 (.invokevirtual 91) 3 42 := ⟨by decide +kernel, rfl⟩
theorem i_rd_endAtom_42 : fb M_rd_endAtom 42 (.if_icmp .ge) 81 45 := ⟨39, by decide +kernel, by decide, rfl⟩
theorem i_rd_endAtom_45 : fe M_rd_endAtom 45 (.iconst 0) 1 46 := ⟨by decide +kernel, rfl⟩
theorem i_rd_endAtom_46 : fe M_rd_endAtom 46 (.istore 4) 2 48 := ⟨by decide +kernel, rfl⟩
theorem i_rd_endAtom_48 : fe M_rd_endAtom 48 (.iload 4) 2 50 := ⟨by decide +kernel, rfl⟩
theorem i_rd_endAtom_50 : fe M_rd_endAtom 50 (.aload_n 1) 1 51 := ⟨by decide +kernel, rfl⟩
theorem i_rd_endAtom_51 : fe M_rd_endAtom 51 (.invokevirtual 91) 3 54 := ⟨by decide +kernel, rfl⟩
theorem i_rd_endAtom_54 : fb M_rd_endAtom 54 (.if_icmp .ge) 75 57 := ⟨21, by decide +kernel, by decide, rfl⟩
theorem i_rd_endAtom_57 : fe M_rd_endAtom 57 (.aload_n 0) 1 58 := ⟨by decide +kernel, rfl⟩
theorem i_rd_endAtom_58 : fe M_rd_endAtom 58 (.getfield 31) 3 61 := ⟨by decide +kernel, rfl⟩
theorem i_rd_endAtom_61 : fe M_rd_endAtom 61 (.aload_n 2) 1 62 := ⟨by decide +kernel, rfl⟩
theorem i_rd_endAtom_62 : fe M_rd_endAtom 62 (.iload_n 3) 1 63 := ⟨by decide +kernel, rfl⟩
theorem i_rd_endAtom_63 : fe M_rd_endAtom 63 (.aload_n 1) 1 64 := ⟨by decide +kernel, rfl⟩
theorem i_rd_endAtom_64 : fe M_rd_endAtom 64 (.iload 4) 2 66 := ⟨by decide +kernel, rfl⟩
theorem i_rd_endAtom_66 : fe M_rd_endAtom 66 (.invokevirtual 98) 3 69 := ⟨by decide +kernel, rfl⟩
theorem i_rd_endAtom_69 : fe M_rd_endAtom 69 (.iinc 4 1) 3 72 := ⟨by decide +kernel, rfl⟩
theorem i_rd_endAtom_72 : fb M_rd_endAtom 72 .goto 48 75 := ⟨-24, by decide +kernel, by decide, rfl⟩
theorem i_rd_endAtom_75 : fe M_rd_endAtom 75 (.iinc 3 1) 3 78 := ⟨by decide +kernel, rfl⟩
theorem i_rd_endAtom_78 : fb M_rd_endAtom 78 .goto 37 81 := ⟨-41, by decide +kernel, by decide, rfl⟩
theorem i_rd_endAtom_81 : fe M_rd_endAtom 81 (.aload_n 0) 1 82 := ⟨by decide +kernel, rfl⟩
theorem i_rd_endAtom_82 : fe M_rd_endAtom 82 (.aload_n 2) 1 83 := ⟨by decide +kernel, rfl⟩
theorem i_rd_endAtom_83 : fe M_rd_endAtom 83 (.invokevirtual 102) 3 86 := ⟨by decide +kernel, rfl⟩
theorem i_rd_endAtom_86 : fe M_rd_endAtom 86 .return_ 1 87 := ⟨by decide +kernel, rfl⟩
theorem i_rd_endAlso_0 : fe M_rd_endAlso 0 (.aload_n 0) 1 1 := ⟨by decide +kernel, rfl⟩
theorem i_rd_endAlso_1 : fe M_rd_endAlso 1 (.getfield 17) 3 4 := ⟨by decide +kernel, rfl⟩
theorem i_rd_endAlso_4 : fe M_rd_endAlso 4 (.aload_n 0) 1 5 := ⟨by decide +kernel, rfl⟩
theorem i_rd_endAlso_5 : fe M_rd_endAlso 5 (.getfield 38) 3 8 := ⟨by decide +kernel, rfl⟩
theorem i_rd_endAlso_8 : fe M_rd_endAlso 8 .aaload 1 9 := ⟨by decide +kernel, rfl⟩
theorem i_rd_endAlso_9 : fe M_rd_endAlso 9 (.astore_n 1) 1 10 := ⟨by decide +kernel, rfl⟩
theorem i_rd_endAlso_10 : fe M_rd_endAlso 10 (.aload_n 0) 1 11 := ⟨by decide +kernel, rfl⟩
theorem i_rd_endAlso_11 : fe M_rd_endAlso 11 (.getfield 21) 3 14 := ⟨by decide +kernel, rfl⟩
theorem i_rd_endAlso_14 : fe M_rd_endAlso 14 (.aload_n 0) 1 15 := ⟨by decide +kernel, rfl⟩
theorem i_rd_endAlso_15 : fe M_rd_endAlso 15 (.getfield 38) 3 18 := ⟨by decide +kernel, rfl⟩
theorem i_rd_endAlso_18 : fe M_rd_endAlso 18 .aaload 1 19 := ⟨by decide +kernel, rfl⟩
theorem i_rd_endAlso_19 : fe M_rd_endAlso 19 (.astore_n 2) 1 20 := ⟨by decide +kernel, rfl⟩
theorem i_rd_endAlso_20 : fe M_rd_endAlso 20 (.aload_n 0) 1 21 := ⟨by decide +kernel, rfl⟩
theorem i_rd_endAlso_21 : fe M_rd_endAlso 21 (.getfield 31) 3 24 := ⟨by decide +kernel, rfl⟩
theorem i_rd_endAlso_24 : fe M_rd_endAlso 24 (.aload_n 1) 1 25 := ⟨by decide +kernel, rfl⟩
theorem i_rd_endAlso_25 : fe M_rd_endAlso 25 (.invokevirtual 95) 3 28 := ⟨by decide +kernel, rfl⟩
theorem i_rd_endAlso_28 : fe M_rd_endAlso 28 (.iconst 0) 1 29 := ⟨by decide +kernel, rfl⟩
theorem i_rd_endAlso_29 : fe M_rd_endAlso 29 (.istore_n 3) 1 30 := ⟨by decide +kernel, rfl⟩
theorem i_rd_endAlso_30 : fe M_rd_endAlso 30 (.iload_n 3) 1 31 := ⟨by decide +kernel, rfl⟩
theorem i_rd_endAlso_31 : fe M_rd_endAlso 31 (.aload_n 2) 1 32 := ⟨by decide +kernel, rfl⟩
theorem i_rd_endAlso_32 : fe M_rd_endAlso 32 (.invokevirtual 91) 3 35 := ⟨by decide +kernel, rfl⟩
theorem i_rd_endAlso_35 : fb M_rd_endAlso 35 (.if_icmp .ge) 55 38 := ⟨20, by decide +kernel, by decide, rfl⟩
theorem i_rd_endAlso_38 : fe M_rd_endAlso 38 (.aload_n 0) 1 39 := ⟨by decide +kernel, rfl⟩
theorem i_rd_endAlso_39 : fe M_rd_endAlso 39 (.getfield 31) 3 42 := ⟨by decide +kernel, rfl⟩
theorem i_rd_endAlso_42 : fe M_rd_endAlso 42 (.aload_n 2) 1 43 := ⟨by decide +kernel, rfl⟩
theorem i_rd_endAlso_43 : fe M_rd_endAlso 43 (.iload_n 3) 1 44 := ⟨by decide +kernel, rfl⟩
theorem i_rd_endAlso_44 : fe M_rd_endAlso 44 (.aload_n 2) 1 45 := ⟨by decide +kernel, rfl⟩
theorem i_rd_endAlso_45 : fe M_rd_endAlso 45 (.iload_n 3) 1 46 := ⟨by decide +kernel, rfl⟩
theorem i_rd_endAlso_46 : fe M_rd_endAlso 46 (.invokevirtual 98) 3 49 := ⟨by decide +kernel, rfl⟩
theorem i_rd_endAlso_49 : fe M_rd_endAlso 49 (.iinc 3 1) 3 52 := ⟨by decide +kernel, rfl⟩
theorem i_rd_endAlso_52 : fb M_rd_endAlso 52 .goto 30 55 := ⟨-22, by decide +kernel, by decide, rfl⟩
theorem i_rd_endAlso_55 : fe M_rd_endAlso 55 (.aload_n 0) 1 56 := ⟨by decide +kernel, rfl⟩
theorem i_rd_endAlso_56 : fe M_rd_endAlso 56 (.aload_n 1) 1 57 := ⟨by decide +kernel, rfl⟩
theorem i_rd_endAlso_57 : fe M_rd_endAlso 57 (.invokevirtual 102) 3 60 := ⟨by decide +kernel, rfl⟩
theorem i_rd_endAlso_60 : fe M_rd_endAlso 60 (.aload_n 2) 1 61 := ⟨by decide +kernel, rfl⟩
theorem i_rd_endAlso_61 : fe M_rd_endAlso 61 (.invokevirtual 88) 3 64 := ⟨by decide +kernel, rfl⟩
theorem i_rd_endAlso_64 : fe M_rd_endAlso 64 .return_ 1 65 := ⟨by decide +kernel, rfl⟩
theorem i_rd_keepWork_0 : fe M_rd_keepWork 0 (.aload_n 0) 1 1 := ⟨by decide +kernel, rfl⟩
theorem i_rd_keepWork_1 : fe M_rd_keepWork 1 (.getfield 31) 3 4 := ⟨by decide +kernel, rfl⟩
theorem i_rd_keepWork_4 : fe M_rd_keepWork 4 (.invokevirtual 91) 3 7 := ⟨by decide +kernel, rfl⟩
theorem i_rd_keepWork_7 : fe M_rd_keepWork 7 (.bipush 20) 2 9 := ⟨by decide +kernel, rfl⟩
theorem i_rd_keepWork_9 : fb M_rd_keepWork 9 (.if_icmp .le) 17 12 := ⟨8, by decide +kernel, by decide, rfl⟩
theorem i_rd_keepWork_12 : fe M_rd_keepWork 12 (.aload_n 0) 1 13 := ⟨by decide +kernel, rfl⟩
theorem i_rd_keepWork_13 : fe M_rd_keepWork 13 (.iconst 1) 1 14 := ⟨by decide +kernel, rfl⟩
theorem i_rd_keepWork_14 : fe M_rd_keepWork 14 (.putfield 47) 3 17 := ⟨by decide +kernel, rfl⟩
theorem i_rd_keepWork_17 : fe M_rd_keepWork 17 (.aload_n 1) 1 18 := ⟨by decide +kernel, rfl⟩
theorem i_rd_keepWork_18 : fe M_rd_keepWork 18 (.aload_n 0) 1 19 := ⟨by decide +kernel, rfl⟩
theorem i_rd_keepWork_19 : fe M_rd_keepWork 19 (.getfield 31) 3 22 := ⟨by decide +kernel, rfl⟩
theorem i_rd_keepWork_22 : fe M_rd_keepWork 22 (.invokevirtual 95) 3 25 := ⟨by decide +kernel, rfl⟩
theorem i_rd_keepWork_25 : fe M_rd_keepWork 25 .return_ 1 26 := ⟨by decide +kernel, rfl⟩
theorem i_rv_init_0 : fe M_rv_init 0 (.aload_n 0) 1 1 := ⟨by decide +kernel, rfl⟩
theorem i_rv_init_1 : fe M_rv_init 1 (.invokespecial 3) 3 4 := ⟨by decide +kernel, rfl⟩
theorem i_rv_init_4 : fe M_rv_init 4 (.aload_n 0) 1 5 := ⟨by decide +kernel, rfl⟩
theorem i_rv_init_5 : fe M_rv_init 5 (.bipush 48) 2 7 := ⟨by decide +kernel, rfl⟩
theorem i_rv_init_7 : fe M_rv_init 7 (.newarray .int) 2 9 := ⟨by decide +kernel, rfl⟩
theorem i_rv_init_9 : fe M_rv_init 9 (.putfield 11) 3 12 := ⟨by decide +kernel, rfl⟩
theorem i_rv_init_12 : fe M_rv_init 12 (.aload_n 0) 1 13 := ⟨by decide +kernel, rfl⟩
theorem i_rv_init_13 : fe M_rv_init 13 (.bipush 48) 2 15 := ⟨by decide +kernel, rfl⟩
theorem i_rv_init_15 : fe M_rv_init 15 (.newarray .int) 2 17 := ⟨by decide +kernel, rfl⟩
theorem i_rv_init_17 : fe M_rv_init 17 (.putfield 15) 3 20 := ⟨by decide +kernel, rfl⟩
theorem i_rv_init_20 : fe M_rv_init 20 (.aload_n 0) 1 21 := ⟨by decide +kernel, rfl⟩
theorem i_rv_init_21 : fe M_rv_init 21 (.bipush 48) 2 23 := ⟨by decide +kernel, rfl⟩
theorem i_rv_init_23 : fe M_rv_init 23 (.newarray .int) 2 25 := ⟨by decide +kernel, rfl⟩
theorem i_rv_init_25 : fe M_rv_init 25 (.putfield 18) 3 28 := ⟨by decide +kernel, rfl⟩
theorem i_rv_init_28 : fe M_rv_init 28 (.aload_n 0) 1 29 := ⟨by decide +kernel, rfl⟩
theorem i_rv_init_29 : fe M_rv_init 29 (.bipush 48) 2 31 := ⟨by decide +kernel, rfl⟩
theorem i_rv_init_31 : fe M_rv_init 31 (.newarray .int) 2 33 := ⟨by decide +kernel, rfl⟩
theorem i_rv_init_33 : fe M_rv_init 33 (.putfield 21) 3 36 := ⟨by decide +kernel, rfl⟩
theorem i_rv_init_36 : fe M_rv_init 36 (.aload_n 0) 1 37 := ⟨by decide +kernel, rfl⟩
theorem i_rv_init_37 : fe M_rv_init 37 (.bipush 48) 2 39 := ⟨by decide +kernel, rfl⟩
theorem i_rv_init_39 : fe M_rv_init 39 (.newarray .int) 2 41 := ⟨by decide +kernel, rfl⟩
theorem i_rv_init_41 : fe M_rv_init 41 (.putfield 24) 3 44 := ⟨by decide +kernel, rfl⟩
theorem i_rv_init_44 : fe M_rv_init 44 (.aload_n 0) 1 45 := ⟨by decide +kernel, rfl⟩
theorem i_rv_init_45 : fe M_rv_init 45 (.iconst 0) 1 46 := ⟨by decide +kernel, rfl⟩
theorem i_rv_init_46 : fe M_rv_init 46 (.putfield 27) 3 49 := ⟨by decide +kernel, rfl⟩
theorem i_rv_init_49 : fe M_rv_init 49 .return_ 1 50 := ⟨by decide +kernel, rfl⟩
theorem i_rv_walk_0 : fe M_rv_walk 0 (.aload_n 0) 1 1 := ⟨by decide +kernel, rfl⟩
theorem i_rv_walk_1 : fe M_rv_walk 1 (.iconst 0) 1 2 := ⟨by decide +kernel, rfl⟩
theorem i_rv_walk_2 : fe M_rv_walk 2 (.putfield 27) 3 5 := ⟨by decide +kernel, rfl⟩
theorem i_rv_walk_5 : fe M_rv_walk 5 (.aload_n 0) 1 6 := ⟨by decide +kernel, rfl⟩
theorem i_rv_walk_6 : fe M_rv_walk 6 (.iload_n 2) 1 7 := ⟨by decide +kernel, rfl⟩
theorem i_rv_walk_7 : fe M_rv_walk 7 (.iload_n 3) 1 8 := ⟨by decide +kernel, rfl⟩
theorem i_rv_walk_8 : fe M_rv_walk 8 (.iconst (-1)) 1 9 := ⟨by decide +kernel, rfl⟩
theorem i_rv_walk_9 : fe M_rv_walk 9 (.invokevirtual 31) 3 12 := ⟨by decide +kernel, rfl⟩
theorem i_rv_walk_12 : fe M_rv_walk 12 (.iconst 0) 1 13 := ⟨by decide +kernel, rfl⟩
theorem i_rv_walk_13 : fe M_rv_walk 13 (.istore 4) 2 15 := ⟨by decide +kernel, rfl⟩
theorem i_rv_walk_15 : fe M_rv_walk 15 (.iload 4) 2 17 := ⟨by decide +kernel, rfl⟩
theorem i_rv_walk_17 : fe M_rv_walk 17 (.bipush 48) 2 19 := ⟨by decide +kernel, rfl⟩
theorem i_rv_walk_19 : fb M_rv_walk 19 (.if_icmp .ge) 104 22 := ⟨85, by decide +kernel, by decide, rfl⟩
theorem i_rv_walk_22 : fe M_rv_walk 22 (.iload 4) 2 24 := ⟨by decide +kernel, rfl⟩
theorem i_rv_walk_24 : fe M_rv_walk 24 (.aload_n 0) 1 25 := ⟨by decide +kernel, rfl⟩
theorem i_rv_walk_25 : fe M_rv_walk 25 (.getfield 27) 3 28 := ⟨by decide +kernel, rfl⟩
theorem i_rv_walk_28 : fb M_rv_walk 28 (.if_icmp .ge) 104 31 := ⟨76, by decide +kernel, by decide, rfl⟩
theorem i_rv_walk_31 : fe M_rv_walk 31 (.aload_n 1) 1 32 := ⟨by decide +kernel, rfl⟩
theorem i_rv_walk_32 : fe M_rv_walk 32 (.aload_n 0) 1 33 := ⟨by decide +kernel, rfl⟩
theorem i_rv_walk_33 : fe M_rv_walk 33 (.getfield 11) 3 36 := ⟨by decide +kernel, rfl⟩
theorem i_rv_walk_36 : fe M_rv_walk 36 (.iload 4) 2 38 := ⟨by decide +kernel, rfl⟩
theorem i_rv_walk_38 : fe M_rv_walk 38 .iaload 1 39 := ⟨by decide +kernel, rfl⟩
theorem i_rv_walk_39 : fe M_rv_walk 39 .aaload 1 40 := ⟨by decide +kernel, rfl⟩
theorem i_rv_walk_40 : fe M_rv_walk 40 (.astore 5) 2 42 := ⟨by decide +kernel, rfl⟩
theorem i_rv_walk_42 : fe M_rv_walk 42 (.iconst 0) 1 43 := ⟨by decide +kernel, rfl⟩
theorem i_rv_walk_43 : fe M_rv_walk 43 (.istore 6) 2 45 := ⟨by decide +kernel, rfl⟩
theorem i_rv_walk_45 : fe M_rv_walk 45 (.aload 5) 2 47 := ⟨by decide +kernel, rfl⟩
theorem i_rv_walk_47 : fb M_rv_walk 47 .ifnull 98 50 := ⟨51, by decide +kernel, by decide, rfl⟩
theorem i_rv_walk_50 : fe M_rv_walk 50 (.iload 6) 2 52 := ⟨by decide +kernel, rfl⟩
theorem i_rv_walk_52 : fe M_rv_walk 52 (.aload 5) 2 54 := ⟨by decide +kernel, rfl⟩
theorem i_rv_walk_54 : fe M_rv_walk 54 (.getfield 35) 3 57 := ⟨by decide +kernel, rfl⟩
theorem i_rv_walk_57 : fb M_rv_walk 57 (.if_icmp .ge) 98 60 := ⟨41, by decide +kernel, by decide, rfl⟩
theorem i_rv_walk_60 : fe M_rv_walk 60 (.aload_n 0) 1 61 := ⟨by decide +kernel, rfl⟩
theorem i_rv_walk_61 : fe M_rv_walk 61 (.aload 5) 2 63 := ⟨by decide +kernel, rfl⟩
theorem i_rv_walk_63 : fe M_rv_walk 63 (.getfield 40) 3 66 := ⟨by decide +kernel, rfl⟩
theorem i_rv_walk_66 : fe M_rv_walk 66 (.iload 6) 2 68 := ⟨by decide +kernel, rfl⟩
theorem i_rv_walk_68 : fe M_rv_walk 68 .iaload 1 69 := ⟨by decide +kernel, rfl⟩
theorem i_rv_walk_69 : fe M_rv_walk 69 (.aload_n 0) 1 70 := ⟨by decide +kernel, rfl⟩
theorem i_rv_walk_70 : fe M_rv_walk 70 (.getfield 15) 3 73 := ⟨by decide +kernel, rfl⟩
theorem i_rv_walk_73 : fe M_rv_walk 73 (.iload 4) 2 75 := ⟨by decide +kernel, rfl⟩
theorem i_rv_walk_75 : fe M_rv_walk 75 .iaload 1 76 := ⟨by decide +kernel, rfl⟩
theorem i_rv_walk_76 : fe M_rv_walk 76 (.aload 5) 2 78 := ⟨by decide +kernel, rfl⟩
theorem i_rv_walk_78 : fe M_rv_walk 78 (.getfield 43) 3 81 := ⟨by decide +kernel, rfl⟩
theorem i_rv_walk_81 : fe M_rv_walk 81 (.iload 6) 2 83 := ⟨by decide +kernel, rfl⟩
theorem i_rv_walk_83 : fe M_rv_walk 83 .iaload 1 84 := ⟨by decide +kernel, rfl⟩
theorem i_rv_walk_84 : fe M_rv_walk 84 (.invokestatic 46) 3 87 := ⟨by decide +kernel, rfl⟩
theorem i_rv_walk_87 : fe M_rv_walk 87 (.iload 4) 2 89 := ⟨by decide +kernel, rfl⟩
theorem i_rv_walk_89 : fe M_rv_walk 89 (.invokevirtual 31) 3 92 := ⟨by decide +kernel, rfl⟩
theorem i_rv_walk_92 : fe M_rv_walk 92 (.iinc 6 1) 3 95 := ⟨by decide +kernel, rfl⟩
theorem i_rv_walk_95 : fb M_rv_walk 95 .goto 45 98 := ⟨-50, by decide +kernel, by decide, rfl⟩
theorem i_rv_walk_98 : fe M_rv_walk 98 (.iinc 4 1) 3 101 := ⟨by decide +kernel, rfl⟩
theorem i_rv_walk_101 : fb M_rv_walk 101 .goto 15 104 := ⟨-86, by decide +kernel, by decide, rfl⟩
theorem i_rv_walk_104 : fe M_rv_walk 104 .return_ 1 105 := ⟨by decide +kernel, rfl⟩
theorem i_rv_addOnce_0 : fe M_rv_addOnce 0 (.iconst 0) 1 1 := ⟨by decide +kernel, rfl⟩
theorem i_rv_addOnce_1 : fe M_rv_addOnce 1 (.istore 4) 2 3 := ⟨by decide +kernel, rfl⟩
theorem i_rv_addOnce_3 : fe M_rv_addOnce 3 (.iload 4) 2 5 := ⟨by decide +kernel, rfl⟩
theorem i_rv_addOnce_5 : fe M_rv_addOnce 5 (.aload_n 0) 1 6 := ⟨by decide +kernel, rfl⟩
theorem i_rv_addOnce_6 : fe M_rv_addOnce 6 (.getfield 27) 3 9 := ⟨by decide +kernel, rfl⟩
theorem i_rv_addOnce_9 : fb M_rv_addOnce 9 (.if_icmp .ge) 41 12 := ⟨32, by decide +kernel, by decide, rfl⟩
theorem i_rv_addOnce_12 : fe M_rv_addOnce 12 (.aload_n 0) 1 13 := ⟨by decide +kernel, rfl⟩
theorem i_rv_addOnce_13 : fe M_rv_addOnce 13 (.getfield 11) 3 16 := ⟨by decide +kernel, rfl⟩
theorem i_rv_addOnce_16 : fe M_rv_addOnce 16 (.iload 4) 2 18 := ⟨by decide +kernel, rfl⟩
theorem i_rv_addOnce_18 : fe M_rv_addOnce 18 .iaload 1 19 := ⟨by decide +kernel, rfl⟩
theorem i_rv_addOnce_19 : fe M_rv_addOnce 19 (.iload_n 1) 1 20 := ⟨by decide +kernel, rfl⟩
theorem i_rv_addOnce_20 : fb M_rv_addOnce 20 (.if_icmp .ne) 35 23 := ⟨15, by decide +kernel, by decide, rfl⟩
theorem i_rv_addOnce_23 : fe M_rv_addOnce 23 (.aload_n 0) 1 24 := ⟨by decide +kernel, rfl⟩
theorem i_rv_addOnce_24 : fe M_rv_addOnce 24 (.getfield 15) 3 27 := ⟨by decide +kernel, rfl⟩
theorem i_rv_addOnce_27 : fe M_rv_addOnce 27 (.iload 4) 2 29 := ⟨by decide +kernel, rfl⟩
theorem i_rv_addOnce_29 : fe M_rv_addOnce 29 .iaload 1 30 := ⟨by decide +kernel, rfl⟩
theorem i_rv_addOnce_30 : fe M_rv_addOnce 30 (.iload_n 2) 1 31 := ⟨by decide +kernel, rfl⟩
theorem i_rv_addOnce_31 : fb M_rv_addOnce 31 (.if_icmp .ne) 35 34 := ⟨4, by decide +kernel, by decide, rfl⟩
theorem i_rv_addOnce_34 : fe M_rv_addOnce 34 .return_ 1 35 := ⟨by decide +kernel, rfl⟩
theorem i_rv_addOnce_35 : fe M_rv_addOnce 35 (.iinc 4 1) 3 38 := ⟨by decide +kernel, rfl⟩
theorem i_rv_addOnce_38 : fb M_rv_addOnce 38 .goto 3 41 := ⟨-35, by decide +kernel, by decide, rfl⟩
theorem i_rv_addOnce_41 : fe M_rv_addOnce 41 (.aload_n 0) 1 42 := ⟨by decide +kernel, rfl⟩
theorem i_rv_addOnce_42 : fe M_rv_addOnce 42 (.getfield 27) 3 45 := ⟨by decide +kernel, rfl⟩
theorem i_rv_addOnce_45 : fe M_rv_addOnce 45 (.bipush 48) 2 47 := ⟨by decide +kernel, rfl⟩
theorem i_rv_addOnce_47 : fb M_rv_addOnce 47 (.if_icmp .ge) 90 50 := ⟨43, by decide +kernel, by decide, rfl⟩
theorem i_rv_addOnce_50 : fe M_rv_addOnce 50 (.aload_n 0) 1 51 := ⟨by decide +kernel, rfl⟩
theorem i_rv_addOnce_51 : fe M_rv_addOnce 51 (.getfield 11) 3 54 := ⟨by decide +kernel, rfl⟩
theorem i_rv_addOnce_54 : fe M_rv_addOnce 54 (.aload_n 0) 1 55 := ⟨by decide +kernel, rfl⟩
theorem i_rv_addOnce_55 : fe M_rv_addOnce 55 (.getfield 27) 3 58 := ⟨by decide +kernel, rfl⟩
theorem i_rv_addOnce_58 : fe M_rv_addOnce 58 (.iload_n 1) 1 59 := ⟨by decide +kernel, rfl⟩
theorem i_rv_addOnce_59 : fe M_rv_addOnce 59 .iastore 1 60 := ⟨by decide +kernel, rfl⟩
theorem i_rv_addOnce_60 : fe M_rv_addOnce 60 (.aload_n 0) 1 61 := ⟨by decide +kernel, rfl⟩
theorem i_rv_addOnce_61 : fe M_rv_addOnce 61 (.getfield 15) 3 64 := ⟨by decide +kernel, rfl⟩
theorem i_rv_addOnce_64 : fe M_rv_addOnce 64 (.aload_n 0) 1 65 := ⟨by decide +kernel, rfl⟩
theorem i_rv_addOnce_65 : fe M_rv_addOnce 65 (.getfield 27) 3 68 := ⟨by decide +kernel, rfl⟩
theorem i_rv_addOnce_68 : fe M_rv_addOnce 68 (.iload_n 2) 1 69 := ⟨by decide +kernel, rfl⟩
theorem i_rv_addOnce_69 : fe M_rv_addOnce 69 .iastore 1 70 := ⟨by decide +kernel, rfl⟩
theorem i_rv_addOnce_70 : fe M_rv_addOnce 70 (.aload_n 0) 1 71 := ⟨by decide +kernel, rfl⟩
theorem i_rv_addOnce_71 : fe M_rv_addOnce 71 (.getfield 24) 3 74 := ⟨by decide +kernel, rfl⟩
theorem i_rv_addOnce_74 : fe M_rv_addOnce 74 (.aload_n 0) 1 75 := ⟨by decide +kernel, rfl⟩
theorem i_rv_addOnce_75 : fe M_rv_addOnce 75 (.getfield 27) 3 78 := ⟨by decide +kernel, rfl⟩
theorem i_rv_addOnce_78 : fe M_rv_addOnce 78 (.iload_n 3) 1 79 := ⟨by decide +kernel, rfl⟩
theorem i_rv_addOnce_79 : fe M_rv_addOnce 79 .iastore 1 80 := ⟨by decide +kernel, rfl⟩
theorem i_rv_addOnce_80 : fe M_rv_addOnce 80 (.aload_n 0) 1 81 := ⟨by decide +kernel, rfl⟩
theorem i_rv_addOnce_81 : fe M_rv_addOnce 81 .dup 1 82 := ⟨by decide +kernel, rfl⟩
theorem i_rv_addOnce_82 : fe M_rv_addOnce 82 (.getfield 27) 3 85 := ⟨by decide +kernel, rfl⟩
theorem i_rv_addOnce_85 : fe M_rv_addOnce 85 (.iconst 1) 1 86 := ⟨by decide +kernel, rfl⟩
theorem i_rv_addOnce_86 : fe M_rv_addOnce 86 .iadd 1 87 := ⟨by decide +kernel, rfl⟩
theorem i_rv_addOnce_87 : fe M_rv_addOnce 87 (.putfield 27) 3 90 := ⟨by decide +kernel, rfl⟩
theorem i_rv_addOnce_90 : fe M_rv_addOnce 90 .return_ 1 91 := ⟨by decide +kernel, rfl⟩
theorem i_rv_judge_0 : fe M_rv_judge 0 (.iconst 0) 1 1 := ⟨by decide +kernel, rfl⟩
theorem i_rv_judge_1 : fe M_rv_judge 1 (.istore 4) 2 3 := ⟨by decide +kernel, rfl⟩
theorem i_rv_judge_3 : fe M_rv_judge 3 (.iconst 0) 1 4 := ⟨by decide +kernel, rfl⟩
theorem i_rv_judge_4 : fe M_rv_judge 4 (.istore 5) 2 6 := ⟨by decide +kernel, rfl⟩
theorem i_rv_judge_6 : fe M_rv_judge 6 (.iload 5) 2 8 := ⟨by decide +kernel, rfl⟩
theorem i_rv_judge_8 : fe M_rv_judge 8 (.aload_n 0) 1 9 := ⟨by decide +kernel, rfl⟩
theorem i_rv_judge_9 : fe M_rv_judge 9 (.getfield 27) 3 12 := ⟨by decide +kernel, rfl⟩
theorem i_rv_judge_12 : fb M_rv_judge 12 (.if_icmp .ge) 88 15 := ⟨76, by decide +kernel, by decide, rfl⟩
theorem i_rv_judge_15 : fe M_rv_judge 15 (.aload_n 0) 1 16 := ⟨by decide +kernel, rfl⟩
theorem i_rv_judge_16 : fe M_rv_judge 16 (.getfield 18) 3 19 := ⟨by decide +kernel, rfl⟩
theorem i_rv_judge_19 : fe M_rv_judge 19 (.iload 5) 2 21 := ⟨by decide +kernel, rfl⟩
theorem i_rv_judge_21 : fe M_rv_judge 21 (.iconst 0) 1 22 := ⟨by decide +kernel, rfl⟩
theorem i_rv_judge_22 : fe M_rv_judge 22 .iastore 1 23 := ⟨by decide +kernel, rfl⟩
theorem i_rv_judge_23 : fe M_rv_judge 23 (.aload_n 0) 1 24 := ⟨by decide +kernel, rfl⟩
theorem i_rv_judge_24 : fe M_rv_judge 24 (.getfield 21) 3 27 := ⟨by decide +kernel, rfl⟩
theorem i_rv_judge_27 : fe M_rv_judge 27 (.iload 5) 2 29 := ⟨by decide +kernel, rfl⟩
theorem i_rv_judge_29 : fe M_rv_judge 29 (.iconst 0) 1 30 := ⟨by decide +kernel, rfl⟩
theorem i_rv_judge_30 : fe M_rv_judge 30 .iastore 1 31 := ⟨by decide +kernel, rfl⟩
theorem i_rv_judge_31 : fe M_rv_judge 31 (.aload_n 1) 1 32 := ⟨by decide +kernel, rfl⟩
theorem i_rv_judge_32 : fe M_rv_judge 32 (.aload_n 0) 1 33 := ⟨by decide +kernel, rfl⟩
theorem i_rv_judge_33 : fe M_rv_judge 33 (.getfield 11) 3 36 := ⟨by decide +kernel, rfl⟩
theorem i_rv_judge_36 : fe M_rv_judge 36 (.iload 5) 2 38 := ⟨by decide +kernel, rfl⟩
theorem i_rv_judge_38 : fe M_rv_judge 38 .iaload 1 39 := ⟨by decide +kernel, rfl⟩
theorem i_rv_judge_39 : fe M_rv_judge 39 .aaload 1 40 := ⟨by decide +kernel, rfl⟩
theorem i_rv_judge_40 : fe M_rv_judge 40 (.astore 6) 2 42 := ⟨by decide +kernel, rfl⟩
theorem i_rv_judge_42 : fe M_rv_judge 42 (.aload 6) 2 44 := ⟨by decide +kernel, rfl⟩
theorem i_rv_judge_44 : fb M_rv_judge 44 .ifnull 68 47 := ⟨24, by decide +kernel, by decide, rfl⟩
theorem i_rv_judge_47 : fe M_rv_judge 47 (.aload 6) 2 49 := ⟨by decide +kernel, rfl⟩
theorem i_rv_judge_49 : fe M_rv_judge 49 (.getfield 52) 3 52 := ⟨by decide +kernel, rfl⟩
theorem i_rv_judge_52 : fe M_rv_judge 52 (.invokevirtual 56) 3 55 := ⟨by decide +kernel, rfl⟩
theorem i_rv_judge_55 : fb M_rv_judge 55 (.ifCond .le) 68 58 := ⟨13, by decide +kernel, by decide, rfl⟩
theorem i_rv_judge_58 : fe M_rv_judge 58 (.aload_n 0) 1 59 := ⟨by decide +kernel, rfl⟩
theorem i_rv_judge_59 : fe M_rv_judge 59 (.iload 5) 2 61 := ⟨by decide +kernel, rfl⟩
theorem i_rv_judge_61 : fe M_rv_judge 61 (.aload 6) 2 63 := ⟨by decide +kernel, rfl⟩
theorem i_rv_judge_63 : fe M_rv_judge 63 (.aload_n 2) 1 64 := ⟨by decide +kernel, rfl⟩
theorem i_rv_judge_64 : fe M_rv_judge 64 (.iload_n 3) 1 65 := ⟨by decide +kernel, rfl⟩
theorem i_rv_judge_65 : fe M_rv_judge 65 (.invokevirtual 62) 3 68 := ⟨by decide +kernel, rfl⟩
theorem i_rv_judge_68 : fe M_rv_judge 68 (.aload_n 0) 1 69 := ⟨by decide +kernel, rfl⟩
theorem i_rv_judge_69 : fe M_rv_judge 69 (.getfield 18) 3 72 := ⟨by decide +kernel, rfl⟩
theorem i_rv_judge_72 : fe M_rv_judge 72 (.iload 5) 2 74 := ⟨by decide +kernel, rfl⟩
theorem i_rv_judge_74 : fe M_rv_judge 74 .iaload 1 75 := ⟨by decide +kernel, rfl⟩
theorem i_rv_judge_75 : fe M_rv_judge 75 (.iconst 2) 1 76 := ⟨by decide +kernel, rfl⟩
theorem i_rv_judge_76 : fb M_rv_judge 76 (.if_icmp .ne) 82 79 := ⟨6, by decide +kernel, by decide, rfl⟩
theorem i_rv_judge_79 : fe M_rv_judge 79 (.iinc 4 1) 3 82 := ⟨by decide +kernel, rfl⟩
theorem i_rv_judge_82 : fe M_rv_judge 82 (.iinc 5 1) 3 85 := ⟨by decide +kernel, rfl⟩
theorem i_rv_judge_85 : fb M_rv_judge 85 .goto 6 88 := ⟨-79, by decide +kernel, by decide, rfl⟩
theorem i_rv_judge_88 : fe M_rv_judge 88 (.iload 4) 2 90 := ⟨by decide +kernel, rfl⟩
theorem i_rv_judge_90 : fe M_rv_judge 90 .ireturn 1 91 := ⟨by decide +kernel, rfl⟩
theorem i_rv_judgeOne_0 : fe M_rv_judgeOne 0 (.aload_n 3) 1 1 := ⟨by decide +kernel, rfl⟩
theorem i_rv_judgeOne_1 : fe M_rv_judgeOne 1 (.aload_n 2) 1 2 := ⟨by decide +kernel, rfl⟩
theorem i_rv_judgeOne_2 : fe M_rv_judgeOne 2 (.getfield 52) 3 5 := ⟨by decide +kernel, rfl⟩
theorem i_rv_judgeOne_5 : fe M_rv_judgeOne 5 (.aload_n 0) 1 6 := ⟨by decide +kernel, rfl⟩
theorem i_rv_judgeOne_6 : fe M_rv_judgeOne 6 (.getfield 15) 3 9 := ⟨by decide +kernel, rfl⟩
theorem i_rv_judgeOne_9 : fe M_rv_judgeOne 9 (.iload_n 1) 1 10 := ⟨by decide +kernel, rfl⟩
theorem i_rv_judgeOne_10 : fe M_rv_judgeOne 10 .iaload 1 11 := ⟨by decide +kernel, rfl⟩
theorem i_rv_judgeOne_11 : fe M_rv_judgeOne 11 (.invokevirtual 66) 3 14 := ⟨by decide +kernel, rfl⟩
theorem i_rv_judgeOne_14 : fe M_rv_judgeOne 14 (.istore 5) 2 16 := ⟨by decide +kernel, rfl⟩
theorem i_rv_judgeOne_16 : fe M_rv_judgeOne 16 (.iload 5) 2 18 := ⟨by decide +kernel, rfl⟩
theorem i_rv_judgeOne_18 : fe M_rv_judgeOne 18 (.iconst (-1)) 1 19 := ⟨by decide +kernel, rfl⟩
theorem i_rv_judgeOne_19 : fb M_rv_judgeOne 19 (.if_icmp .ne) 43 22 := ⟨24, by decide +kernel, by decide, rfl⟩
theorem i_rv_judgeOne_22 : fe M_rv_judgeOne 22 (.aload_n 0) 1 23 := ⟨by decide +kernel, rfl⟩
theorem i_rv_judgeOne_23 : fe M_rv_judgeOne 23 (.getfield 18) 3 26 := ⟨by decide +kernel, rfl⟩
theorem i_rv_judgeOne_26 : fe M_rv_judgeOne 26 (.iload_n 1) 1 27 := ⟨by decide +kernel, rfl⟩
theorem i_rv_judgeOne_27 : fe M_rv_judgeOne 27 (.iload 4) 2 29 := ⟨by decide +kernel, rfl⟩
theorem i_rv_judgeOne_29 : fe M_rv_judgeOne 29 (.aload_n 2) 1 30 := ⟨by decide +kernel, rfl⟩
theorem i_rv_judgeOne_30 : fe M_rv_judgeOne 30 (.getfield 72) 3 33 := ⟨by decide +kernel, rfl⟩
theorem i_rv_judgeOne_33 : fb M_rv_judgeOne 33 (.if_icmp .ge) 40 36 := ⟨7, by decide +kernel, by decide, rfl⟩
theorem i_rv_judgeOne_36 : fe M_rv_judgeOne 36 (.iconst 3) 1 37 := ⟨by decide +kernel, rfl⟩
theorem i_rv_judgeOne_37 : fb M_rv_judgeOne 37 .goto 41 40 := ⟨4, by decide +kernel, by decide, rfl⟩
theorem i_rv_judgeOne_40 : fe M_rv_judgeOne 40 (.iconst 2) 1 41 := ⟨by decide +kernel, rfl⟩
theorem i_rv_judgeOne_41 : fe M_rv_judgeOne 41 .iastore 1 42 := ⟨by decide +kernel, rfl⟩
theorem i_rv_judgeOne_42 : fe M_rv_judgeOne 42 .return_ 1 43 := ⟨by decide +kernel, rfl⟩
theorem i_rv_judgeOne_43 : fe M_rv_judgeOne 43 (.aload_n 0) 1 44 := ⟨by decide +kernel, rfl⟩
theorem i_rv_judgeOne_44 : fe M_rv_judgeOne 44 (.getfield 21) 3 47 := ⟨by decide +kernel, rfl⟩
theorem i_rv_judgeOne_47 : fe M_rv_judgeOne 47 (.iload_n 1) 1 48 := ⟨by decide +kernel, rfl⟩
theorem i_rv_judgeOne_48 : fe M_rv_judgeOne 48 (.aload_n 3) 1 49 := ⟨by decide +kernel, rfl⟩
theorem i_rv_judgeOne_49 : fe M_rv_judgeOne 49 (.aload_n 2) 1 50 := ⟨by decide +kernel, rfl⟩
theorem i_rv_judgeOne_50 : fe M_rv_judgeOne 50 (.getfield 52) 3 53 := ⟨by decide +kernel, rfl⟩
theorem i_rv_judgeOne_53 : fe M_rv_judgeOne 53 (.iload 5) 2 55 := ⟨by decide +kernel, rfl⟩
theorem i_rv_judgeOne_55 : fe M_rv_judgeOne 55 (.aload_n 0) 1 56 := ⟨by decide +kernel, rfl⟩
theorem i_rv_judgeOne_56 : fe M_rv_judgeOne 56 (.getfield 15) 3 59 := ⟨by decide +kernel, rfl⟩
theorem i_rv_judgeOne_59 : fe M_rv_judgeOne 59 (.iload_n 1) 1 60 := ⟨by decide +kernel, rfl⟩
theorem i_rv_judgeOne_60 : fe M_rv_judgeOne 60 .iaload 1 61 := ⟨by decide +kernel, rfl⟩
theorem i_rv_judgeOne_61 : fe M_rv_judgeOne 61 (.invokevirtual 75) 3 64 := ⟨by decide +kernel, rfl⟩
theorem i_rv_judgeOne_64 : fe M_rv_judgeOne 64 .iastore 1 65 := ⟨by decide +kernel, rfl⟩
theorem i_rv_judgeOne_65 : fe M_rv_judgeOne 65 (.aload_n 0) 1 66 := ⟨by decide +kernel, rfl⟩
theorem i_rv_judgeOne_66 : fe M_rv_judgeOne 66 (.getfield 18) 3 69 := ⟨by decide +kernel, rfl⟩
theorem i_rv_judgeOne_69 : fe M_rv_judgeOne 69 (.iload_n 1) 1 70 := ⟨by decide +kernel, rfl⟩
theorem i_rv_judgeOne_70 : fe M_rv_judgeOne 70 (.aload_n 0) 1 71 := ⟨by decide +kernel, rfl⟩
theorem i_rv_judgeOne_71 : fe M_rv_judgeOne 71 (.getfield 21) 3 74 := ⟨by decide +kernel, rfl⟩
theorem i_rv_judgeOne_74 : fe M_rv_judgeOne 74 (.iload_n 1) 1 75 := ⟨by decide +kernel, rfl⟩
theorem i_rv_judgeOne_75 : fe M_rv_judgeOne 75 .iaload 1 76 := ⟨by decide +kernel, rfl⟩
theorem i_rv_judgeOne_76 : fb M_rv_judgeOne 76 (.ifCond .ne) 83 79 := ⟨7, by decide +kernel, by decide, rfl⟩
theorem i_rv_judgeOne_79 : fe M_rv_judgeOne 79 (.iconst 0) 1 80 := ⟨by decide +kernel, rfl⟩
theorem i_rv_judgeOne_80 : fb M_rv_judgeOne 80 .goto 84 83 := ⟨4, by decide +kernel, by decide, rfl⟩
theorem i_rv_judgeOne_83 : fe M_rv_judgeOne 83 (.iconst 1) 1 84 := ⟨by decide +kernel, rfl⟩
theorem i_rv_judgeOne_84 : fe M_rv_judgeOne 84 .iastore 1 85 := ⟨by decide +kernel, rfl⟩
theorem i_rv_judgeOne_85 : fe M_rv_judgeOne 85 .return_ 1 86 := ⟨by decide +kernel, rfl⟩
theorem i_rv_tell_0 : fe M_rv_tell 0 (.iload_n 1) 1 1 := ⟨by decide +kernel, rfl⟩
theorem i_rv_tell_1 : fb M_rv_tell 1 (.ifCond .lt) 12 4 := ⟨11, by decide +kernel, by decide, rfl⟩
theorem i_rv_tell_4 : fe M_rv_tell 4 (.iload_n 1) 1 5 := ⟨by decide +kernel, rfl⟩
theorem i_rv_tell_5 : fe M_rv_tell 5 (.aload_n 0) 1 6 := ⟨by decide +kernel, rfl⟩
theorem i_rv_tell_6 : fe M_rv_tell 6 (.getfield 27) 3 9 := ⟨by decide +kernel, rfl⟩
theorem i_rv_tell_9 : fb M_rv_tell 9 (.if_icmp .lt) 14 12 := ⟨5, by decide +kernel, by decide, rfl⟩
theorem i_rv_tell_12 : fe M_rv_tell 12 (.iconst (-1)) 1 13 := ⟨by decide +kernel, rfl⟩
theorem i_rv_tell_13 : fe M_rv_tell 13 .ireturn 1 14 := ⟨by decide +kernel, rfl⟩
theorem i_rv_tell_14 : fe M_rv_tell 14 (.iload_n 2) 1 15 := ⟨by decide +kernel, rfl⟩
theorem i_rv_tell_15 : decode M_rv_tell.2.1 15 = .ok (.tableswitch 68 0 4 #[33, 40, 47, 54, 61], 33) := by decide +kernel
theorem i_rv_tell_48 : fe M_rv_tell 48 (.aload_n 0) 1 49 := ⟨by decide +kernel, rfl⟩
theorem i_rv_tell_49 : fe M_rv_tell 49 (.getfield 11) 3 52 := ⟨by decide +kernel, rfl⟩
theorem i_rv_tell_52 : fe M_rv_tell 52 (.iload_n 1) 1 53 := ⟨by decide +kernel, rfl⟩
theorem i_rv_tell_53 : fe M_rv_tell 53 .iaload 1 54 := ⟨by decide +kernel, rfl⟩
theorem i_rv_tell_54 : fe M_rv_tell 54 .ireturn 1 55 := ⟨by decide +kernel, rfl⟩
theorem i_rv_tell_55 : fe M_rv_tell 55 (.aload_n 0) 1 56 := ⟨by decide +kernel, rfl⟩
theorem i_rv_tell_56 : fe M_rv_tell 56 (.getfield 15) 3 59 := ⟨by decide +kernel, rfl⟩
theorem i_rv_tell_59 : fe M_rv_tell 59 (.iload_n 1) 1 60 := ⟨by decide +kernel, rfl⟩
theorem i_rv_tell_60 : fe M_rv_tell 60 .iaload 1 61 := ⟨by decide +kernel, rfl⟩
theorem i_rv_tell_61 : fe M_rv_tell 61 .ireturn 1 62 := ⟨by decide +kernel, rfl⟩
theorem i_rv_tell_62 : fe M_rv_tell 62 (.aload_n 0) 1 63 := ⟨by decide +kernel, rfl⟩
theorem i_rv_tell_63 : fe M_rv_tell 63 (.getfield 18) 3 66 := ⟨by decide +kernel, rfl⟩
theorem i_rv_tell_66 : fe M_rv_tell 66 (.iload_n 1) 1 67 := ⟨by decide +kernel, rfl⟩
theorem i_rv_tell_67 : fe M_rv_tell 67 .iaload 1 68 := ⟨by decide +kernel, rfl⟩
theorem i_rv_tell_68 : fe M_rv_tell 68 .ireturn 1 69 := ⟨by decide +kernel, rfl⟩
theorem i_rv_tell_69 : fe M_rv_tell 69 (.aload_n 0) 1 70 := ⟨by decide +kernel, rfl⟩
theorem i_rv_tell_70 : fe M_rv_tell 70 (.getfield 21) 3 73 := ⟨by decide +kernel, rfl⟩
theorem i_rv_tell_73 : fe M_rv_tell 73 (.iload_n 1) 1 74 := ⟨by decide +kernel, rfl⟩
theorem i_rv_tell_74 : fe M_rv_tell 74 .iaload 1 75 := ⟨by decide +kernel, rfl⟩
theorem i_rv_tell_75 : fe M_rv_tell 75 .ireturn 1 76 := ⟨by decide +kernel, rfl⟩
theorem i_rv_tell_76 : fe M_rv_tell 76 (.aload_n 0) 1 77 := ⟨by decide +kernel, rfl⟩
theorem i_rv_tell_77 : fe M_rv_tell 77 (.getfield 24) 3 80 := ⟨by decide +kernel, rfl⟩
theorem i_rv_tell_80 : fe M_rv_tell 80 (.iload_n 1) 1 81 := ⟨by decide +kernel, rfl⟩
theorem i_rv_tell_81 : fe M_rv_tell 81 .iaload 1 82 := ⟨by decide +kernel, rfl⟩
theorem i_rv_tell_82 : fe M_rv_tell 82 .ireturn 1 83 := ⟨by decide +kernel, rfl⟩
theorem i_rv_tell_83 : fe M_rv_tell 83 (.iconst (-1)) 1 84 := ⟨by decide +kernel, rfl⟩
theorem i_rv_tell_84 : fe M_rv_tell 84 .ireturn 1 85 := ⟨by decide +kernel, rfl⟩
theorem i_rv_joinedDuties_0 : fe M_rv_joinedDuties 0 (.iconst 0) 1 1 := ⟨by decide +kernel, rfl⟩
theorem i_rv_joinedDuties_1 : fe M_rv_joinedDuties 1 (.istore_n 1) 1 2 := ⟨by decide +kernel, rfl⟩
theorem i_rv_joinedDuties_2 : fe M_rv_joinedDuties 2 (.iconst 0) 1 3 := ⟨by decide +kernel, rfl⟩
theorem i_rv_joinedDuties_3 : fe M_rv_joinedDuties 3 (.istore_n 2) 1 4 := ⟨by decide +kernel, rfl⟩
theorem i_rv_joinedDuties_4 : fe M_rv_joinedDuties 4 (.iload_n 2) 1 5 := ⟨by decide +kernel, rfl⟩
theorem i_rv_joinedDuties_5 : fe M_rv_joinedDuties 5 (.aload_n 0) 1 6 := ⟨by decide +kernel, rfl⟩
theorem i_rv_joinedDuties_6 : fe M_rv_joinedDuties 6 (.getfield 27) 3 9 := ⟨by decide +kernel, rfl⟩
theorem i_rv_joinedDuties_9 : fb M_rv_joinedDuties 9 (.if_icmp .ge) 27 12 := ⟨18, by decide +kernel, by decide, rfl⟩
theorem i_rv_joinedDuties_12 : fe M_rv_joinedDuties 12 (.iload_n 1) 1 13 := ⟨by decide +kernel, rfl⟩
theorem i_rv_joinedDuties_13 : fe M_rv_joinedDuties 13 (.aload_n 0) 1 14 := ⟨by decide +kernel, rfl⟩
theorem i_rv_joinedDuties_14 : fe M_rv_joinedDuties 14 (.getfield 21) 3 17 := ⟨by decide +kernel, rfl⟩
theorem i_rv_joinedDuties_17 : fe M_rv_joinedDuties 17 (.iload_n 2) 1 18 := ⟨by decide +kernel, rfl⟩
theorem i_rv_joinedDuties_18 : fe M_rv_joinedDuties 18 .iaload 1 19 := ⟨by decide +kernel, rfl⟩
theorem i_rv_joinedDuties_19 : fe M_rv_joinedDuties 19 .ior 1 20 := ⟨by decide +kernel, rfl⟩
theorem i_rv_joinedDuties_20 : fe M_rv_joinedDuties 20 (.istore_n 1) 1 21 := ⟨by decide +kernel, rfl⟩
theorem i_rv_joinedDuties_21 : fe M_rv_joinedDuties 21 (.iinc 2 1) 3 24 := ⟨by decide +kernel, rfl⟩
theorem i_rv_joinedDuties_24 : fb M_rv_joinedDuties 24 .goto 4 27 := ⟨-20, by decide +kernel, by decide, rfl⟩
theorem i_rv_joinedDuties_27 : fe M_rv_joinedDuties 27 (.iload_n 1) 1 28 := ⟨by decide +kernel, rfl⟩
theorem i_rv_joinedDuties_28 : fe M_rv_joinedDuties 28 .ireturn 1 29 := ⟨by decide +kernel, rfl⟩
theorem i_rv_distinctPack_0 : fe M_rv_distinctPack 0 (.iconst 0) 1 1 := ⟨by decide +kernel, rfl⟩
theorem i_rv_distinctPack_1 : fe M_rv_distinctPack 1 (.istore_n 2) 1 2 := ⟨by decide +kernel, rfl⟩
theorem i_rv_distinctPack_2 : fe M_rv_distinctPack 2 (.iconst 0) 1 3 := ⟨by decide +kernel, rfl⟩
theorem i_rv_distinctPack_3 : fe M_rv_distinctPack 3 (.istore_n 3) 1 4 := ⟨by decide +kernel, rfl⟩
theorem i_rv_distinctPack_4 : fe M_rv_distinctPack 4 (.iload_n 3) 1 5 := ⟨by decide +kernel, rfl⟩
theorem i_rv_distinctPack_5 : fe M_rv_distinctPack 5 (.aload_n 0) 1 6 := ⟨by decide +kernel, rfl⟩
theorem i_rv_distinctPack_6 : fe M_rv_distinctPack 6 (.getfield 27) 3 9 := ⟨by decide +kernel, rfl⟩
theorem i_rv_distinctPack_9 : fb M_rv_distinctPack 9 (.if_icmp .ge) 41 12 := ⟨32, by decide +kernel, by decide, rfl⟩
theorem i_rv_distinctPack_12 : fe M_rv_distinctPack 12 (.aload_n 0) 1 13 := ⟨by decide +kernel, rfl⟩
theorem i_rv_distinctPack_13 : fe M_rv_distinctPack 13 (.iload_n 3) 1 14 := ⟨by decide +kernel, rfl⟩
theorem i_rv_distinctPack_14 : fe M_rv_distinctPack 14 (.invokevirtual 79) 3 17 := ⟨by decide +kernel, rfl⟩
theorem i_rv_distinctPack_17 : fb M_rv_distinctPack 17 (.ifCond .eq) 35 20 := ⟨18, by decide +kernel, by decide, rfl⟩
theorem i_rv_distinctPack_20 : fe M_rv_distinctPack 20 (.iload_n 2) 1 21 := ⟨by decide +kernel, rfl⟩
theorem i_rv_distinctPack_21 : fe M_rv_distinctPack 21 (.iload_n 1) 1 22 := ⟨by decide +kernel, rfl⟩
theorem i_rv_distinctPack_22 : fb M_rv_distinctPack 22 (.if_icmp .ne) 32 25 := ⟨10, by decide +kernel, by decide, rfl⟩
theorem i_rv_distinctPack_25 : fe M_rv_distinctPack 25 (.aload_n 0) 1 26 := ⟨by decide +kernel, rfl⟩
theorem i_rv_distinctPack_26 : fe M_rv_distinctPack 26 (.getfield 11) 3 29 := ⟨by decide +kernel, rfl⟩
theorem i_rv_distinctPack_29 : fe M_rv_distinctPack 29 (.iload_n 3) 1 30 := ⟨by decide +kernel, rfl⟩
theorem i_rv_distinctPack_30 : fe M_rv_distinctPack 30 .iaload 1 31 := ⟨by decide +kernel, rfl⟩
theorem i_rv_distinctPack_31 : fe M_rv_distinctPack 31 .ireturn 1 32 := ⟨by decide +kernel, rfl⟩
theorem i_rv_distinctPack_32 : fe M_rv_distinctPack 32 (.iinc 2 1) 3 35 := ⟨by decide +kernel, rfl⟩
theorem i_rv_distinctPack_35 : fe M_rv_distinctPack 35 (.iinc 3 1) 3 38 := ⟨by decide +kernel, rfl⟩
theorem i_rv_distinctPack_38 : fb M_rv_distinctPack 38 .goto 4 41 := ⟨-34, by decide +kernel, by decide, rfl⟩
theorem i_rv_distinctPack_41 : fe M_rv_distinctPack 41 (.iconst (-1)) 1 42 := ⟨by decide +kernel, rfl⟩
theorem i_rv_distinctPack_42 : fe M_rv_distinctPack 42 .ireturn 1 43 := ⟨by decide +kernel, rfl⟩
theorem i_rv_isFirstOfItsPack_0 : fe M_rv_isFirstOfItsPack 0 (.iconst 0) 1 1 := ⟨by decide +kernel, rfl⟩
theorem i_rv_isFirstOfItsPack_1 : fe M_rv_isFirstOfItsPack 1 (.istore_n 2) 1 2 := ⟨by decide +kernel, rfl⟩
theorem i_rv_isFirstOfItsPack_2 : fe M_rv_isFirstOfItsPack 2 (.iload_n 2) 1 3 := ⟨by decide +kernel, rfl⟩
theorem i_rv_isFirstOfItsPack_3 : fe M_rv_isFirstOfItsPack 3 (.iload_n 1) 1 4 := ⟨by decide +kernel, rfl⟩
theorem i_rv_isFirstOfItsPack_4 : fb M_rv_isFirstOfItsPack 4 (.if_icmp .ge) 30 7 := ⟨26, by decide +kernel, by decide, rfl⟩
theorem i_rv_isFirstOfItsPack_7 : fe M_rv_isFirstOfItsPack 7 (.aload_n 0) 1 8 := ⟨by decide +kernel, rfl⟩
theorem i_rv_isFirstOfItsPack_8 : fe M_rv_isFirstOfItsPack 8 (.getfield 11) 3 11 := ⟨by decide +kernel, rfl⟩
theorem i_rv_isFirstOfItsPack_11 : fe M_rv_isFirstOfItsPack 11 (.iload_n 2) 1 12 := ⟨by decide +kernel, rfl⟩
theorem i_rv_isFirstOfItsPack_12 : fe M_rv_isFirstOfItsPack 12 .iaload 1 13 := ⟨by decide +kernel, rfl⟩
theorem i_rv_isFirstOfItsPack_13 : fe M_rv_isFirstOfItsPack 13 (.aload_n 0) 1 14 := ⟨by decide +kernel, rfl⟩
theorem i_rv_isFirstOfItsPack_14 : fe M_rv_isFirstOfItsPack 14 (.getfield 11) 3 17 := ⟨by decide +kernel, rfl⟩
theorem i_rv_isFirstOfItsPack_17 : fe M_rv_isFirstOfItsPack 17 (.iload_n 1) 1 18 := ⟨by decide +kernel, rfl⟩
theorem i_rv_isFirstOfItsPack_18 : fe M_rv_isFirstOfItsPack 18 .iaload 1 19 := ⟨by decide +kernel, rfl⟩
theorem i_rv_isFirstOfItsPack_19 : fb M_rv_isFirstOfItsPack 19 (.if_icmp .ne) 24 22 := ⟨5, by decide +kernel, by decide, rfl⟩
theorem i_rv_isFirstOfItsPack_22 : fe M_rv_isFirstOfItsPack 22 (.iconst 0) 1 23 := ⟨by decide +kernel, rfl⟩
theorem i_rv_isFirstOfItsPack_23 : fe M_rv_isFirstOfItsPack 23 .ireturn 1 24 := ⟨by decide +kernel, rfl⟩
theorem i_rv_isFirstOfItsPack_24 : fe M_rv_isFirstOfItsPack 24 (.iinc 2 1) 3 27 := ⟨by decide +kernel, rfl⟩
theorem i_rv_isFirstOfItsPack_27 : fb M_rv_isFirstOfItsPack 27 .goto 2 30 := ⟨-25, by decide +kernel, by decide, rfl⟩
theorem i_rv_isFirstOfItsPack_30 : fe M_rv_isFirstOfItsPack 30 (.iconst 1) 1 31 := ⟨by decide +kernel, rfl⟩
theorem i_rv_isFirstOfItsPack_31 : fe M_rv_isFirstOfItsPack 31 .ireturn 1 32 := ⟨by decide +kernel, rfl⟩
end
section
theorem i_ru_init_0 : fe M_ru_init 0 (.aload_n 0) 1 1 := ⟨by decide +kernel, rfl⟩
theorem i_ru_init_1 : fe M_ru_init 1 (.invokespecial 3) 3 4 := ⟨by decide +kernel, rfl⟩
theorem i_ru_init_4 : fe M_ru_init 4 (.aload_n 0) 1 5 := ⟨by decide +kernel, rfl⟩
theorem i_ru_init_5 : fe M_ru_init 5 (.bipush 16) 2 7 := ⟨by decide +kernel, rfl⟩
theorem i_ru_init_7 : fe M_ru_init 7 (.newarray .long) 2 9 := ⟨by decide +kernel, rfl⟩
theorem i_ru_init_9 : fe M_ru_init 9 (.putfield 9) 3 12 := ⟨by decide +kernel, rfl⟩
theorem i_ru_init_12 : fe M_ru_init 12 (.aload_n 0) 1 13 := ⟨by decide +kernel, rfl⟩
theorem i_ru_init_13 : fe M_ru_init 13 (.bipush 48) 2 15 := ⟨by decide +kernel, rfl⟩
theorem i_ru_init_15 : fe M_ru_init 15 (.newarray .int) 2 17 := ⟨by decide +kernel, rfl⟩
theorem i_ru_init_17 : fe M_ru_init 17 (.putfield 15) 3 20 := ⟨by decide +kernel, rfl⟩
theorem i_ru_init_20 : fe M_ru_init 20 (.aload_n 0) 1 21 := ⟨by decide +kernel, rfl⟩
theorem i_ru_init_21 : fe M_ru_init 21 (.iconst 3) 1 22 := ⟨by decide +kernel, rfl⟩
theorem i_ru_init_22 : fe M_ru_init 22 (.newarray .int) 2 24 := ⟨by decide +kernel, rfl⟩
theorem i_ru_init_24 : fe M_ru_init 24 (.putfield 19) 3 27 := ⟨by decide +kernel, rfl⟩
theorem i_ru_init_27 : fe M_ru_init 27 (.aload_n 0) 1 28 := ⟨by decide +kernel, rfl⟩
theorem i_ru_init_28 : fe M_ru_init 28 (.iconst 0) 1 29 := ⟨by decide +kernel, rfl⟩
theorem i_ru_init_29 : fe M_ru_init 29 (.putfield 22) 3 32 := ⟨by decide +kernel, rfl⟩
theorem i_ru_init_32 : fe M_ru_init 32 .return_ 1 33 := ⟨by decide +kernel, rfl⟩
theorem i_ru_licenceCount_0 : fe M_ru_licenceCount 0 (.aload_n 0) 1 1 := ⟨by decide +kernel, rfl⟩
theorem i_ru_licenceCount_1 : fe M_ru_licenceCount 1 (.getfield 22) 3 4 := ⟨by decide +kernel, rfl⟩
theorem i_ru_licenceCount_4 : fe M_ru_licenceCount 4 .ireturn 1 5 := ⟨by decide +kernel, rfl⟩
theorem i_ru_addLicence_0 : fe M_ru_addLicence 0 (.aload_n 0) 1 1 := ⟨by decide +kernel, rfl⟩
theorem i_ru_addLicence_1 : fe M_ru_addLicence 1 (.getfield 22) 3 4 := ⟨by decide +kernel, rfl⟩
theorem i_ru_addLicence_4 : fe M_ru_addLicence 4 (.bipush 16) 2 6 := ⟨by decide +kernel, rfl⟩
theorem i_ru_addLicence_6 : fb M_ru_addLicence 6 (.if_icmp .lt) 11 9 := ⟨5, by decide +kernel, by decide, rfl⟩
theorem i_ru_addLicence_9 : fe M_ru_addLicence 9 (.iconst (-1)) 1 10 := ⟨by decide +kernel, rfl⟩
theorem i_ru_addLicence_10 : fe M_ru_addLicence 10 .ireturn 1 11 := ⟨by decide +kernel, rfl⟩
theorem i_ru_addLicence_11 : fe M_ru_addLicence 11 (.aload_n 0) 1 12 := ⟨by decide +kernel, rfl⟩
theorem i_ru_addLicence_12 : fe M_ru_addLicence 12 (.getfield 9) 3 15 := ⟨by decide +kernel, rfl⟩
theorem i_ru_addLicence_15 : fe M_ru_addLicence 15 (.aload_n 0) 1 16 := ⟨by decide +kernel, rfl⟩
theorem i_ru_addLicence_16 : fe M_ru_addLicence 16 (.getfield 22) 3 19 := ⟨by decide +kernel, rfl⟩
theorem i_ru_addLicence_19 : fe M_ru_addLicence 19 (.lload_n 1) 1 20 := ⟨by decide +kernel, rfl⟩
theorem i_ru_addLicence_20 : fe M_ru_addLicence 20 .lastore 1 21 := ⟨by decide +kernel, rfl⟩
theorem i_ru_addLicence_21 : fe M_ru_addLicence 21 (.aload_n 0) 1 22 := ⟨by decide +kernel, rfl⟩
theorem i_ru_addLicence_22 : fe M_ru_addLicence 22 .dup 1 23 := ⟨by decide +kernel, rfl⟩
theorem i_ru_addLicence_23 : fe M_ru_addLicence 23 (.getfield 22) 3 26 := ⟨by decide +kernel, rfl⟩
theorem i_ru_addLicence_26 : fe M_ru_addLicence 26 (.iconst 1) 1 27 := ⟨by decide +kernel, rfl⟩
theorem i_ru_addLicence_27 : fe M_ru_addLicence 27 .iadd 1 28 := ⟨by decide +kernel, rfl⟩
theorem i_ru_addLicence_28 : fe M_ru_addLicence 28 (.putfield 22) 3 31 := ⟨by decide +kernel, rfl⟩
theorem i_ru_addLicence_31 : fe M_ru_addLicence 31 (.aload_n 0) 1 32 := ⟨by decide +kernel, rfl⟩
theorem i_ru_addLicence_32 : fe M_ru_addLicence 32 (.getfield 22) 3 35 := ⟨by decide +kernel, rfl⟩
theorem i_ru_addLicence_35 : fe M_ru_addLicence 35 (.iconst 1) 1 36 := ⟨by decide +kernel, rfl⟩
theorem i_ru_addLicence_36 : fe M_ru_addLicence 36 .isub 1 37 := ⟨by decide +kernel, rfl⟩
theorem i_ru_addLicence_37 : fe M_ru_addLicence 37 .ireturn 1 38 := ⟨by decide +kernel, rfl⟩
theorem i_ru_hasLicence_0 : fe M_ru_hasLicence 0 (.iload_n 1) 1 1 := ⟨by decide +kernel, rfl⟩
theorem i_ru_hasLicence_1 : fb M_ru_hasLicence 1 (.ifCond .lt) 16 4 := ⟨15, by decide +kernel, by decide, rfl⟩
theorem i_ru_hasLicence_4 : fe M_ru_hasLicence 4 (.iload_n 1) 1 5 := ⟨by decide +kernel, rfl⟩
theorem i_ru_hasLicence_5 : fe M_ru_hasLicence 5 (.aload_n 0) 1 6 := ⟨by decide +kernel, rfl⟩
theorem i_ru_hasLicence_6 : fe M_ru_hasLicence 6 (.getfield 22) 3 9 := ⟨by decide +kernel, rfl⟩
theorem i_ru_hasLicence_9 : fb M_ru_hasLicence 9 (.if_icmp .ge) 16 12 := ⟨7, by decide +kernel, by decide, rfl⟩
theorem i_ru_hasLicence_12 : fe M_ru_hasLicence 12 (.iconst 1) 1 13 := ⟨by decide +kernel, rfl⟩
theorem i_ru_hasLicence_13 : fb M_ru_hasLicence 13 .goto 17 16 := ⟨4, by decide +kernel, by decide, rfl⟩
theorem i_ru_hasLicence_16 : fe M_ru_hasLicence 16 (.iconst 0) 1 17 := ⟨by decide +kernel, rfl⟩
theorem i_ru_hasLicence_17 : fe M_ru_hasLicence 17 .ireturn 1 18 := ⟨by decide +kernel, rfl⟩
theorem i_ru_setTerms_0 : fe M_ru_setTerms 0 (.aload_n 0) 1 1 := ⟨by decide +kernel, rfl⟩
theorem i_ru_setTerms_1 : fe M_ru_setTerms 1 (.getfield 15) 3 4 := ⟨by decide +kernel, rfl⟩
theorem i_ru_setTerms_4 : fe M_ru_setTerms 4 (.iload_n 1) 1 5 := ⟨by decide +kernel, rfl⟩
theorem i_ru_setTerms_5 : fe M_ru_setTerms 5 (.iconst 3) 1 6 := ⟨by decide +kernel, rfl⟩
theorem i_ru_setTerms_6 : fe M_ru_setTerms 6 .imul 1 7 := ⟨by decide +kernel, rfl⟩
theorem i_ru_setTerms_7 : fe M_ru_setTerms 7 (.iload_n 2) 1 8 := ⟨by decide +kernel, rfl⟩
theorem i_ru_setTerms_8 : fe M_ru_setTerms 8 .iadd 1 9 := ⟨by decide +kernel, rfl⟩
theorem i_ru_setTerms_9 : fe M_ru_setTerms 9 (.iload_n 3) 1 10 := ⟨by decide +kernel, rfl⟩
theorem i_ru_setTerms_10 : fe M_ru_setTerms 10 .iastore 1 11 := ⟨by decide +kernel, rfl⟩
theorem i_ru_setTerms_11 : fe M_ru_setTerms 11 .return_ 1 12 := ⟨by decide +kernel, rfl⟩
theorem i_ru_setLifted_0 : fe M_ru_setLifted 0 (.iconst 1) 1 1 := ⟨by decide +kernel, rfl⟩
theorem i_ru_setLifted_1 : fe M_ru_setLifted 1 (.iload_n 1) 1 2 := ⟨by decide +kernel, rfl⟩
theorem i_ru_setLifted_2 : fe M_ru_setLifted 2 .ishl 1 3 := ⟨by decide +kernel, rfl⟩
theorem i_ru_setLifted_3 : fe M_ru_setLifted 3 (.istore 4) 2 5 := ⟨by decide +kernel, rfl⟩
theorem i_ru_setLifted_5 : fe M_ru_setLifted 5 (.aload_n 0) 1 6 := ⟨by decide +kernel, rfl⟩
theorem i_ru_setLifted_6 : fe M_ru_setLifted 6 (.getfield 19) 3 9 := ⟨by decide +kernel, rfl⟩
theorem i_ru_setLifted_9 : fe M_ru_setLifted 9 (.iload_n 2) 1 10 := ⟨by decide +kernel, rfl⟩
theorem i_ru_setLifted_10 : fe M_ru_setLifted 10 (.iload_n 3) 1 11 := ⟨by decide +kernel, rfl⟩
theorem i_ru_setLifted_11 : fb M_ru_setLifted 11 (.ifCond .eq) 26 14 := ⟨15, by decide +kernel, by decide, rfl⟩
theorem i_ru_setLifted_14 : fe M_ru_setLifted 14 (.aload_n 0) 1 15 := ⟨by decide +kernel, rfl⟩
theorem i_ru_setLifted_15 : fe M_ru_setLifted 15 (.getfield 19) 3 18 := ⟨by decide +kernel, rfl⟩
theorem i_ru_setLifted_18 : fe M_ru_setLifted 18 (.iload_n 2) 1 19 := ⟨by decide +kernel, rfl⟩
theorem i_ru_setLifted_19 : fe M_ru_setLifted 19 .iaload 1 20 := ⟨by decide +kernel, rfl⟩
theorem i_ru_setLifted_20 : fe M_ru_setLifted 20 (.iload 4) 2 22 := ⟨by decide +kernel, rfl⟩
theorem i_ru_setLifted_22 : fe M_ru_setLifted 22 .ior 1 23 := ⟨by decide +kernel, rfl⟩
theorem i_ru_setLifted_23 : fb M_ru_setLifted 23 .goto 37 26 := ⟨14, by decide +kernel, by decide, rfl⟩
theorem i_ru_setLifted_26 : fe M_ru_setLifted 26 (.aload_n 0) 1 27 := ⟨by decide +kernel, rfl⟩
theorem i_ru_setLifted_27 : fe M_ru_setLifted 27 (.getfield 19) 3 30 := ⟨by decide +kernel, rfl⟩
theorem i_ru_setLifted_30 : fe M_ru_setLifted 30 (.iload_n 2) 1 31 := ⟨by decide +kernel, rfl⟩
theorem i_ru_setLifted_31 : fe M_ru_setLifted 31 .iaload 1 32 := ⟨by decide +kernel, rfl⟩
theorem i_ru_setLifted_32 : fe M_ru_setLifted 32 (.iload 4) 2 34 := ⟨by decide +kernel, rfl⟩
theorem i_ru_setLifted_34 : fe M_ru_setLifted 34 (.iconst (-1)) 1 35 := ⟨by decide +kernel, rfl⟩
theorem i_ru_setLifted_35 : fe M_ru_setLifted 35 .ixor 1 36 := ⟨by decide +kernel, rfl⟩
theorem i_ru_setLifted_36 : fe M_ru_setLifted 36 .iand 1 37 := ⟨by decide +kernel, rfl⟩
theorem i_ru_setLifted_37 : fe M_ru_setLifted 37 .iastore 1 38 := ⟨by decide +kernel, rfl⟩
theorem i_ru_setLifted_38 : fe M_ru_setLifted 38 .return_ 1 39 := ⟨by decide +kernel, rfl⟩
theorem i_ru_termsOfCode_0 : fe M_ru_termsOfCode 0 (.iload_n 1) 1 1 := ⟨by decide +kernel, rfl⟩
theorem i_ru_termsOfCode_1 : fe M_ru_termsOfCode 1 (.bipush 9) 2 3 := ⟨by decide +kernel, rfl⟩
theorem i_ru_termsOfCode_3 : fe M_ru_termsOfCode 3 .irem 1 4 := ⟨by decide +kernel, rfl⟩
theorem i_ru_termsOfCode_4 : fe M_ru_termsOfCode 4 (.istore_n 3) 1 5 := ⟨by decide +kernel, rfl⟩
theorem i_ru_termsOfCode_5 : fe M_ru_termsOfCode 5 (.iload_n 3) 1 6 := ⟨by decide +kernel, rfl⟩
theorem i_ru_termsOfCode_6 : fb M_ru_termsOfCode 6 (.ifCond .le) 26 9 := ⟨20, by decide +kernel, by decide, rfl⟩
theorem i_ru_termsOfCode_9 : fe M_ru_termsOfCode 9 (.aload_n 0) 1 10 := ⟨by decide +kernel, rfl⟩
theorem i_ru_termsOfCode_10 : fe M_ru_termsOfCode 10 (.getfield 19) 3 13 := ⟨by decide +kernel, rfl⟩
theorem i_ru_termsOfCode_13 : fe M_ru_termsOfCode 13 (.iload_n 2) 1 14 := ⟨by decide +kernel, rfl⟩
theorem i_ru_termsOfCode_14 : fe M_ru_termsOfCode 14 .iaload 1 15 := ⟨by decide +kernel, rfl⟩
theorem i_ru_termsOfCode_15 : fe M_ru_termsOfCode 15 (.iload_n 3) 1 16 := ⟨by decide +kernel, rfl⟩
theorem i_ru_termsOfCode_16 : fe M_ru_termsOfCode 16 (.iconst 1) 1 17 := ⟨by decide +kernel, rfl⟩
theorem i_ru_termsOfCode_17 : fe M_ru_termsOfCode 17 .isub 1 18 := ⟨by decide +kernel, rfl⟩
theorem i_ru_termsOfCode_18 : fe M_ru_termsOfCode 18 .ishr 1 19 := ⟨by decide +kernel, rfl⟩
theorem i_ru_termsOfCode_19 : fe M_ru_termsOfCode 19 (.iconst 1) 1 20 := ⟨by decide +kernel, rfl⟩
theorem i_ru_termsOfCode_20 : fe M_ru_termsOfCode 20 .iand 1 21 := ⟨by decide +kernel, rfl⟩
theorem i_ru_termsOfCode_21 : fb M_ru_termsOfCode 21 (.ifCond .eq) 26 24 := ⟨5, by decide +kernel, by decide, rfl⟩
theorem i_ru_termsOfCode_24 : fe M_ru_termsOfCode 24 (.iconst 0) 1 25 := ⟨by decide +kernel, rfl⟩
theorem i_ru_termsOfCode_25 : fe M_ru_termsOfCode 25 .ireturn 1 26 := ⟨by decide +kernel, rfl⟩
theorem i_ru_termsOfCode_26 : fe M_ru_termsOfCode 26 (.aload_n 0) 1 27 := ⟨by decide +kernel, rfl⟩
theorem i_ru_termsOfCode_27 : fe M_ru_termsOfCode 27 (.getfield 15) 3 30 := ⟨by decide +kernel, rfl⟩
theorem i_ru_termsOfCode_30 : fe M_ru_termsOfCode 30 (.iload_n 1) 1 31 := ⟨by decide +kernel, rfl⟩
theorem i_ru_termsOfCode_31 : fe M_ru_termsOfCode 31 (.bipush 9) 2 33 := ⟨by decide +kernel, rfl⟩
theorem i_ru_termsOfCode_33 : fe M_ru_termsOfCode 33 .idiv 1 34 := ⟨by decide +kernel, rfl⟩
theorem i_ru_termsOfCode_34 : fe M_ru_termsOfCode 34 (.iconst 3) 1 35 := ⟨by decide +kernel, rfl⟩
theorem i_ru_termsOfCode_35 : fe M_ru_termsOfCode 35 .imul 1 36 := ⟨by decide +kernel, rfl⟩
theorem i_ru_termsOfCode_36 : fe M_ru_termsOfCode 36 (.iload_n 2) 1 37 := ⟨by decide +kernel, rfl⟩
theorem i_ru_termsOfCode_37 : fe M_ru_termsOfCode 37 .iadd 1 38 := ⟨by decide +kernel, rfl⟩
theorem i_ru_termsOfCode_38 : fe M_ru_termsOfCode 38 .iaload 1 39 := ⟨by decide +kernel, rfl⟩
theorem i_ru_termsOfCode_39 : fe M_ru_termsOfCode 39 .ireturn 1 40 := ⟨by decide +kernel, rfl⟩
theorem i_ru_termsOf_0 : fe M_ru_termsOf 0 (.iconst 0) 1 1 := ⟨by decide +kernel, rfl⟩
theorem i_ru_termsOf_1 : fe M_ru_termsOf 1 (.istore 4) 2 3 := ⟨by decide +kernel, rfl⟩
theorem i_ru_termsOf_3 : fe M_ru_termsOf 3 (.iconst 0) 1 4 := ⟨by decide +kernel, rfl⟩
theorem i_ru_termsOf_4 : fe M_ru_termsOf 4 (.istore 5) 2 6 := ⟨by decide +kernel, rfl⟩
theorem i_ru_termsOf_6 : fe M_ru_termsOf 6 (.iload 5) 2 8 := ⟨by decide +kernel, rfl⟩
theorem i_ru_termsOf_8 : fe M_ru_termsOf 8 (.sipush 144) 3 11 := ⟨by decide +kernel, rfl⟩
theorem i_ru_termsOf_11 : fb M_ru_termsOf 11 (.if_icmp .ge) 42 14 := ⟨31, by decide +kernel, by decide, rfl⟩
theorem i_ru_termsOf_14 : fe M_ru_termsOf 14 (.aload_n 1) 1 15 := ⟨by decide +kernel, rfl⟩
theorem i_ru_termsOf_15 : fe M_ru_termsOf 15 (.iload_n 2) 1 16 := ⟨by decide +kernel, rfl⟩
theorem i_ru_termsOf_16 : fe M_ru_termsOf 16 (.iload 5) 2 18 := ⟨by decide +kernel, rfl⟩
theorem i_ru_termsOf_18 : fe M_ru_termsOf 18 (.invokevirtual 26) 3 21 := ⟨by decide +kernel, rfl⟩
theorem i_ru_termsOf_21 : fb M_ru_termsOf 21 (.ifCond .eq) 36 24 := ⟨15, by decide +kernel, by decide, rfl⟩
theorem i_ru_termsOf_24 : fe M_ru_termsOf 24 (.iload 4) 2 26 := ⟨by decide +kernel, rfl⟩
theorem i_ru_termsOf_26 : fe M_ru_termsOf 26 (.aload_n 0) 1 27 := ⟨by decide +kernel, rfl⟩
theorem i_ru_termsOf_27 : fe M_ru_termsOf 27 (.iload 5) 2 29 := ⟨by decide +kernel, rfl⟩
theorem i_ru_termsOf_29 : fe M_ru_termsOf 29 (.iload_n 3) 1 30 := ⟨by decide +kernel, rfl⟩
theorem i_ru_termsOf_30 : fe M_ru_termsOf 30 (.invokevirtual 32) 3 33 := ⟨by decide +kernel, rfl⟩
theorem i_ru_termsOf_33 : fe M_ru_termsOf 33 .ior 1 34 := ⟨by decide +kernel, rfl⟩
theorem i_ru_termsOf_34 : fe M_ru_termsOf 34 (.istore 4) 2 36 := ⟨by decide +kernel, rfl⟩
theorem i_ru_termsOf_36 : fe M_ru_termsOf 36 (.iinc 5 1) 3 39 := ⟨by decide +kernel, rfl⟩
theorem i_ru_termsOf_39 : fb M_ru_termsOf 39 .goto 6 42 := ⟨-33, by decide +kernel, by decide, rfl⟩
theorem i_ru_termsOf_42 : fe M_ru_termsOf 42 (.iload 4) 2 44 := ⟨by decide +kernel, rfl⟩
theorem i_ru_termsOf_44 : fe M_ru_termsOf 44 .ireturn 1 45 := ⟨by decide +kernel, rfl⟩
theorem i_ru_bestOf_0 : fe M_ru_bestOf 0 (.iconst (-1)) 1 1 := ⟨by decide +kernel, rfl⟩
theorem i_ru_bestOf_1 : fe M_ru_bestOf 1 (.istore_n 3) 1 2 := ⟨by decide +kernel, rfl⟩
theorem i_ru_bestOf_2 : fe M_ru_bestOf 2 (.iconst 0) 1 3 := ⟨by decide +kernel, rfl⟩
theorem i_ru_bestOf_3 : fe M_ru_bestOf 3 (.istore 4) 2 5 := ⟨by decide +kernel, rfl⟩
theorem i_ru_bestOf_5 : fe M_ru_bestOf 5 (.iconst 0) 1 6 := ⟨by decide +kernel, rfl⟩
theorem i_ru_bestOf_6 : fe M_ru_bestOf 6 (.istore 5) 2 8 := ⟨by decide +kernel, rfl⟩
theorem i_ru_bestOf_8 : fe M_ru_bestOf 8 (.iload 5) 2 10 := ⟨by decide +kernel, rfl⟩
theorem i_ru_bestOf_10 : fe M_ru_bestOf 10 (.aload_n 1) 1 11 := ⟨by decide +kernel, rfl⟩
theorem i_ru_bestOf_11 : fe M_ru_bestOf 11 (.invokevirtual 36) 3 14 := ⟨by decide +kernel, rfl⟩
theorem i_ru_bestOf_14 : fb M_ru_bestOf 14 (.if_icmp .ge) 78 17 := ⟨64, by decide +kernel, by decide, rfl⟩
theorem i_ru_bestOf_17 : fe M_ru_bestOf 17 (.aload_n 0) 1 18 := ⟨by decide +kernel, rfl⟩
theorem i_ru_bestOf_18 : fe M_ru_bestOf 18 (.aload_n 1) 1 19 := ⟨by decide +kernel, rfl⟩
theorem i_ru_bestOf_19 : fe M_ru_bestOf 19 (.iload 5) 2 21 := ⟨by decide +kernel, rfl⟩
theorem i_ru_bestOf_21 : fe M_ru_bestOf 21 (.iload_n 2) 1 22 := ⟨by decide +kernel, rfl⟩
theorem i_ru_bestOf_22 : fe M_ru_bestOf 22 (.invokevirtual 40) 3 25 := ⟨by decide +kernel, rfl⟩
theorem i_ru_bestOf_25 : fe M_ru_bestOf 25 (.istore 6) 2 27 := ⟨by decide +kernel, rfl⟩
theorem i_ru_bestOf_27 : fe M_ru_bestOf 27 (.iload 6) 2 29 := ⟨by decide +kernel, rfl⟩
theorem i_ru_bestOf_29 : fe M_ru_bestOf 29 (.invokestatic 44) 3 32 := ⟨by decide +kernel, rfl⟩
theorem i_ru_bestOf_32 : fe M_ru_bestOf 32 (.sipush 145) 3 35 := ⟨by decide +kernel, rfl⟩
theorem i_ru_bestOf_35 : fe M_ru_bestOf 35 .imul 1 36 := ⟨by decide +kernel, rfl⟩
theorem i_ru_bestOf_36 : fe M_ru_bestOf 36 (.aload_n 1) 1 37 := ⟨by decide +kernel, rfl⟩
theorem i_ru_bestOf_37 : fe M_ru_bestOf 37 (.iload 5) 2 39 := ⟨by decide +kernel, rfl⟩
theorem i_ru_bestOf_39 : fe M_ru_bestOf 39 (.invokevirtual 50) 3 42 := ⟨by decide +kernel, rfl⟩
theorem i_ru_bestOf_42 : fe M_ru_bestOf 42 .iadd 1 43 := ⟨by decide +kernel, rfl⟩
theorem i_ru_bestOf_43 : fe M_ru_bestOf 43 (.istore 7) 2 45 := ⟨by decide +kernel, rfl⟩
theorem i_ru_bestOf_45 : fe M_ru_bestOf 45 (.iload 6) 2 47 := ⟨by decide +kernel, rfl⟩
theorem i_ru_bestOf_47 : fe M_ru_bestOf 47 (.sipush 256) 3 50 := ⟨by decide +kernel, rfl⟩
theorem i_ru_bestOf_50 : fb M_ru_bestOf 50 (.if_icmp .ge) 72 53 := ⟨22, by decide +kernel, by decide, rfl⟩
theorem i_ru_bestOf_53 : fe M_ru_bestOf 53 (.iload_n 3) 1 54 := ⟨by decide +kernel, rfl⟩
theorem i_ru_bestOf_54 : fe M_ru_bestOf 54 (.iconst (-1)) 1 55 := ⟨by decide +kernel, rfl⟩
theorem i_ru_bestOf_55 : fb M_ru_bestOf 55 (.if_icmp .eq) 65 58 := ⟨10, by decide +kernel, by decide, rfl⟩
theorem i_ru_bestOf_58 : fe M_ru_bestOf 58 (.iload 7) 2 60 := ⟨by decide +kernel, rfl⟩
theorem i_ru_bestOf_60 : fe M_ru_bestOf 60 (.iload 4) 2 62 := ⟨by decide +kernel, rfl⟩
theorem i_ru_bestOf_62 : fb M_ru_bestOf 62 (.if_icmp .ge) 72 65 := ⟨10, by decide +kernel, by decide, rfl⟩
theorem i_ru_bestOf_65 : fe M_ru_bestOf 65 (.iload 5) 2 67 := ⟨by decide +kernel, rfl⟩
theorem i_ru_bestOf_67 : fe M_ru_bestOf 67 (.istore_n 3) 1 68 := ⟨by decide +kernel, rfl⟩
theorem i_ru_bestOf_68 : fe M_ru_bestOf 68 (.iload 7) 2 70 := ⟨by decide +kernel, rfl⟩
theorem i_ru_bestOf_70 : fe M_ru_bestOf 70 (.istore 4) 2 72 := ⟨by decide +kernel, rfl⟩
theorem i_ru_bestOf_72 : fe M_ru_bestOf 72 (.iinc 5 1) 3 75 := ⟨by decide +kernel, rfl⟩
theorem i_ru_bestOf_75 : fb M_ru_bestOf 75 .goto 8 78 := ⟨-67, by decide +kernel, by decide, rfl⟩
theorem i_ru_bestOf_78 : fe M_ru_bestOf 78 (.iload_n 3) 1 79 := ⟨by decide +kernel, rfl⟩
theorem i_ru_bestOf_79 : fe M_ru_bestOf 79 .ireturn 1 80 := ⟨by decide +kernel, rfl⟩
theorem i_ru_scoreOf_0 : fe M_ru_scoreOf 0 (.lload_n 1) 1 1 := ⟨by decide +kernel, rfl⟩
theorem i_ru_scoreOf_1 : fe M_ru_scoreOf 1 (.aload_n 0) 1 2 := ⟨by decide +kernel, rfl⟩
theorem i_ru_scoreOf_2 : fe M_ru_scoreOf 2 (.getfield 9) 3 5 := ⟨by decide +kernel, rfl⟩
theorem i_ru_scoreOf_5 : fe M_ru_scoreOf 5 (.iload_n 3) 1 6 := ⟨by decide +kernel, rfl⟩
theorem i_ru_scoreOf_6 : fe M_ru_scoreOf 6 .laload 1 7 := ⟨by decide +kernel, rfl⟩
theorem i_ru_scoreOf_7 : fe M_ru_scoreOf 7 .lor 1 8 := ⟨by decide +kernel, rfl⟩
theorem i_ru_scoreOf_8 : fe M_ru_scoreOf 8 (.invokestatic 53) 3 11 := ⟨by decide +kernel, rfl⟩
theorem i_ru_scoreOf_11 : fe M_ru_scoreOf 11 (.istore 4) 2 13 := ⟨by decide +kernel, rfl⟩
theorem i_ru_scoreOf_13 : fe M_ru_scoreOf 13 (.iload 4) 2 15 := ⟨by decide +kernel, rfl⟩
theorem i_ru_scoreOf_15 : fb M_ru_scoreOf 15 (.ifCond .ne) 22 18 := ⟨7, by decide +kernel, by decide, rfl⟩
theorem i_ru_scoreOf_18 : fe M_ru_scoreOf 18 (.iconst 0) 1 19 := ⟨by decide +kernel, rfl⟩
theorem i_ru_scoreOf_19 : fb M_ru_scoreOf 19 .goto 39 22 := ⟨20, by decide +kernel, by decide, rfl⟩
theorem i_ru_scoreOf_22 : fe M_ru_scoreOf 22 (.bipush 100) 2 24 := ⟨by decide +kernel, rfl⟩
theorem i_ru_scoreOf_24 : fe M_ru_scoreOf 24 (.lload_n 1) 1 25 := ⟨by decide +kernel, rfl⟩
theorem i_ru_scoreOf_25 : fe M_ru_scoreOf 25 (.aload_n 0) 1 26 := ⟨by decide +kernel, rfl⟩
theorem i_ru_scoreOf_26 : fe M_ru_scoreOf 26 (.getfield 9) 3 29 := ⟨by decide +kernel, rfl⟩
theorem i_ru_scoreOf_29 : fe M_ru_scoreOf 29 (.iload_n 3) 1 30 := ⟨by decide +kernel, rfl⟩
theorem i_ru_scoreOf_30 : fe M_ru_scoreOf 30 .laload 1 31 := ⟨by decide +kernel, rfl⟩
theorem i_ru_scoreOf_31 : fe M_ru_scoreOf 31 .land 1 32 := ⟨by decide +kernel, rfl⟩
theorem i_ru_scoreOf_32 : fe M_ru_scoreOf 32 (.invokestatic 53) 3 35 := ⟨by decide +kernel, rfl⟩
theorem i_ru_scoreOf_35 : fe M_ru_scoreOf 35 .imul 1 36 := ⟨by decide +kernel, rfl⟩
theorem i_ru_scoreOf_36 : fe M_ru_scoreOf 36 (.iload 4) 2 38 := ⟨by decide +kernel, rfl⟩
theorem i_ru_scoreOf_38 : fe M_ru_scoreOf 38 .idiv 1 39 := ⟨by decide +kernel, rfl⟩
theorem i_ru_scoreOf_39 : fe M_ru_scoreOf 39 .ireturn 1 40 := ⟨by decide +kernel, rfl⟩
theorem i_lr_init_0 : fe M_lr_init 0 (.aload_n 0) 1 1 := ⟨by decide +kernel, rfl⟩
theorem i_lr_init_1 : fe M_lr_init 1 (.invokespecial 3) 3 4 := ⟨by decide +kernel, rfl⟩
theorem i_lr_init_4 : fe M_lr_init 4 (.aload_n 0) 1 5 := ⟨by decide +kernel, rfl⟩
theorem i_lr_init_5 : fe M_lr_init 5 (.new 9) 3 8 := ⟨by decide +kernel, rfl⟩
theorem i_lr_init_8 : fe M_lr_init 8 .dup 1 9 := ⟨by decide +kernel, rfl⟩
theorem i_lr_init_9 : fe M_lr_init 9 (.invokespecial 11) 3 12 := ⟨by decide +kernel, rfl⟩
theorem i_lr_init_12 : fe M_lr_init 12 (.putfield 12) 3 15 := ⟨by decide +kernel, rfl⟩
theorem i_lr_init_15 : fe M_lr_init 15 (.aload_n 0) 1 16 := ⟨by decide +kernel, rfl⟩
theorem i_lr_init_16 : fe M_lr_init 16 (.new 16) 3 19 := ⟨by decide +kernel, rfl⟩
theorem i_lr_init_19 : fe M_lr_init 19 .dup 1 20 := ⟨by decide +kernel, rfl⟩
theorem i_lr_init_20 : fe M_lr_init 20 (.invokespecial 18) 3 23 := ⟨by decide +kernel, rfl⟩
theorem i_lr_init_23 : fe M_lr_init 23 (.putfield 19) 3 26 := ⟨by decide +kernel, rfl⟩
theorem i_lr_init_26 : fe M_lr_init 26 (.aload_n 0) 1 27 := ⟨by decide +kernel, rfl⟩
theorem i_lr_init_27 : fe M_lr_init 27 (.bipush 16) 2 29 := ⟨by decide +kernel, rfl⟩
theorem i_lr_init_29 : fe M_lr_init 29 (.anewarray 23) 3 32 := ⟨by decide +kernel, rfl⟩
theorem i_lr_init_32 : fe M_lr_init 32 (.putfield 25) 3 35 := ⟨by decide +kernel, rfl⟩
theorem i_lr_init_35 : fe M_lr_init 35 (.aload_n 0) 1 36 := ⟨by decide +kernel, rfl⟩
theorem i_lr_init_36 : fe M_lr_init 36 (.new 29) 3 39 := ⟨by decide +kernel, rfl⟩
theorem i_lr_init_39 : fe M_lr_init 39 .dup 1 40 := ⟨by decide +kernel, rfl⟩
theorem i_lr_init_40 : fe M_lr_init 40 (.invokespecial 31) 3 43 := ⟨by decide +kernel, rfl⟩
theorem i_lr_init_43 : fe M_lr_init 43 (.putfield 32) 3 46 := ⟨by decide +kernel, rfl⟩
theorem i_lr_init_46 : fe M_lr_init 46 (.aload_n 0) 1 47 := ⟨by decide +kernel, rfl⟩
theorem i_lr_init_47 : fe M_lr_init 47 (.iconst 0) 1 48 := ⟨by decide +kernel, rfl⟩
theorem i_lr_init_48 : fe M_lr_init 48 (.putfield 36) 3 51 := ⟨by decide +kernel, rfl⟩
theorem i_lr_init_51 : fe M_lr_init 51 (.aload_n 0) 1 52 := ⟨by decide +kernel, rfl⟩
theorem i_lr_init_52 : fe M_lr_init 52 (.iconst 0) 1 53 := ⟨by decide +kernel, rfl⟩
theorem i_lr_init_53 : fe M_lr_init 53 (.putfield 40) 3 56 := ⟨by decide +kernel, rfl⟩
theorem i_lr_init_56 : fe M_lr_init 56 .return_ 1 57 := ⟨by decide +kernel, rfl⟩
theorem i_lr_licence_0 : fe M_lr_licence 0 (.aload_n 0) 1 1 := ⟨by decide +kernel, rfl⟩
theorem i_lr_licence_1 : fe M_lr_licence 1 (.getfield 12) 3 4 := ⟨by decide +kernel, rfl⟩
theorem i_lr_licence_4 : fe M_lr_licence 4 (.lload_n 1) 1 5 := ⟨by decide +kernel, rfl⟩
theorem i_lr_licence_5 : fe M_lr_licence 5 (.invokevirtual 43) 3 8 := ⟨by decide +kernel, rfl⟩
theorem i_lr_licence_8 : fe M_lr_licence 8 .ireturn 1 9 := ⟨by decide +kernel, rfl⟩
theorem i_lr_rule_0 : fe M_lr_rule 0 (.aload_n 0) 1 1 := ⟨by decide +kernel, rfl⟩
theorem i_lr_rule_1 : fe M_lr_rule 1 (.getfield 12) 3 4 := ⟨by decide +kernel, rfl⟩
theorem i_lr_rule_4 : fe M_lr_rule 4 (.iload_n 1) 1 5 := ⟨by decide +kernel, rfl⟩
theorem i_lr_rule_5 : fe M_lr_rule 5 (.invokevirtual 47) 3 8 := ⟨by decide +kernel, rfl⟩
theorem i_lr_rule_8 : fb M_lr_rule 8 (.ifCond .eq) 18 11 := ⟨10, by decide +kernel, by decide, rfl⟩
theorem i_lr_rule_11 : fe M_lr_rule 11 (.iload_n 2) 1 12 := ⟨by decide +kernel, rfl⟩
theorem i_lr_rule_12 : fe M_lr_rule 12 (.invokestatic 51) 3 15 := ⟨by decide +kernel, rfl⟩
theorem i_lr_rule_15 : fb M_lr_rule 15 (.ifCond .ne) 20 18 := ⟨5, by decide +kernel, by decide, rfl⟩
theorem i_lr_rule_18 : fe M_lr_rule 18 (.iconst 0) 1 19 := ⟨by decide +kernel, rfl⟩
theorem i_lr_rule_19 : fe M_lr_rule 19 .ireturn 1 20 := ⟨by decide +kernel, rfl⟩
theorem i_lr_rule_20 : fe M_lr_rule 20 (.iload 4) 2 22 := ⟨by decide +kernel, rfl⟩
theorem i_lr_rule_22 : fe M_lr_rule 22 (.sipush 255) 3 25 := ⟨by decide +kernel, rfl⟩
theorem i_lr_rule_25 : fe M_lr_rule 25 .iand 1 26 := ⟨by decide +kernel, rfl⟩
theorem i_lr_rule_26 : fe M_lr_rule 26 (.istore 5) 2 28 := ⟨by decide +kernel, rfl⟩
theorem i_lr_rule_28 : fe M_lr_rule 28 (.iload_n 3) 1 29 := ⟨by decide +kernel, rfl⟩
theorem i_lr_rule_29 : decode M_lr_rule.2.1 29 = .ok (.tableswitch 73 0 2 #[27, 39, 59], 27) := by decide +kernel
theorem i_lr_rule_56 : fe M_lr_rule 56 (.aload_n 0) 1 57 := ⟨by decide +kernel, rfl⟩
theorem i_lr_rule_57 : fe M_lr_rule 57 (.getfield 12) 3 60 := ⟨by decide +kernel, rfl⟩
theorem i_lr_rule_60 : fe M_lr_rule 60 (.iload_n 1) 1 61 := ⟨by decide +kernel, rfl⟩
theorem i_lr_rule_61 : fe M_lr_rule 61 (.iload_n 2) 1 62 := ⟨by decide +kernel, rfl⟩
theorem i_lr_rule_62 : fe M_lr_rule 62 (.iconst 0) 1 63 := ⟨by decide +kernel, rfl⟩
theorem i_lr_rule_63 : fe M_lr_rule 63 (.invokevirtual 54) 3 66 := ⟨by decide +kernel, rfl⟩
theorem i_lr_rule_66 : fe M_lr_rule 66 (.iconst 1) 1 67 := ⟨by decide +kernel, rfl⟩
theorem i_lr_rule_67 : fe M_lr_rule 67 .ireturn 1 68 := ⟨by decide +kernel, rfl⟩
theorem i_lr_rule_68 : fe M_lr_rule 68 (.iload 5) 2 70 := ⟨by decide +kernel, rfl⟩
theorem i_lr_rule_70 : fb M_lr_rule 70 (.ifCond .ne) 75 73 := ⟨5, by decide +kernel, by decide, rfl⟩
theorem i_lr_rule_73 : fe M_lr_rule 73 (.iconst 0) 1 74 := ⟨by decide +kernel, rfl⟩
theorem i_lr_rule_74 : fe M_lr_rule 74 .ireturn 1 75 := ⟨by decide +kernel, rfl⟩
theorem i_lr_rule_75 : fe M_lr_rule 75 (.aload_n 0) 1 76 := ⟨by decide +kernel, rfl⟩
theorem i_lr_rule_76 : fe M_lr_rule 76 (.getfield 12) 3 79 := ⟨by decide +kernel, rfl⟩
theorem i_lr_rule_79 : fe M_lr_rule 79 (.iload_n 1) 1 80 := ⟨by decide +kernel, rfl⟩
theorem i_lr_rule_80 : fe M_lr_rule 80 (.iload_n 2) 1 81 := ⟨by decide +kernel, rfl⟩
theorem i_lr_rule_81 : fe M_lr_rule 81 (.iload 5) 2 83 := ⟨by decide +kernel, rfl⟩
theorem i_lr_rule_83 : fe M_lr_rule 83 (.invokevirtual 54) 3 86 := ⟨by decide +kernel, rfl⟩
theorem i_lr_rule_86 : fe M_lr_rule 86 (.iconst 1) 1 87 := ⟨by decide +kernel, rfl⟩
theorem i_lr_rule_87 : fe M_lr_rule 87 .ireturn 1 88 := ⟨by decide +kernel, rfl⟩
theorem i_lr_rule_88 : fe M_lr_rule 88 (.aload_n 0) 1 89 := ⟨by decide +kernel, rfl⟩
theorem i_lr_rule_89 : fe M_lr_rule 89 (.getfield 12) 3 92 := ⟨by decide +kernel, rfl⟩
theorem i_lr_rule_92 : fe M_lr_rule 92 (.iload_n 1) 1 93 := ⟨by decide +kernel, rfl⟩
theorem i_lr_rule_93 : fe M_lr_rule 93 (.iload_n 2) 1 94 := ⟨by decide +kernel, rfl⟩
theorem i_lr_rule_94 : fe M_lr_rule 94 (.sipush 256) 3 97 := ⟨by decide +kernel, rfl⟩
theorem i_lr_rule_97 : fe M_lr_rule 97 (.invokevirtual 54) 3 100 := ⟨by decide +kernel, rfl⟩
theorem i_lr_rule_100 : fe M_lr_rule 100 (.iconst 1) 1 101 := ⟨by decide +kernel, rfl⟩
theorem i_lr_rule_101 : fe M_lr_rule 101 .ireturn 1 102 := ⟨by decide +kernel, rfl⟩
theorem i_lr_rule_102 : fe M_lr_rule 102 (.iconst 0) 1 103 := ⟨by decide +kernel, rfl⟩
theorem i_lr_rule_103 : fe M_lr_rule 103 .ireturn 1 104 := ⟨by decide +kernel, rfl⟩
theorem i_lr_lifts_0 : fe M_lr_lifts 0 (.iload_n 1) 1 1 := ⟨by decide +kernel, rfl⟩
theorem i_lr_lifts_1 : fb M_lr_lifts 1 (.ifCond .lt) 17 4 := ⟨16, by decide +kernel, by decide, rfl⟩
theorem i_lr_lifts_4 : fe M_lr_lifts 4 (.iload_n 1) 1 5 := ⟨by decide +kernel, rfl⟩
theorem i_lr_lifts_5 : fe M_lr_lifts 5 (.bipush 8) 2 7 := ⟨by decide +kernel, rfl⟩
theorem i_lr_lifts_7 : fb M_lr_lifts 7 (.if_icmp .ge) 17 10 := ⟨10, by decide +kernel, by decide, rfl⟩
theorem i_lr_lifts_10 : fe M_lr_lifts 10 (.iload_n 2) 1 11 := ⟨by decide +kernel, rfl⟩
theorem i_lr_lifts_11 : fe M_lr_lifts 11 (.invokestatic 51) 3 14 := ⟨by decide +kernel, rfl⟩
theorem i_lr_lifts_14 : fb M_lr_lifts 14 (.ifCond .ne) 19 17 := ⟨5, by decide +kernel, by decide, rfl⟩
theorem i_lr_lifts_17 : fe M_lr_lifts 17 (.iconst 0) 1 18 := ⟨by decide +kernel, rfl⟩
theorem i_lr_lifts_18 : fe M_lr_lifts 18 .ireturn 1 19 := ⟨by decide +kernel, rfl⟩
theorem i_lr_lifts_19 : fe M_lr_lifts 19 (.aload_n 0) 1 20 := ⟨by decide +kernel, rfl⟩
theorem i_lr_lifts_20 : fe M_lr_lifts 20 (.getfield 12) 3 23 := ⟨by decide +kernel, rfl⟩
theorem i_lr_lifts_23 : fe M_lr_lifts 23 (.iload_n 1) 1 24 := ⟨by decide +kernel, rfl⟩
theorem i_lr_lifts_24 : fe M_lr_lifts 24 (.iload_n 2) 1 25 := ⟨by decide +kernel, rfl⟩
theorem i_lr_lifts_25 : fe M_lr_lifts 25 (.iload_n 3) 1 26 := ⟨by decide +kernel, rfl⟩
theorem i_lr_lifts_26 : fe M_lr_lifts 26 (.invokevirtual 58) 3 29 := ⟨by decide +kernel, rfl⟩
theorem i_lr_lifts_29 : fe M_lr_lifts 29 (.iconst 1) 1 30 := ⟨by decide +kernel, rfl⟩
theorem i_lr_lifts_30 : fe M_lr_lifts 30 .ireturn 1 31 := ⟨by decide +kernel, rfl⟩
theorem i_lr_type_0 : fe M_lr_type 0 (.aload_n 0) 1 1 := ⟨by decide +kernel, rfl⟩
theorem i_lr_type_1 : fe M_lr_type 1 (.getfield 19) 3 4 := ⟨by decide +kernel, rfl⟩
theorem i_lr_type_4 : fe M_lr_type 4 (.iload_n 1) 1 5 := ⟨by decide +kernel, rfl⟩
theorem i_lr_type_5 : fe M_lr_type 5 (.invokevirtual 62) 3 8 := ⟨by decide +kernel, rfl⟩
theorem i_lr_type_8 : fe M_lr_type 8 .ireturn 1 9 := ⟨by decide +kernel, rfl⟩
theorem i_lr_pack_0 : fe M_lr_pack 0 (.aload_n 0) 1 1 := ⟨by decide +kernel, rfl⟩
theorem i_lr_pack_1 : fe M_lr_pack 1 (.getfield 36) 3 4 := ⟨by decide +kernel, rfl⟩
theorem i_lr_pack_4 : fe M_lr_pack 4 (.bipush 16) 2 6 := ⟨by decide +kernel, rfl⟩
theorem i_lr_pack_6 : fb M_lr_pack 6 (.if_icmp .lt) 11 9 := ⟨5, by decide +kernel, by decide, rfl⟩
theorem i_lr_pack_9 : fe M_lr_pack 9 (.iconst (-1)) 1 10 := ⟨by decide +kernel, rfl⟩
theorem i_lr_pack_10 : fe M_lr_pack 10 .ireturn 1 11 := ⟨by decide +kernel, rfl⟩
theorem i_lr_pack_11 : fe M_lr_pack 11 (.aload_n 0) 1 12 := ⟨by decide +kernel, rfl⟩
theorem i_lr_pack_12 : fe M_lr_pack 12 (.getfield 25) 3 15 := ⟨by decide +kernel, rfl⟩
theorem i_lr_pack_15 : fe M_lr_pack 15 (.aload_n 0) 1 16 := ⟨by decide +kernel, rfl⟩
theorem i_lr_pack_16 : fe M_lr_pack 16 (.getfield 36) 3 19 := ⟨by decide +kernel, rfl⟩
theorem i_lr_pack_19 : fe M_lr_pack 19 (.new 23) 3 22 := ⟨by decide +kernel, rfl⟩
theorem i_lr_pack_22 : fe M_lr_pack 22 .dup 1 23 := ⟨by decide +kernel, rfl⟩
theorem i_lr_pack_23 : fe M_lr_pack 23 (.invokespecial 66) 3 26 := ⟨by decide +kernel, rfl⟩
theorem i_lr_pack_26 : fe M_lr_pack 26 .aastore 1 27 := ⟨by decide +kernel, rfl⟩
theorem i_lr_pack_27 : fe M_lr_pack 27 (.aload_n 0) 1 28 := ⟨by decide +kernel, rfl⟩
theorem i_lr_pack_28 : fe M_lr_pack 28 .dup 1 29 := ⟨by decide +kernel, rfl⟩
theorem i_lr_pack_29 : fe M_lr_pack 29 (.getfield 36) 3 32 := ⟨by decide +kernel, rfl⟩
theorem i_lr_pack_32 : fe M_lr_pack 32 (.iconst 1) 1 33 := ⟨by decide +kernel, rfl⟩
theorem i_lr_pack_33 : fe M_lr_pack 33 .iadd 1 34 := ⟨by decide +kernel, rfl⟩
theorem i_lr_pack_34 : fe M_lr_pack 34 (.putfield 36) 3 37 := ⟨by decide +kernel, rfl⟩
theorem i_lr_pack_37 : fe M_lr_pack 37 (.aload_n 0) 1 38 := ⟨by decide +kernel, rfl⟩
theorem i_lr_pack_38 : fe M_lr_pack 38 (.getfield 36) 3 41 := ⟨by decide +kernel, rfl⟩
theorem i_lr_pack_41 : fe M_lr_pack 41 (.iconst 1) 1 42 := ⟨by decide +kernel, rfl⟩
theorem i_lr_pack_42 : fe M_lr_pack 42 .isub 1 43 := ⟨by decide +kernel, rfl⟩
theorem i_lr_pack_43 : fe M_lr_pack 43 .ireturn 1 44 := ⟨by decide +kernel, rfl⟩
theorem i_lr_express_0 : fe M_lr_express 0 (.aload_n 0) 1 1 := ⟨by decide +kernel, rfl⟩
theorem i_lr_express_1 : fe M_lr_express 1 (.iload_n 1) 1 2 := ⟨by decide +kernel, rfl⟩
theorem i_lr_express_2 : fe M_lr_express 2 (.invokevirtual 67) 3 5 := ⟨by decide +kernel, rfl⟩
theorem i_lr_express_5 : fe M_lr_express 5 (.astore_n 2) 1 6 := ⟨by decide +kernel, rfl⟩
theorem i_lr_express_6 : fe M_lr_express 6 (.aload_n 0) 1 7 := ⟨by decide +kernel, rfl⟩
theorem i_lr_express_7 : fe M_lr_express 7 (.getfield 19) 3 10 := ⟨by decide +kernel, rfl⟩
theorem i_lr_express_10 : fe M_lr_express 10 (.aload_n 0) 1 11 := ⟨by decide +kernel, rfl⟩
theorem i_lr_express_11 : fe M_lr_express 11 (.getfield 12) 3 14 := ⟨by decide +kernel, rfl⟩
theorem i_lr_express_14 : fe M_lr_express 14 (.invokevirtual 71) 3 17 := ⟨by decide +kernel, rfl⟩
theorem i_lr_express_17 : fe M_lr_express 17 (.invokevirtual 75) 3 20 := ⟨by decide +kernel, rfl⟩
theorem i_lr_express_20 : fe M_lr_express 20 (.istore_n 3) 1 21 := ⟨by decide +kernel, rfl⟩
theorem i_lr_express_21 : fe M_lr_express 21 (.aload_n 0) 1 22 := ⟨by decide +kernel, rfl⟩
theorem i_lr_express_22 : fe M_lr_express 22 (.getfield 19) 3 25 := ⟨by decide +kernel, rfl⟩
theorem i_lr_express_25 : fe M_lr_express 25 (.invokevirtual 79) 3 28 := ⟨by decide +kernel, rfl⟩
theorem i_lr_express_28 : fe M_lr_express 28 (.aload_n 2) 1 29 := ⟨by decide +kernel, rfl⟩
theorem i_lr_express_29 : fb M_lr_express 29 .ifnonnull 36 32 := ⟨7, by decide +kernel, by decide, rfl⟩
theorem i_lr_express_32 : fe M_lr_express 32 (.sipush (-200)) 3 35 := ⟨by decide +kernel, rfl⟩
theorem i_lr_express_35 : fe M_lr_express 35 .ireturn 1 36 := ⟨by decide +kernel, rfl⟩
theorem i_lr_express_36 : fe M_lr_express 36 (.iload_n 3) 1 37 := ⟨by decide +kernel, rfl⟩
theorem i_lr_express_37 : fe M_lr_express 37 (.iconst (-1)) 1 38 := ⟨by decide +kernel, rfl⟩
theorem i_lr_express_38 : fb M_lr_express 38 (.if_icmp .eq) 45 41 := ⟨7, by decide +kernel, by decide, rfl⟩
theorem i_lr_express_41 : fe M_lr_express 41 (.iconst (-1)) 1 42 := ⟨by decide +kernel, rfl⟩
theorem i_lr_express_42 : fe M_lr_express 42 (.iload_n 3) 1 43 := ⟨by decide +kernel, rfl⟩
theorem i_lr_express_43 : fe M_lr_express 43 .isub 1 44 := ⟨by decide +kernel, rfl⟩
theorem i_lr_express_44 : fe M_lr_express 44 .ireturn 1 45 := ⟨by decide +kernel, rfl⟩
theorem i_lr_express_45 : fe M_lr_express 45 (.aload_n 0) 1 46 := ⟨by decide +kernel, rfl⟩
theorem i_lr_express_46 : fe M_lr_express 46 (.getfield 19) 3 49 := ⟨by decide +kernel, rfl⟩
theorem i_lr_express_49 : fe M_lr_express 49 (.invokevirtual 82) 3 52 := ⟨by decide +kernel, rfl⟩
theorem i_lr_express_52 : fb M_lr_express 52 (.ifCond .eq) 58 55 := ⟨6, by decide +kernel, by decide, rfl⟩
theorem i_lr_express_55 : fe M_lr_express 55 (.bipush (-100)) 2 57 := ⟨by decide +kernel, rfl⟩
theorem i_lr_express_57 : fe M_lr_express 57 .ireturn 1 58 := ⟨by decide +kernel, rfl⟩
theorem i_lr_express_58 : fe M_lr_express 58 (.aload_n 2) 1 59 := ⟨by decide +kernel, rfl⟩
theorem i_lr_express_59 : fe M_lr_express 59 (.getfield 86) 3 62 := ⟨by decide +kernel, rfl⟩
theorem i_lr_express_62 : fe M_lr_express 62 (.aload_n 0) 1 63 := ⟨by decide +kernel, rfl⟩
theorem i_lr_express_63 : fe M_lr_express 63 (.getfield 19) 3 66 := ⟨by decide +kernel, rfl⟩
theorem i_lr_express_66 : fe M_lr_express 66 (.invokevirtual 90) 3 69 := ⟨by decide +kernel, rfl⟩
theorem i_lr_express_69 : fe M_lr_express 69 (.invokevirtual 94) 3 72 := ⟨by decide +kernel, rfl⟩
theorem i_lr_express_72 : fe M_lr_express 72 (.aload_n 2) 1 73 := ⟨by decide +kernel, rfl⟩
theorem i_lr_express_73 : fe M_lr_express 73 (.getfield 86) 3 76 := ⟨by decide +kernel, rfl⟩
theorem i_lr_express_76 : fe M_lr_express 76 (.invokevirtual 100) 3 79 := ⟨by decide +kernel, rfl⟩
theorem i_lr_express_79 : fe M_lr_express 79 .ireturn 1 80 := ⟨by decide +kernel, rfl⟩
theorem i_lr_choices_0 : fe M_lr_choices 0 (.aload_n 0) 1 1 := ⟨by decide +kernel, rfl⟩
theorem i_lr_choices_1 : fe M_lr_choices 1 (.iload_n 1) 1 2 := ⟨by decide +kernel, rfl⟩
theorem i_lr_choices_2 : fe M_lr_choices 2 (.invokevirtual 67) 3 5 := ⟨by decide +kernel, rfl⟩
theorem i_lr_choices_5 : fe M_lr_choices 5 (.astore_n 2) 1 6 := ⟨by decide +kernel, rfl⟩
theorem i_lr_choices_6 : fe M_lr_choices 6 (.aload_n 2) 1 7 := ⟨by decide +kernel, rfl⟩
theorem i_lr_choices_7 : fb M_lr_choices 7 .ifnonnull 14 10 := ⟨7, by decide +kernel, by decide, rfl⟩
theorem i_lr_choices_10 : fe M_lr_choices 10 (.iconst (-1)) 1 11 := ⟨by decide +kernel, rfl⟩
theorem i_lr_choices_11 : fb M_lr_choices 11 .goto 21 14 := ⟨10, by decide +kernel, by decide, rfl⟩
theorem i_lr_choices_14 : fe M_lr_choices 14 (.aload_n 2) 1 15 := ⟨by decide +kernel, rfl⟩
theorem i_lr_choices_15 : fe M_lr_choices 15 (.getfield 86) 3 18 := ⟨by decide +kernel, rfl⟩
theorem i_lr_choices_18 : fe M_lr_choices 18 (.invokevirtual 100) 3 21 := ⟨by decide +kernel, rfl⟩
theorem i_lr_choices_21 : fe M_lr_choices 21 .ireturn 1 22 := ⟨by decide +kernel, rfl⟩
theorem i_lr_pair_0 : fe M_lr_pair 0 (.aload_n 0) 1 1 := ⟨by decide +kernel, rfl⟩
theorem i_lr_pair_1 : fe M_lr_pair 1 (.iload_n 1) 1 2 := ⟨by decide +kernel, rfl⟩
theorem i_lr_pair_2 : fe M_lr_pair 2 (.invokevirtual 67) 3 5 := ⟨by decide +kernel, rfl⟩
theorem i_lr_pair_5 : fe M_lr_pair 5 (.astore 4) 2 7 := ⟨by decide +kernel, rfl⟩
theorem i_lr_pair_7 : fe M_lr_pair 7 (.aload 4) 2 9 := ⟨by decide +kernel, rfl⟩
theorem i_lr_pair_9 : fb M_lr_pair 9 .ifnonnull 16 12 := ⟨7, by decide +kernel, by decide, rfl⟩
theorem i_lr_pair_12 : fe M_lr_pair 12 (.iconst (-1)) 1 13 := ⟨by decide +kernel, rfl⟩
theorem i_lr_pair_13 : fb M_lr_pair 13 .goto 26 16 := ⟨13, by decide +kernel, by decide, rfl⟩
theorem i_lr_pair_16 : fe M_lr_pair 16 (.aload 4) 2 18 := ⟨by decide +kernel, rfl⟩
theorem i_lr_pair_18 : fe M_lr_pair 18 (.getfield 86) 3 21 := ⟨by decide +kernel, rfl⟩
theorem i_lr_pair_21 : fe M_lr_pair 21 (.iload_n 2) 1 22 := ⟨by decide +kernel, rfl⟩
theorem i_lr_pair_22 : fe M_lr_pair 22 (.iload_n 3) 1 23 := ⟨by decide +kernel, rfl⟩
theorem i_lr_pair_23 : fe M_lr_pair 23 (.invokevirtual 103) 3 26 := ⟨by decide +kernel, rfl⟩
theorem i_lr_pair_26 : fe M_lr_pair 26 .ireturn 1 27 := ⟨by decide +kernel, rfl⟩
theorem i_lr_best_0 : fe M_lr_best 0 (.aload_n 0) 1 1 := ⟨by decide +kernel, rfl⟩
theorem i_lr_best_1 : fe M_lr_best 1 (.iload_n 1) 1 2 := ⟨by decide +kernel, rfl⟩
theorem i_lr_best_2 : fe M_lr_best 2 (.invokevirtual 67) 3 5 := ⟨by decide +kernel, rfl⟩
theorem i_lr_best_5 : fe M_lr_best 5 (.astore_n 3) 1 6 := ⟨by decide +kernel, rfl⟩
theorem i_lr_best_6 : fe M_lr_best 6 (.aload_n 3) 1 7 := ⟨by decide +kernel, rfl⟩
theorem i_lr_best_7 : fb M_lr_best 7 .ifnull 17 10 := ⟨10, by decide +kernel, by decide, rfl⟩
theorem i_lr_best_10 : fe M_lr_best 10 (.iload_n 2) 1 11 := ⟨by decide +kernel, rfl⟩
theorem i_lr_best_11 : fe M_lr_best 11 (.invokestatic 51) 3 14 := ⟨by decide +kernel, rfl⟩
theorem i_lr_best_14 : fb M_lr_best 14 (.ifCond .ne) 21 17 := ⟨7, by decide +kernel, by decide, rfl⟩
theorem i_lr_best_17 : fe M_lr_best 17 (.iconst (-1)) 1 18 := ⟨by decide +kernel, rfl⟩
theorem i_lr_best_18 : fb M_lr_best 18 .goto 33 21 := ⟨15, by decide +kernel, by decide, rfl⟩
theorem i_lr_best_21 : fe M_lr_best 21 (.aload_n 0) 1 22 := ⟨by decide +kernel, rfl⟩
theorem i_lr_best_22 : fe M_lr_best 22 (.getfield 12) 3 25 := ⟨by decide +kernel, rfl⟩
theorem i_lr_best_25 : fe M_lr_best 25 (.aload_n 3) 1 26 := ⟨by decide +kernel, rfl⟩
theorem i_lr_best_26 : fe M_lr_best 26 (.getfield 86) 3 29 := ⟨by decide +kernel, rfl⟩
theorem i_lr_best_29 : fe M_lr_best 29 (.iload_n 2) 1 30 := ⟨by decide +kernel, rfl⟩
theorem i_lr_best_30 : fe M_lr_best 30 (.invokevirtual 107) 3 33 := ⟨by decide +kernel, rfl⟩
theorem i_lr_best_33 : fe M_lr_best 33 .ireturn 1 34 := ⟨by decide +kernel, rfl⟩
theorem i_lr_duties_0 : fe M_lr_duties 0 (.aload_n 0) 1 1 := ⟨by decide +kernel, rfl⟩
theorem i_lr_duties_1 : fe M_lr_duties 1 (.iload_n 1) 1 2 := ⟨by decide +kernel, rfl⟩
theorem i_lr_duties_2 : fe M_lr_duties 2 (.iload_n 2) 1 3 := ⟨by decide +kernel, rfl⟩
theorem i_lr_duties_3 : fe M_lr_duties 3 (.invokevirtual 111) 3 6 := ⟨by decide +kernel, rfl⟩
theorem i_lr_duties_6 : fe M_lr_duties 6 (.istore_n 3) 1 7 := ⟨by decide +kernel, rfl⟩
theorem i_lr_duties_7 : fe M_lr_duties 7 (.aload_n 0) 1 8 := ⟨by decide +kernel, rfl⟩
theorem i_lr_duties_8 : fe M_lr_duties 8 (.iload_n 1) 1 9 := ⟨by decide +kernel, rfl⟩
theorem i_lr_duties_9 : fe M_lr_duties 9 (.invokevirtual 67) 3 12 := ⟨by decide +kernel, rfl⟩
theorem i_lr_duties_12 : fe M_lr_duties 12 (.astore 4) 2 14 := ⟨by decide +kernel, rfl⟩
theorem i_lr_duties_14 : fe M_lr_duties 14 (.aload 4) 2 16 := ⟨by decide +kernel, rfl⟩
theorem i_lr_duties_16 : fb M_lr_duties 16 .ifnull 24 19 := ⟨8, by decide +kernel, by decide, rfl⟩
theorem i_lr_duties_19 : fe M_lr_duties 19 (.iload_n 3) 1 20 := ⟨by decide +kernel, rfl⟩
theorem i_lr_duties_20 : fe M_lr_duties 20 (.iconst (-1)) 1 21 := ⟨by decide +kernel, rfl⟩
theorem i_lr_duties_21 : fb M_lr_duties 21 (.if_icmp .ne) 28 24 := ⟨7, by decide +kernel, by decide, rfl⟩
theorem i_lr_duties_24 : fe M_lr_duties 24 (.iconst 0) 1 25 := ⟨by decide +kernel, rfl⟩
theorem i_lr_duties_25 : fb M_lr_duties 25 .goto 42 28 := ⟨17, by decide +kernel, by decide, rfl⟩
theorem i_lr_duties_28 : fe M_lr_duties 28 (.aload_n 0) 1 29 := ⟨by decide +kernel, rfl⟩
theorem i_lr_duties_29 : fe M_lr_duties 29 (.getfield 12) 3 32 := ⟨by decide +kernel, rfl⟩
theorem i_lr_duties_32 : fe M_lr_duties 32 (.aload 4) 2 34 := ⟨by decide +kernel, rfl⟩
theorem i_lr_duties_34 : fe M_lr_duties 34 (.getfield 86) 3 37 := ⟨by decide +kernel, rfl⟩
theorem i_lr_duties_37 : fe M_lr_duties 37 (.iload_n 3) 1 38 := ⟨by decide +kernel, rfl⟩
theorem i_lr_duties_38 : fe M_lr_duties 38 (.iload_n 2) 1 39 := ⟨by decide +kernel, rfl⟩
theorem i_lr_duties_39 : fe M_lr_duties 39 (.invokevirtual 114) 3 42 := ⟨by decide +kernel, rfl⟩
theorem i_lr_duties_42 : fe M_lr_duties 42 .ireturn 1 43 := ⟨by decide +kernel, rfl⟩
theorem i_lr_uses_0 : fe M_lr_uses 0 (.aload_n 0) 1 1 := ⟨by decide +kernel, rfl⟩
theorem i_lr_uses_1 : fe M_lr_uses 1 (.iload_n 1) 1 2 := ⟨by decide +kernel, rfl⟩
theorem i_lr_uses_2 : fe M_lr_uses 2 (.invokevirtual 67) 3 5 := ⟨by decide +kernel, rfl⟩
theorem i_lr_uses_5 : fe M_lr_uses 5 (.astore 4) 2 7 := ⟨by decide +kernel, rfl⟩
theorem i_lr_uses_7 : fe M_lr_uses 7 (.aload 4) 2 9 := ⟨by decide +kernel, rfl⟩
theorem i_lr_uses_9 : fb M_lr_uses 9 .ifnull 27 12 := ⟨18, by decide +kernel, by decide, rfl⟩
theorem i_lr_uses_12 : fe M_lr_uses 12 (.aload_n 0) 1 13 := ⟨by decide +kernel, rfl⟩
theorem i_lr_uses_13 : fe M_lr_uses 13 (.iload_n 2) 1 14 := ⟨by decide +kernel, rfl⟩
theorem i_lr_uses_14 : fe M_lr_uses 14 (.invokevirtual 67) 3 17 := ⟨by decide +kernel, rfl⟩
theorem i_lr_uses_17 : fb M_lr_uses 17 .ifnull 27 20 := ⟨10, by decide +kernel, by decide, rfl⟩
theorem i_lr_uses_20 : fe M_lr_uses 20 (.iload_n 3) 1 21 := ⟨by decide +kernel, rfl⟩
theorem i_lr_uses_21 : fe M_lr_uses 21 (.invokestatic 51) 3 24 := ⟨by decide +kernel, rfl⟩
theorem i_lr_uses_24 : fb M_lr_uses 24 (.ifCond .ne) 29 27 := ⟨5, by decide +kernel, by decide, rfl⟩
theorem i_lr_uses_27 : fe M_lr_uses 27 (.iconst 0) 1 28 := ⟨by decide +kernel, rfl⟩
theorem i_lr_uses_28 : fe M_lr_uses 28 .ireturn 1 29 := ⟨by decide +kernel, rfl⟩
theorem i_lr_uses_29 : fe M_lr_uses 29 (.aload 4) 2 31 := ⟨by decide +kernel, rfl⟩
theorem i_lr_uses_31 : fe M_lr_uses 31 (.iload_n 2) 1 32 := ⟨by decide +kernel, rfl⟩
theorem i_lr_uses_32 : fe M_lr_uses 32 (.iload_n 3) 1 33 := ⟨by decide +kernel, rfl⟩
theorem i_lr_uses_33 : fe M_lr_uses 33 (.invokevirtual 118) 3 36 := ⟨by decide +kernel, rfl⟩
theorem i_lr_uses_36 : fe M_lr_uses 36 .ireturn 1 37 := ⟨by decide +kernel, rfl⟩
theorem i_lr_grant_0 : fe M_lr_grant 0 (.aload_n 0) 1 1 := ⟨by decide +kernel, rfl⟩
theorem i_lr_grant_1 : fe M_lr_grant 1 (.iload_n 1) 1 2 := ⟨by decide +kernel, rfl⟩
theorem i_lr_grant_2 : fe M_lr_grant 2 (.invokevirtual 67) 3 5 := ⟨by decide +kernel, rfl⟩
theorem i_lr_grant_5 : fe M_lr_grant 5 (.astore_n 3) 1 6 := ⟨by decide +kernel, rfl⟩
theorem i_lr_grant_6 : fe M_lr_grant 6 (.aload_n 3) 1 7 := ⟨by decide +kernel, rfl⟩
theorem i_lr_grant_7 : fb M_lr_grant 7 .ifnull 14 10 := ⟨7, by decide +kernel, by decide, rfl⟩
theorem i_lr_grant_10 : fe M_lr_grant 10 (.iload_n 2) 1 11 := ⟨by decide +kernel, rfl⟩
theorem i_lr_grant_11 : fb M_lr_grant 11 (.ifCond .ge) 16 14 := ⟨5, by decide +kernel, by decide, rfl⟩
theorem i_lr_grant_14 : fe M_lr_grant 14 (.iconst 0) 1 15 := ⟨by decide +kernel, rfl⟩
theorem i_lr_grant_15 : fe M_lr_grant 15 .ireturn 1 16 := ⟨by decide +kernel, rfl⟩
theorem i_lr_grant_16 : fe M_lr_grant 16 (.aload_n 3) 1 17 := ⟨by decide +kernel, rfl⟩
theorem i_lr_grant_17 : fe M_lr_grant 17 (.iload_n 2) 1 18 := ⟨by decide +kernel, rfl⟩
theorem i_lr_grant_18 : fe M_lr_grant 18 (.putfield 122) 3 21 := ⟨by decide +kernel, rfl⟩
theorem i_lr_grant_21 : fe M_lr_grant 21 (.iconst 1) 1 22 := ⟨by decide +kernel, rfl⟩
theorem i_lr_grant_22 : fe M_lr_grant 22 .ireturn 1 23 := ⟨by decide +kernel, rfl⟩
theorem i_lr_tick_0 : fe M_lr_tick 0 (.iload_n 1) 1 1 := ⟨by decide +kernel, rfl⟩
theorem i_lr_tick_1 : fb M_lr_tick 1 (.ifCond .lt) 21 4 := ⟨20, by decide +kernel, by decide, rfl⟩
theorem i_lr_tick_4 : fe M_lr_tick 4 (.iload_n 1) 1 5 := ⟨by decide +kernel, rfl⟩
theorem i_lr_tick_5 : fe M_lr_tick 5 (.ldc 125) 2 7 := ⟨by decide +kernel, rfl⟩
theorem i_lr_tick_7 : fb M_lr_tick 7 (.if_icmp .gt) 21 10 := ⟨14, by decide +kernel, by decide, rfl⟩
theorem i_lr_tick_10 : fe M_lr_tick 10 (.iload_n 1) 1 11 := ⟨by decide +kernel, rfl⟩
theorem i_lr_tick_11 : fe M_lr_tick 11 (.ldc 126) 2 13 := ⟨by decide +kernel, rfl⟩
theorem i_lr_tick_13 : fe M_lr_tick 13 (.aload_n 0) 1 14 := ⟨by decide +kernel, rfl⟩
theorem i_lr_tick_14 : fe M_lr_tick 14 (.getfield 40) 3 17 := ⟨by decide +kernel, rfl⟩
theorem i_lr_tick_17 : fe M_lr_tick 17 .isub 1 18 := ⟨by decide +kernel, rfl⟩
theorem i_lr_tick_18 : fb M_lr_tick 18 (.if_icmp .le) 23 21 := ⟨5, by decide +kernel, by decide, rfl⟩
theorem i_lr_tick_21 : fe M_lr_tick 21 (.iconst (-1)) 1 22 := ⟨by decide +kernel, rfl⟩
theorem i_lr_tick_22 : fe M_lr_tick 22 .ireturn 1 23 := ⟨by decide +kernel, rfl⟩
theorem i_lr_tick_23 : fe M_lr_tick 23 (.aload_n 0) 1 24 := ⟨by decide +kernel, rfl⟩
theorem i_lr_tick_24 : fe M_lr_tick 24 .dup 1 25 := ⟨by decide +kernel, rfl⟩
theorem i_lr_tick_25 : fe M_lr_tick 25 (.getfield 40) 3 28 := ⟨by decide +kernel, rfl⟩
theorem i_lr_tick_28 : fe M_lr_tick 28 (.iload_n 1) 1 29 := ⟨by decide +kernel, rfl⟩
theorem i_lr_tick_29 : fe M_lr_tick 29 .iadd 1 30 := ⟨by decide +kernel, rfl⟩
theorem i_lr_tick_30 : fe M_lr_tick 30 (.putfield 40) 3 33 := ⟨by decide +kernel, rfl⟩
theorem i_lr_tick_33 : fe M_lr_tick 33 (.aload_n 0) 1 34 := ⟨by decide +kernel, rfl⟩
theorem i_lr_tick_34 : fe M_lr_tick 34 (.getfield 40) 3 37 := ⟨by decide +kernel, rfl⟩
theorem i_lr_tick_37 : fe M_lr_tick 37 .ireturn 1 38 := ⟨by decide +kernel, rfl⟩
theorem i_lr_review_0 : fe M_lr_review 0 (.aload_n 0) 1 1 := ⟨by decide +kernel, rfl⟩
theorem i_lr_review_1 : fe M_lr_review 1 (.iload_n 1) 1 2 := ⟨by decide +kernel, rfl⟩
theorem i_lr_review_2 : fe M_lr_review 2 (.invokevirtual 67) 3 5 := ⟨by decide +kernel, rfl⟩
theorem i_lr_review_5 : fb M_lr_review 5 .ifnull 15 8 := ⟨10, by decide +kernel, by decide, rfl⟩
theorem i_lr_review_8 : fe M_lr_review 8 (.iload_n 2) 1 9 := ⟨by decide +kernel, rfl⟩
theorem i_lr_review_9 : fe M_lr_review 9 (.invokestatic 51) 3 12 := ⟨by decide +kernel, rfl⟩
theorem i_lr_review_12 : fb M_lr_review 12 (.ifCond .ne) 17 15 := ⟨5, by decide +kernel, by decide, rfl⟩
theorem i_lr_review_15 : fe M_lr_review 15 (.iconst (-1)) 1 16 := ⟨by decide +kernel, rfl⟩
theorem i_lr_review_16 : fe M_lr_review 16 .ireturn 1 17 := ⟨by decide +kernel, rfl⟩
theorem i_lr_review_17 : fe M_lr_review 17 (.aload_n 0) 1 18 := ⟨by decide +kernel, rfl⟩
theorem i_lr_review_18 : fe M_lr_review 18 (.getfield 32) 3 21 := ⟨by decide +kernel, rfl⟩
theorem i_lr_review_21 : fe M_lr_review 21 (.aload_n 0) 1 22 := ⟨by decide +kernel, rfl⟩
theorem i_lr_review_22 : fe M_lr_review 22 (.getfield 25) 3 25 := ⟨by decide +kernel, rfl⟩
theorem i_lr_review_25 : fe M_lr_review 25 (.iload_n 1) 1 26 := ⟨by decide +kernel, rfl⟩
theorem i_lr_review_26 : fe M_lr_review 26 (.iload_n 2) 1 27 := ⟨by decide +kernel, rfl⟩
theorem i_lr_review_27 : fe M_lr_review 27 (.invokevirtual 127) 3 30 := ⟨by decide +kernel, rfl⟩
theorem i_lr_review_30 : fe M_lr_review 30 (.aload_n 0) 1 31 := ⟨by decide +kernel, rfl⟩
theorem i_lr_review_31 : fe M_lr_review 31 (.getfield 32) 3 34 := ⟨by decide +kernel, rfl⟩
theorem i_lr_review_34 : fe M_lr_review 34 (.aload_n 0) 1 35 := ⟨by decide +kernel, rfl⟩
theorem i_lr_review_35 : fe M_lr_review 35 (.getfield 25) 3 38 := ⟨by decide +kernel, rfl⟩
theorem i_lr_review_38 : fe M_lr_review 38 (.aload_n 0) 1 39 := ⟨by decide +kernel, rfl⟩
theorem i_lr_review_39 : fe M_lr_review 39 (.getfield 12) 3 42 := ⟨by decide +kernel, rfl⟩
theorem i_lr_review_42 : fe M_lr_review 42 (.aload_n 0) 1 43 := ⟨by decide +kernel, rfl⟩
theorem i_lr_review_43 : fe M_lr_review 43 (.getfield 40) 3 46 := ⟨by decide +kernel, rfl⟩
theorem i_lr_review_46 : fe M_lr_review 46 (.invokevirtual 131) 3 49 := ⟨by decide +kernel, rfl⟩
theorem i_lr_review_49 : fe M_lr_review 49 .ireturn 1 50 := ⟨by decide +kernel, rfl⟩
theorem i_lr_entry_0 : fe M_lr_entry 0 (.aload_n 0) 1 1 := ⟨by decide +kernel, rfl⟩
theorem i_lr_entry_1 : fe M_lr_entry 1 (.getfield 32) 3 4 := ⟨by decide +kernel, rfl⟩
theorem i_lr_entry_4 : fe M_lr_entry 4 (.iload_n 1) 1 5 := ⟨by decide +kernel, rfl⟩
theorem i_lr_entry_5 : fe M_lr_entry 5 (.iload_n 2) 1 6 := ⟨by decide +kernel, rfl⟩
theorem i_lr_entry_6 : fe M_lr_entry 6 (.invokevirtual 135) 3 9 := ⟨by decide +kernel, rfl⟩
theorem i_lr_entry_9 : fe M_lr_entry 9 .ireturn 1 10 := ⟨by decide +kernel, rfl⟩
theorem i_lr_all_0 : fe M_lr_all 0 (.aload_n 0) 1 1 := ⟨by decide +kernel, rfl⟩
theorem i_lr_all_1 : fe M_lr_all 1 (.getfield 32) 3 4 := ⟨by decide +kernel, rfl⟩
theorem i_lr_all_4 : fe M_lr_all 4 (.invokevirtual 138) 3 7 := ⟨by decide +kernel, rfl⟩
theorem i_lr_all_7 : fe M_lr_all 7 .ireturn 1 8 := ⟨by decide +kernel, rfl⟩
theorem i_lr_material_0 : fe M_lr_material 0 (.aload_n 0) 1 1 := ⟨by decide +kernel, rfl⟩
theorem i_lr_material_1 : fe M_lr_material 1 (.getfield 32) 3 4 := ⟨by decide +kernel, rfl⟩
theorem i_lr_material_4 : fe M_lr_material 4 (.iload_n 1) 1 5 := ⟨by decide +kernel, rfl⟩
theorem i_lr_material_5 : fe M_lr_material 5 (.invokevirtual 141) 3 8 := ⟨by decide +kernel, rfl⟩
theorem i_lr_material_8 : fe M_lr_material 8 .ireturn 1 9 := ⟨by decide +kernel, rfl⟩
theorem i_lr_found_0 : fe M_lr_found 0 (.iload_n 3) 1 1 := ⟨by decide +kernel, rfl⟩
theorem i_lr_found_1 : fb M_lr_found 1 (.ifCond .eq) 11 4 := ⟨10, by decide +kernel, by decide, rfl⟩
theorem i_lr_found_4 : fe M_lr_found 4 (.iload_n 3) 1 5 := ⟨by decide +kernel, rfl⟩
theorem i_lr_found_5 : fe M_lr_found 5 (.iconst 1) 1 6 := ⟨by decide +kernel, rfl⟩
theorem i_lr_found_6 : fb M_lr_found 6 (.if_icmp .eq) 11 9 := ⟨5, by decide +kernel, by decide, rfl⟩
theorem i_lr_found_9 : fe M_lr_found 9 (.iconst (-1)) 1 10 := ⟨by decide +kernel, rfl⟩
theorem i_lr_found_10 : fe M_lr_found 10 .ireturn 1 11 := ⟨by decide +kernel, rfl⟩
theorem i_lr_found_11 : fe M_lr_found 11 (.iconst (-1)) 1 12 := ⟨by decide +kernel, rfl⟩
theorem i_lr_found_12 : fe M_lr_found 12 (.istore 4) 2 14 := ⟨by decide +kernel, rfl⟩
theorem i_lr_found_14 : fe M_lr_found 14 (.iconst (-1)) 1 15 := ⟨by decide +kernel, rfl⟩
theorem i_lr_found_15 : fe M_lr_found 15 (.istore 5) 2 17 := ⟨by decide +kernel, rfl⟩
theorem i_lr_found_17 : fe M_lr_found 17 (.bipush 59) 2 19 := ⟨by decide +kernel, rfl⟩
theorem i_lr_found_19 : fe M_lr_found 19 (.istore 6) 2 21 := ⟨by decide +kernel, rfl⟩
theorem i_lr_found_21 : fe M_lr_found 21 (.iconst 0) 1 22 := ⟨by decide +kernel, rfl⟩
theorem i_lr_found_22 : fe M_lr_found 22 (.istore 7) 2 24 := ⟨by decide +kernel, rfl⟩
theorem i_lr_found_24 : fe M_lr_found 24 (.iload 7) 2 26 := ⟨by decide +kernel, rfl⟩
theorem i_lr_found_26 : fe M_lr_found 26 (.aload_n 0) 1 27 := ⟨by decide +kernel, rfl⟩
theorem i_lr_found_27 : fe M_lr_found 27 (.getfield 12) 3 30 := ⟨by decide +kernel, rfl⟩
theorem i_lr_found_30 : fe M_lr_found 30 (.invokevirtual 71) 3 33 := ⟨by decide +kernel, rfl⟩
theorem i_lr_found_33 : fb M_lr_found 33 (.if_icmp .ge) 98 36 := ⟨65, by decide +kernel, by decide, rfl⟩
theorem i_lr_found_36 : fe M_lr_found 36 (.aload_n 0) 1 37 := ⟨by decide +kernel, rfl⟩
theorem i_lr_found_37 : fe M_lr_found 37 (.getfield 12) 3 40 := ⟨by decide +kernel, rfl⟩
theorem i_lr_found_40 : fe M_lr_found 40 (.lload_n 1) 1 41 := ⟨by decide +kernel, rfl⟩
theorem i_lr_found_41 : fe M_lr_found 41 (.iload 7) 2 43 := ⟨by decide +kernel, rfl⟩
theorem i_lr_found_43 : fe M_lr_found 43 (.invokevirtual 144) 3 46 := ⟨by decide +kernel, rfl⟩
theorem i_lr_found_46 : fe M_lr_found 46 (.istore 8) 2 48 := ⟨by decide +kernel, rfl⟩
theorem i_lr_found_48 : fe M_lr_found 48 (.iload 8) 2 50 := ⟨by decide +kernel, rfl⟩
theorem i_lr_found_50 : fe M_lr_found 50 (.iload 6) 2 52 := ⟨by decide +kernel, rfl⟩
theorem i_lr_found_52 : fb M_lr_found 52 (.if_icmp .le) 69 55 := ⟨17, by decide +kernel, by decide, rfl⟩
theorem i_lr_found_55 : fe M_lr_found 55 (.iload 8) 2 57 := ⟨by decide +kernel, rfl⟩
theorem i_lr_found_57 : fe M_lr_found 57 (.istore 6) 2 59 := ⟨by decide +kernel, rfl⟩
theorem i_lr_found_59 : fe M_lr_found 59 (.iload 7) 2 61 := ⟨by decide +kernel, rfl⟩
theorem i_lr_found_61 : fe M_lr_found 61 (.istore 4) 2 63 := ⟨by decide +kernel, rfl⟩
theorem i_lr_found_63 : fe M_lr_found 63 (.iconst (-1)) 1 64 := ⟨by decide +kernel, rfl⟩
theorem i_lr_found_64 : fe M_lr_found 64 (.istore 5) 2 66 := ⟨by decide +kernel, rfl⟩
theorem i_lr_found_66 : fb M_lr_found 66 .goto 92 69 := ⟨26, by decide +kernel, by decide, rfl⟩
theorem i_lr_found_69 : fe M_lr_found 69 (.iload 8) 2 71 := ⟨by decide +kernel, rfl⟩
theorem i_lr_found_71 : fe M_lr_found 71 (.iload 6) 2 73 := ⟨by decide +kernel, rfl⟩
theorem i_lr_found_73 : fb M_lr_found 73 (.if_icmp .ne) 92 76 := ⟨19, by decide +kernel, by decide, rfl⟩
theorem i_lr_found_76 : fe M_lr_found 76 (.iload 4) 2 78 := ⟨by decide +kernel, rfl⟩
theorem i_lr_found_78 : fe M_lr_found 78 (.iconst (-1)) 1 79 := ⟨by decide +kernel, rfl⟩
theorem i_lr_found_79 : fb M_lr_found 79 (.if_icmp .eq) 92 82 := ⟨13, by decide +kernel, by decide, rfl⟩
theorem i_lr_found_82 : fe M_lr_found 82 (.iload 5) 2 84 := ⟨by decide +kernel, rfl⟩
theorem i_lr_found_84 : fe M_lr_found 84 (.iconst (-1)) 1 85 := ⟨by decide +kernel, rfl⟩
theorem i_lr_found_85 : fb M_lr_found 85 (.if_icmp .ne) 92 88 := ⟨7, by decide +kernel, by decide, rfl⟩
theorem i_lr_found_88 : fe M_lr_found 88 (.iload 7) 2 90 := ⟨by decide +kernel, rfl⟩
theorem i_lr_found_90 : fe M_lr_found 90 (.istore 5) 2 92 := ⟨by decide +kernel, rfl⟩
theorem i_lr_found_92 : fe M_lr_found 92 (.iinc 7 1) 3 95 := ⟨by decide +kernel, rfl⟩
theorem i_lr_found_95 : fb M_lr_found 95 .goto 24 98 := ⟨-71, by decide +kernel, by decide, rfl⟩
theorem i_lr_found_98 : fe M_lr_found 98 (.iload_n 3) 1 99 := ⟨by decide +kernel, rfl⟩
theorem i_lr_found_99 : fb M_lr_found 99 (.ifCond .ne) 107 102 := ⟨8, by decide +kernel, by decide, rfl⟩
theorem i_lr_found_102 : fe M_lr_found 102 (.iload 4) 2 104 := ⟨by decide +kernel, rfl⟩
theorem i_lr_found_104 : fb M_lr_found 104 .goto 109 107 := ⟨5, by decide +kernel, by decide, rfl⟩
theorem i_lr_found_107 : fe M_lr_found 107 (.iload 5) 2 109 := ⟨by decide +kernel, rfl⟩
theorem i_lr_found_109 : fe M_lr_found 109 .ireturn 1 110 := ⟨by decide +kernel, rfl⟩
theorem i_lr_score_0 : fe M_lr_score 0 (.aload_n 0) 1 1 := ⟨by decide +kernel, rfl⟩
theorem i_lr_score_1 : fe M_lr_score 1 (.getfield 12) 3 4 := ⟨by decide +kernel, rfl⟩
theorem i_lr_score_4 : fe M_lr_score 4 (.iload_n 3) 1 5 := ⟨by decide +kernel, rfl⟩
theorem i_lr_score_5 : fe M_lr_score 5 (.invokevirtual 47) 3 8 := ⟨by decide +kernel, rfl⟩
theorem i_lr_score_8 : fb M_lr_score 8 (.ifCond .eq) 23 11 := ⟨15, by decide +kernel, by decide, rfl⟩
theorem i_lr_score_11 : fe M_lr_score 11 (.aload_n 0) 1 12 := ⟨by decide +kernel, rfl⟩
theorem i_lr_score_12 : fe M_lr_score 12 (.getfield 12) 3 15 := ⟨by decide +kernel, rfl⟩
theorem i_lr_score_15 : fe M_lr_score 15 (.lload_n 1) 1 16 := ⟨by decide +kernel, rfl⟩
theorem i_lr_score_16 : fe M_lr_score 16 (.iload_n 3) 1 17 := ⟨by decide +kernel, rfl⟩
theorem i_lr_score_17 : fe M_lr_score 17 (.invokevirtual 144) 3 20 := ⟨by decide +kernel, rfl⟩
theorem i_lr_score_20 : fb M_lr_score 20 .goto 24 23 := ⟨4, by decide +kernel, by decide, rfl⟩
theorem i_lr_score_23 : fe M_lr_score 23 (.iconst (-1)) 1 24 := ⟨by decide +kernel, rfl⟩
theorem i_lr_score_24 : fe M_lr_score 24 .ireturn 1 25 := ⟨by decide +kernel, rfl⟩
theorem i_lr_isWay_0 : fe M_lr_isWay 0 (.iload_n 0) 1 1 := ⟨by decide +kernel, rfl⟩
theorem i_lr_isWay_1 : fb M_lr_isWay 1 (.ifCond .lt) 13 4 := ⟨12, by decide +kernel, by decide, rfl⟩
theorem i_lr_isWay_4 : fe M_lr_isWay 4 (.iload_n 0) 1 5 := ⟨by decide +kernel, rfl⟩
theorem i_lr_isWay_5 : fe M_lr_isWay 5 (.iconst 3) 1 6 := ⟨by decide +kernel, rfl⟩
theorem i_lr_isWay_6 : fb M_lr_isWay 6 (.if_icmp .ge) 13 9 := ⟨7, by decide +kernel, by decide, rfl⟩
theorem i_lr_isWay_9 : fe M_lr_isWay 9 (.iconst 1) 1 10 := ⟨by decide +kernel, rfl⟩
theorem i_lr_isWay_10 : fb M_lr_isWay 10 .goto 14 13 := ⟨4, by decide +kernel, by decide, rfl⟩
theorem i_lr_isWay_13 : fe M_lr_isWay 13 (.iconst 0) 1 14 := ⟨by decide +kernel, rfl⟩
theorem i_lr_isWay_14 : fe M_lr_isWay 14 .ireturn 1 15 := ⟨by decide +kernel, rfl⟩
theorem i_lr_packAt_0 : fe M_lr_packAt 0 (.iload_n 1) 1 1 := ⟨by decide +kernel, rfl⟩
theorem i_lr_packAt_1 : fb M_lr_packAt 1 (.ifCond .lt) 12 4 := ⟨11, by decide +kernel, by decide, rfl⟩
theorem i_lr_packAt_4 : fe M_lr_packAt 4 (.iload_n 1) 1 5 := ⟨by decide +kernel, rfl⟩
theorem i_lr_packAt_5 : fe M_lr_packAt 5 (.aload_n 0) 1 6 := ⟨by decide +kernel, rfl⟩
theorem i_lr_packAt_6 : fe M_lr_packAt 6 (.getfield 36) 3 9 := ⟨by decide +kernel, rfl⟩
theorem i_lr_packAt_9 : fb M_lr_packAt 9 (.if_icmp .lt) 16 12 := ⟨7, by decide +kernel, by decide, rfl⟩
theorem i_lr_packAt_12 : fe M_lr_packAt 12 .aconst_null 1 13 := ⟨by decide +kernel, rfl⟩
theorem i_lr_packAt_13 : fb M_lr_packAt 13 .goto 22 16 := ⟨9, by decide +kernel, by decide, rfl⟩
theorem i_lr_packAt_16 : fe M_lr_packAt 16 (.aload_n 0) 1 17 := ⟨by decide +kernel, rfl⟩
theorem i_lr_packAt_17 : fe M_lr_packAt 17 (.getfield 25) 3 20 := ⟨by decide +kernel, rfl⟩
theorem i_lr_packAt_20 : fe M_lr_packAt 20 (.iload_n 1) 1 21 := ⟨by decide +kernel, rfl⟩
theorem i_lr_packAt_21 : fe M_lr_packAt 21 .aaload 1 22 := ⟨by decide +kernel, rfl⟩
theorem i_lr_packAt_22 : fe M_lr_packAt 22 .areturn 1 23 := ⟨by decide +kernel, rfl⟩
end
section
theorem i_mo_init_0 : fe M_mo_init 0 (.aload_n 0) 1 1 := ⟨by decide +kernel, rfl⟩
theorem i_mo_init_1 : fe M_mo_init 1 (.invokespecial 1) 3 4 := ⟨by decide +kernel, rfl⟩
theorem i_mo_init_4 : fe M_mo_init 4 (.aload_n 0) 1 5 := ⟨by decide +kernel, rfl⟩
theorem i_mo_init_5 : fe M_mo_init 5 (.bipush 16) 2 7 := ⟨by decide +kernel, rfl⟩
theorem i_mo_init_7 : fe M_mo_init 7 (.newarray .long) 2 9 := ⟨by decide +kernel, rfl⟩
theorem i_mo_init_9 : fe M_mo_init 9 (.putfield 7) 3 12 := ⟨by decide +kernel, rfl⟩
theorem i_mo_init_12 : fe M_mo_init 12 (.aload_n 0) 1 13 := ⟨by decide +kernel, rfl⟩
theorem i_mo_init_13 : fe M_mo_init 13 (.bipush 48) 2 15 := ⟨by decide +kernel, rfl⟩
theorem i_mo_init_15 : fe M_mo_init 15 (.newarray .int) 2 17 := ⟨by decide +kernel, rfl⟩
theorem i_mo_init_17 : fe M_mo_init 17 (.putfield 13) 3 20 := ⟨by decide +kernel, rfl⟩
theorem i_mo_init_20 : fe M_mo_init 20 (.aload_n 0) 1 21 := ⟨by decide +kernel, rfl⟩
theorem i_mo_init_21 : fe M_mo_init 21 (.bipush 48) 2 23 := ⟨by decide +kernel, rfl⟩
theorem i_mo_init_23 : fe M_mo_init 23 (.newarray .int) 2 25 := ⟨by decide +kernel, rfl⟩
theorem i_mo_init_25 : fe M_mo_init 25 (.putfield 17) 3 28 := ⟨by decide +kernel, rfl⟩
theorem i_mo_init_28 : fe M_mo_init 28 (.aload_n 0) 1 29 := ⟨by decide +kernel, rfl⟩
theorem i_mo_init_29 : fe M_mo_init 29 (.bipush 24) 2 31 := ⟨by decide +kernel, rfl⟩
theorem i_mo_init_31 : fe M_mo_init 31 (.newarray .boolean) 2 33 := ⟨by decide +kernel, rfl⟩
theorem i_mo_init_33 : fe M_mo_init 33 (.putfield 20) 3 36 := ⟨by decide +kernel, rfl⟩
theorem i_mo_init_36 : fe M_mo_init 36 (.aload_n 0) 1 37 := ⟨by decide +kernel, rfl⟩
theorem i_mo_init_37 : fe M_mo_init 37 (.bipush 60) 2 39 := ⟨by decide +kernel, rfl⟩
theorem i_mo_init_39 : fe M_mo_init 39 (.newarray .int) 2 41 := ⟨by decide +kernel, rfl⟩
theorem i_mo_init_41 : fe M_mo_init 41 (.putfield 24) 3 44 := ⟨by decide +kernel, rfl⟩
theorem i_mo_init_44 : fe M_mo_init 44 (.aload_n 0) 1 45 := ⟨by decide +kernel, rfl⟩
theorem i_mo_init_45 : fe M_mo_init 45 (.bipush 16) 2 47 := ⟨by decide +kernel, rfl⟩
theorem i_mo_init_47 : fe M_mo_init 47 (.newarray .int) 2 49 := ⟨by decide +kernel, rfl⟩
theorem i_mo_init_49 : fe M_mo_init 49 (.putfield 27) 3 52 := ⟨by decide +kernel, rfl⟩
theorem i_mo_init_52 : fe M_mo_init 52 (.aload_n 0) 1 53 := ⟨by decide +kernel, rfl⟩
theorem i_mo_init_53 : fe M_mo_init 53 (.sipush 480) 3 56 := ⟨by decide +kernel, rfl⟩
theorem i_mo_init_56 : fe M_mo_init 56 (.newarray .int) 2 58 := ⟨by decide +kernel, rfl⟩
theorem i_mo_init_58 : fe M_mo_init 58 (.putfield 30) 3 61 := ⟨by decide +kernel, rfl⟩
theorem i_mo_init_61 : fe M_mo_init 61 (.aload_n 0) 1 62 := ⟨by decide +kernel, rfl⟩
theorem i_mo_init_62 : fe M_mo_init 62 (.bipush 16) 2 64 := ⟨by decide +kernel, rfl⟩
theorem i_mo_init_64 : fe M_mo_init 64 (.newarray .int) 2 66 := ⟨by decide +kernel, rfl⟩
theorem i_mo_init_66 : fe M_mo_init 66 (.putfield 33) 3 69 := ⟨by decide +kernel, rfl⟩
theorem i_mo_init_69 : fe M_mo_init 69 (.aload_n 0) 1 70 := ⟨by decide +kernel, rfl⟩
theorem i_mo_init_70 : fe M_mo_init 70 (.sipush 320) 3 73 := ⟨by decide +kernel, rfl⟩
theorem i_mo_init_73 : fe M_mo_init 73 (.newarray .int) 2 75 := ⟨by decide +kernel, rfl⟩
theorem i_mo_init_75 : fe M_mo_init 75 (.putfield 36) 3 78 := ⟨by decide +kernel, rfl⟩
theorem i_mo_init_78 : fe M_mo_init 78 (.aload_n 0) 1 79 := ⟨by decide +kernel, rfl⟩
theorem i_mo_init_79 : fe M_mo_init 79 (.bipush 16) 2 81 := ⟨by decide +kernel, rfl⟩
theorem i_mo_init_81 : fe M_mo_init 81 (.newarray .int) 2 83 := ⟨by decide +kernel, rfl⟩
theorem i_mo_init_83 : fe M_mo_init 83 (.putfield 39) 3 86 := ⟨by decide +kernel, rfl⟩
theorem i_mo_init_86 : fe M_mo_init 86 (.aload_n 0) 1 87 := ⟨by decide +kernel, rfl⟩
theorem i_mo_init_87 : fe M_mo_init 87 (.bipush 96) 2 89 := ⟨by decide +kernel, rfl⟩
theorem i_mo_init_89 : fe M_mo_init 89 (.newarray .int) 2 91 := ⟨by decide +kernel, rfl⟩
theorem i_mo_init_91 : fe M_mo_init 91 (.putfield 42) 3 94 := ⟨by decide +kernel, rfl⟩
theorem i_mo_init_94 : fe M_mo_init 94 (.aload_n 0) 1 95 := ⟨by decide +kernel, rfl⟩
theorem i_mo_init_95 : fe M_mo_init 95 (.bipush 96) 2 97 := ⟨by decide +kernel, rfl⟩
theorem i_mo_init_97 : fe M_mo_init 97 (.newarray .int) 2 99 := ⟨by decide +kernel, rfl⟩
theorem i_mo_init_99 : fe M_mo_init 99 (.putfield 45) 3 102 := ⟨by decide +kernel, rfl⟩
theorem i_mo_init_102 : fe M_mo_init 102 (.aload_n 0) 1 103 := ⟨by decide +kernel, rfl⟩
theorem i_mo_init_103 : fe M_mo_init 103 (.bipush 16) 2 105 := ⟨by decide +kernel, rfl⟩
theorem i_mo_init_105 : fe M_mo_init 105 (.newarray .int) 2 107 := ⟨by decide +kernel, rfl⟩
theorem i_mo_init_107 : fe M_mo_init 107 (.putfield 48) 3 110 := ⟨by decide +kernel, rfl⟩
theorem i_mo_init_110 : fe M_mo_init 110 (.aload_n 0) 1 111 := ⟨by decide +kernel, rfl⟩
theorem i_mo_init_111 : fe M_mo_init 111 (.bipush 30) 2 113 := ⟨by decide +kernel, rfl⟩
theorem i_mo_init_113 : fe M_mo_init 113 (.newarray .int) 2 115 := ⟨by decide +kernel, rfl⟩
theorem i_mo_init_115 : fe M_mo_init 115 (.putfield 51) 3 118 := ⟨by decide +kernel, rfl⟩
theorem i_mo_init_118 : fe M_mo_init 118 (.aload_n 0) 1 119 := ⟨by decide +kernel, rfl⟩
theorem i_mo_init_119 : fe M_mo_init 119 (.sipush 800) 3 122 := ⟨by decide +kernel, rfl⟩
theorem i_mo_init_122 : fe M_mo_init 122 (.newarray .int) 2 124 := ⟨by decide +kernel, rfl⟩
theorem i_mo_init_124 : fe M_mo_init 124 (.putfield 54) 3 127 := ⟨by decide +kernel, rfl⟩
theorem i_mo_init_127 : fe M_mo_init 127 (.aload_n 0) 1 128 := ⟨by decide +kernel, rfl⟩
theorem i_mo_init_128 : fe M_mo_init 128 (.bipush 40) 2 130 := ⟨by decide +kernel, rfl⟩
theorem i_mo_init_130 : fe M_mo_init 130 (.newarray .int) 2 132 := ⟨by decide +kernel, rfl⟩
theorem i_mo_init_132 : fe M_mo_init 132 (.putfield 57) 3 135 := ⟨by decide +kernel, rfl⟩
theorem i_mo_init_135 : fe M_mo_init 135 (.aload_n 0) 1 136 := ⟨by decide +kernel, rfl⟩
theorem i_mo_init_136 : fe M_mo_init 136 (.sipush 400) 3 139 := ⟨by decide +kernel, rfl⟩
theorem i_mo_init_139 : fe M_mo_init 139 (.newarray .int) 2 141 := ⟨by decide +kernel, rfl⟩
theorem i_mo_init_141 : fe M_mo_init 141 (.putfield 60) 3 144 := ⟨by decide +kernel, rfl⟩
theorem i_mo_init_144 : fe M_mo_init 144 (.aload_n 0) 1 145 := ⟨by decide +kernel, rfl⟩
theorem i_mo_init_145 : fe M_mo_init 145 (.bipush 80) 2 147 := ⟨by decide +kernel, rfl⟩
theorem i_mo_init_147 : fe M_mo_init 147 (.newarray .int) 2 149 := ⟨by decide +kernel, rfl⟩
theorem i_mo_init_149 : fe M_mo_init 149 (.putfield 63) 3 152 := ⟨by decide +kernel, rfl⟩
theorem i_mo_init_152 : fe M_mo_init 152 (.aload_n 0) 1 153 := ⟨by decide +kernel, rfl⟩
theorem i_mo_init_153 : fe M_mo_init 153 (.bipush 48) 2 155 := ⟨by decide +kernel, rfl⟩
theorem i_mo_init_155 : fe M_mo_init 155 (.newarray .int) 2 157 := ⟨by decide +kernel, rfl⟩
theorem i_mo_init_157 : fe M_mo_init 157 (.putfield 66) 3 160 := ⟨by decide +kernel, rfl⟩
theorem i_mo_init_160 : fe M_mo_init 160 (.aload_n 0) 1 161 := ⟨by decide +kernel, rfl⟩
theorem i_mo_init_161 : fe M_mo_init 161 (.bipush 48) 2 163 := ⟨by decide +kernel, rfl⟩
theorem i_mo_init_163 : fe M_mo_init 163 (.newarray .int) 2 165 := ⟨by decide +kernel, rfl⟩
theorem i_mo_init_165 : fe M_mo_init 165 (.putfield 69) 3 168 := ⟨by decide +kernel, rfl⟩
theorem i_mo_init_168 : fe M_mo_init 168 (.aload_n 0) 1 169 := ⟨by decide +kernel, rfl⟩
theorem i_mo_init_169 : fe M_mo_init 169 (.bipush 48) 2 171 := ⟨by decide +kernel, rfl⟩
theorem i_mo_init_171 : fe M_mo_init 171 (.newarray .int) 2 173 := ⟨by decide +kernel, rfl⟩
theorem i_mo_init_173 : fe M_mo_init 173 (.putfield 72) 3 176 := ⟨by decide +kernel, rfl⟩
theorem i_mo_init_176 : fe M_mo_init 176 (.aload_n 0) 1 177 := ⟨by decide +kernel, rfl⟩
theorem i_mo_init_177 : fe M_mo_init 177 (.bipush 48) 2 179 := ⟨by decide +kernel, rfl⟩
theorem i_mo_init_179 : fe M_mo_init 179 (.newarray .int) 2 181 := ⟨by decide +kernel, rfl⟩
theorem i_mo_init_181 : fe M_mo_init 181 (.putfield 75) 3 184 := ⟨by decide +kernel, rfl⟩
theorem i_mo_init_184 : fe M_mo_init 184 (.aload_n 0) 1 185 := ⟨by decide +kernel, rfl⟩
theorem i_mo_init_185 : fe M_mo_init 185 (.bipush 48) 2 187 := ⟨by decide +kernel, rfl⟩
theorem i_mo_init_187 : fe M_mo_init 187 (.newarray .int) 2 189 := ⟨by decide +kernel, rfl⟩
theorem i_mo_init_189 : fe M_mo_init 189 (.putfield 78) 3 192 := ⟨by decide +kernel, rfl⟩
theorem i_mo_init_192 : fe M_mo_init 192 (.iconst 0) 1 193 := ⟨by decide +kernel, rfl⟩
theorem i_mo_init_193 : fe M_mo_init 193 (.istore_n 1) 1 194 := ⟨by decide +kernel, rfl⟩
theorem i_mo_init_194 : fe M_mo_init 194 (.iload_n 1) 1 195 := ⟨by decide +kernel, rfl⟩
theorem i_mo_init_195 : fe M_mo_init 195 (.bipush 16) 2 197 := ⟨by decide +kernel, rfl⟩
theorem i_mo_init_197 : fb M_mo_init 197 (.if_icmp .ge) 213 200 := ⟨16, by decide +kernel, by decide, rfl⟩
theorem i_mo_init_200 : fe M_mo_init 200 (.aload_n 0) 1 201 := ⟨by decide +kernel, rfl⟩
theorem i_mo_init_201 : fe M_mo_init 201 (.getfield 48) 3 204 := ⟨by decide +kernel, rfl⟩
theorem i_mo_init_204 : fe M_mo_init 204 (.iload_n 1) 1 205 := ⟨by decide +kernel, rfl⟩
theorem i_mo_init_205 : fe M_mo_init 205 (.iconst (-1)) 1 206 := ⟨by decide +kernel, rfl⟩
theorem i_mo_init_206 : fe M_mo_init 206 .iastore 1 207 := ⟨by decide +kernel, rfl⟩
theorem i_mo_init_207 : fe M_mo_init 207 (.iinc 1 1) 3 210 := ⟨by decide +kernel, rfl⟩
theorem i_mo_init_210 : fb M_mo_init 210 .goto 194 213 := ⟨-16, by decide +kernel, by decide, rfl⟩
theorem i_mo_init_213 : fe M_mo_init 213 .return_ 1 214 := ⟨by decide +kernel, rfl⟩
theorem i_mo_isLicence_0 : fe M_mo_isLicence 0 (.iload_n 1) 1 1 := ⟨by decide +kernel, rfl⟩
theorem i_mo_isLicence_1 : fb M_mo_isLicence 1 (.ifCond .lt) 16 4 := ⟨15, by decide +kernel, by decide, rfl⟩
theorem i_mo_isLicence_4 : fe M_mo_isLicence 4 (.iload_n 1) 1 5 := ⟨by decide +kernel, rfl⟩
theorem i_mo_isLicence_5 : fe M_mo_isLicence 5 (.aload_n 0) 1 6 := ⟨by decide +kernel, rfl⟩
theorem i_mo_isLicence_6 : fe M_mo_isLicence 6 (.getfield 85) 3 9 := ⟨by decide +kernel, rfl⟩
theorem i_mo_isLicence_9 : fb M_mo_isLicence 9 (.if_icmp .ge) 16 12 := ⟨7, by decide +kernel, by decide, rfl⟩
theorem i_mo_isLicence_12 : fe M_mo_isLicence 12 (.iconst 1) 1 13 := ⟨by decide +kernel, rfl⟩
theorem i_mo_isLicence_13 : fb M_mo_isLicence 13 .goto 17 16 := ⟨4, by decide +kernel, by decide, rfl⟩
theorem i_mo_isLicence_16 : fe M_mo_isLicence 16 (.iconst 0) 1 17 := ⟨by decide +kernel, rfl⟩
theorem i_mo_isLicence_17 : fe M_mo_isLicence 17 .ireturn 1 18 := ⟨by decide +kernel, rfl⟩
theorem i_mo_isPack_0 : fe M_mo_isPack 0 (.iload_n 1) 1 1 := ⟨by decide +kernel, rfl⟩
theorem i_mo_isPack_1 : fb M_mo_isPack 1 (.ifCond .lt) 16 4 := ⟨15, by decide +kernel, by decide, rfl⟩
theorem i_mo_isPack_4 : fe M_mo_isPack 4 (.iload_n 1) 1 5 := ⟨by decide +kernel, rfl⟩
theorem i_mo_isPack_5 : fe M_mo_isPack 5 (.aload_n 0) 1 6 := ⟨by decide +kernel, rfl⟩
theorem i_mo_isPack_6 : fe M_mo_isPack 6 (.getfield 88) 3 9 := ⟨by decide +kernel, rfl⟩
theorem i_mo_isPack_9 : fb M_mo_isPack 9 (.if_icmp .ge) 16 12 := ⟨7, by decide +kernel, by decide, rfl⟩
theorem i_mo_isPack_12 : fe M_mo_isPack 12 (.iconst 1) 1 13 := ⟨by decide +kernel, rfl⟩
theorem i_mo_isPack_13 : fb M_mo_isPack 13 .goto 17 16 := ⟨4, by decide +kernel, by decide, rfl⟩
theorem i_mo_isPack_16 : fe M_mo_isPack 16 (.iconst 0) 1 17 := ⟨by decide +kernel, rfl⟩
theorem i_mo_isPack_17 : fe M_mo_isPack 17 .ireturn 1 18 := ⟨by decide +kernel, rfl⟩
theorem i_mo_isWay_0 : fe M_mo_isWay 0 (.iload_n 0) 1 1 := ⟨by decide +kernel, rfl⟩
theorem i_mo_isWay_1 : fb M_mo_isWay 1 (.ifCond .lt) 13 4 := ⟨12, by decide +kernel, by decide, rfl⟩
theorem i_mo_isWay_4 : fe M_mo_isWay 4 (.iload_n 0) 1 5 := ⟨by decide +kernel, rfl⟩
theorem i_mo_isWay_5 : fe M_mo_isWay 5 (.iconst 3) 1 6 := ⟨by decide +kernel, rfl⟩
theorem i_mo_isWay_6 : fb M_mo_isWay 6 (.if_icmp .ge) 13 9 := ⟨7, by decide +kernel, by decide, rfl⟩
theorem i_mo_isWay_9 : fe M_mo_isWay 9 (.iconst 1) 1 10 := ⟨by decide +kernel, rfl⟩
theorem i_mo_isWay_10 : fb M_mo_isWay 10 .goto 14 13 := ⟨4, by decide +kernel, by decide, rfl⟩
theorem i_mo_isWay_13 : fe M_mo_isWay 13 (.iconst 0) 1 14 := ⟨by decide +kernel, rfl⟩
theorem i_mo_isWay_14 : fe M_mo_isWay 14 .ireturn 1 15 := ⟨by decide +kernel, rfl⟩
theorem i_mo_licence_0 : fe M_mo_licence 0 (.aload_n 0) 1 1 := ⟨by decide +kernel, rfl⟩
theorem i_mo_licence_1 : fe M_mo_licence 1 (.iconst 0) 1 2 := ⟨by decide +kernel, rfl⟩
theorem i_mo_licence_2 : fe M_mo_licence 2 (.putfield 81) 3 5 := ⟨by decide +kernel, rfl⟩
theorem i_mo_licence_5 : fe M_mo_licence 5 (.aload_n 0) 1 6 := ⟨by decide +kernel, rfl⟩
theorem i_mo_licence_6 : fe M_mo_licence 6 (.getfield 85) 3 9 := ⟨by decide +kernel, rfl⟩
theorem i_mo_licence_9 : fe M_mo_licence 9 (.bipush 16) 2 11 := ⟨by decide +kernel, rfl⟩
theorem i_mo_licence_11 : fb M_mo_licence 11 (.if_icmp .ne) 16 14 := ⟨5, by decide +kernel, by decide, rfl⟩
theorem i_mo_licence_14 : fe M_mo_licence 14 (.iconst (-1)) 1 15 := ⟨by decide +kernel, rfl⟩
theorem i_mo_licence_15 : fe M_mo_licence 15 .ireturn 1 16 := ⟨by decide +kernel, rfl⟩
theorem i_mo_licence_16 : fe M_mo_licence 16 (.aload_n 0) 1 17 := ⟨by decide +kernel, rfl⟩
theorem i_mo_licence_17 : fe M_mo_licence 17 (.getfield 7) 3 20 := ⟨by decide +kernel, rfl⟩
theorem i_mo_licence_20 : fe M_mo_licence 20 (.aload_n 0) 1 21 := ⟨by decide +kernel, rfl⟩
theorem i_mo_licence_21 : fe M_mo_licence 21 (.getfield 85) 3 24 := ⟨by decide +kernel, rfl⟩
theorem i_mo_licence_24 : fe M_mo_licence 24 (.lload_n 1) 1 25 := ⟨by decide +kernel, rfl⟩
theorem i_mo_licence_25 : fe M_mo_licence 25 .lastore 1 26 := ⟨by decide +kernel, rfl⟩
theorem i_mo_licence_26 : fe M_mo_licence 26 (.aload_n 0) 1 27 := ⟨by decide +kernel, rfl⟩
theorem i_mo_licence_27 : fe M_mo_licence 27 .dup 1 28 := ⟨by decide +kernel, rfl⟩
theorem i_mo_licence_28 : fe M_mo_licence 28 (.getfield 85) 3 31 := ⟨by decide +kernel, rfl⟩
theorem i_mo_licence_31 : fe M_mo_licence 31 (.iconst 1) 1 32 := ⟨by decide +kernel, rfl⟩
theorem i_mo_licence_32 : fe M_mo_licence 32 .iadd 1 33 := ⟨by decide +kernel, rfl⟩
theorem i_mo_licence_33 : fe M_mo_licence 33 (.putfield 85) 3 36 := ⟨by decide +kernel, rfl⟩
theorem i_mo_licence_36 : fe M_mo_licence 36 (.aload_n 0) 1 37 := ⟨by decide +kernel, rfl⟩
theorem i_mo_licence_37 : fe M_mo_licence 37 (.getfield 85) 3 40 := ⟨by decide +kernel, rfl⟩
theorem i_mo_licence_40 : fe M_mo_licence 40 (.iconst 1) 1 41 := ⟨by decide +kernel, rfl⟩
theorem i_mo_licence_41 : fe M_mo_licence 41 .isub 1 42 := ⟨by decide +kernel, rfl⟩
theorem i_mo_licence_42 : fe M_mo_licence 42 .ireturn 1 43 := ⟨by decide +kernel, rfl⟩
theorem i_mo_rule_0 : fe M_mo_rule 0 (.aload_n 0) 1 1 := ⟨by decide +kernel, rfl⟩
theorem i_mo_rule_1 : fe M_mo_rule 1 (.iconst 0) 1 2 := ⟨by decide +kernel, rfl⟩
theorem i_mo_rule_2 : fe M_mo_rule 2 (.putfield 81) 3 5 := ⟨by decide +kernel, rfl⟩
theorem i_mo_rule_5 : fe M_mo_rule 5 (.aload_n 0) 1 6 := ⟨by decide +kernel, rfl⟩
theorem i_mo_rule_6 : fe M_mo_rule 6 (.iload_n 1) 1 7 := ⟨by decide +kernel, rfl⟩
theorem i_mo_rule_7 : fe M_mo_rule 7 (.invokevirtual 91) 3 10 := ⟨by decide +kernel, rfl⟩
theorem i_mo_rule_10 : fb M_mo_rule 10 (.ifCond .eq) 43 13 := ⟨33, by decide +kernel, by decide, rfl⟩
theorem i_mo_rule_13 : fe M_mo_rule 13 (.iload_n 2) 1 14 := ⟨by decide +kernel, rfl⟩
theorem i_mo_rule_14 : fe M_mo_rule 14 (.invokestatic 95) 3 17 := ⟨by decide +kernel, rfl⟩
theorem i_mo_rule_17 : fb M_mo_rule 17 (.ifCond .eq) 43 20 := ⟨26, by decide +kernel, by decide, rfl⟩
theorem i_mo_rule_20 : fe M_mo_rule 20 (.iload_n 3) 1 21 := ⟨by decide +kernel, rfl⟩
theorem i_mo_rule_21 : fb M_mo_rule 21 (.ifCond .lt) 43 24 := ⟨22, by decide +kernel, by decide, rfl⟩
theorem i_mo_rule_24 : fe M_mo_rule 24 (.iload_n 3) 1 25 := ⟨by decide +kernel, rfl⟩
theorem i_mo_rule_25 : fe M_mo_rule 25 (.iconst 2) 1 26 := ⟨by decide +kernel, rfl⟩
theorem i_mo_rule_26 : fb M_mo_rule 26 (.if_icmp .gt) 43 29 := ⟨17, by decide +kernel, by decide, rfl⟩
theorem i_mo_rule_29 : fe M_mo_rule 29 (.iload_n 3) 1 30 := ⟨by decide +kernel, rfl⟩
theorem i_mo_rule_30 : fe M_mo_rule 30 (.iconst 1) 1 31 := ⟨by decide +kernel, rfl⟩
theorem i_mo_rule_31 : fb M_mo_rule 31 (.if_icmp .ne) 45 34 := ⟨14, by decide +kernel, by decide, rfl⟩
theorem i_mo_rule_34 : fe M_mo_rule 34 (.iload 4) 2 36 := ⟨by decide +kernel, rfl⟩
theorem i_mo_rule_36 : fe M_mo_rule 36 (.sipush 255) 3 39 := ⟨by decide +kernel, rfl⟩
theorem i_mo_rule_39 : fe M_mo_rule 39 .iand 1 40 := ⟨by decide +kernel, rfl⟩
theorem i_mo_rule_40 : fb M_mo_rule 40 (.ifCond .ne) 45 43 := ⟨5, by decide +kernel, by decide, rfl⟩
theorem i_mo_rule_43 : fe M_mo_rule 43 (.iconst 0) 1 44 := ⟨by decide +kernel, rfl⟩
theorem i_mo_rule_44 : fe M_mo_rule 44 .ireturn 1 45 := ⟨by decide +kernel, rfl⟩
theorem i_mo_rule_45 : fe M_mo_rule 45 (.aload_n 0) 1 46 := ⟨by decide +kernel, rfl⟩
theorem i_mo_rule_46 : fe M_mo_rule 46 (.getfield 13) 3 49 := ⟨by decide +kernel, rfl⟩
theorem i_mo_rule_49 : fe M_mo_rule 49 (.iconst 3) 1 50 := ⟨by decide +kernel, rfl⟩
theorem i_mo_rule_50 : fe M_mo_rule 50 (.iload_n 1) 1 51 := ⟨by decide +kernel, rfl⟩
theorem i_mo_rule_51 : fe M_mo_rule 51 .imul 1 52 := ⟨by decide +kernel, rfl⟩
theorem i_mo_rule_52 : fe M_mo_rule 52 (.iload_n 2) 1 53 := ⟨by decide +kernel, rfl⟩
theorem i_mo_rule_53 : fe M_mo_rule 53 .iadd 1 54 := ⟨by decide +kernel, rfl⟩
theorem i_mo_rule_54 : fe M_mo_rule 54 (.iload_n 3) 1 55 := ⟨by decide +kernel, rfl⟩
theorem i_mo_rule_55 : fe M_mo_rule 55 .iastore 1 56 := ⟨by decide +kernel, rfl⟩
theorem i_mo_rule_56 : fe M_mo_rule 56 (.aload_n 0) 1 57 := ⟨by decide +kernel, rfl⟩
theorem i_mo_rule_57 : fe M_mo_rule 57 (.getfield 17) 3 60 := ⟨by decide +kernel, rfl⟩
theorem i_mo_rule_60 : fe M_mo_rule 60 (.iconst 3) 1 61 := ⟨by decide +kernel, rfl⟩
theorem i_mo_rule_61 : fe M_mo_rule 61 (.iload_n 1) 1 62 := ⟨by decide +kernel, rfl⟩
theorem i_mo_rule_62 : fe M_mo_rule 62 .imul 1 63 := ⟨by decide +kernel, rfl⟩
theorem i_mo_rule_63 : fe M_mo_rule 63 (.iload_n 2) 1 64 := ⟨by decide +kernel, rfl⟩
theorem i_mo_rule_64 : fe M_mo_rule 64 .iadd 1 65 := ⟨by decide +kernel, rfl⟩
theorem i_mo_rule_65 : fe M_mo_rule 65 (.iload_n 3) 1 66 := ⟨by decide +kernel, rfl⟩
theorem i_mo_rule_66 : fe M_mo_rule 66 (.iconst 1) 1 67 := ⟨by decide +kernel, rfl⟩
theorem i_mo_rule_67 : fb M_mo_rule 67 (.if_icmp .ne) 79 70 := ⟨12, by decide +kernel, by decide, rfl⟩
theorem i_mo_rule_70 : fe M_mo_rule 70 (.iload 4) 2 72 := ⟨by decide +kernel, rfl⟩
theorem i_mo_rule_72 : fe M_mo_rule 72 (.sipush 255) 3 75 := ⟨by decide +kernel, rfl⟩
theorem i_mo_rule_75 : fe M_mo_rule 75 .iand 1 76 := ⟨by decide +kernel, rfl⟩
theorem i_mo_rule_76 : fb M_mo_rule 76 .goto 80 79 := ⟨4, by decide +kernel, by decide, rfl⟩
theorem i_mo_rule_79 : fe M_mo_rule 79 (.iconst 0) 1 80 := ⟨by decide +kernel, rfl⟩
theorem i_mo_rule_80 : fe M_mo_rule 80 .iastore 1 81 := ⟨by decide +kernel, rfl⟩
theorem i_mo_rule_81 : fe M_mo_rule 81 (.iconst 1) 1 82 := ⟨by decide +kernel, rfl⟩
theorem i_mo_rule_82 : fe M_mo_rule 82 .ireturn 1 83 := ⟨by decide +kernel, rfl⟩
theorem i_mo_lifts_0 : fe M_mo_lifts 0 (.aload_n 0) 1 1 := ⟨by decide +kernel, rfl⟩
theorem i_mo_lifts_1 : fe M_mo_lifts 1 (.iconst 0) 1 2 := ⟨by decide +kernel, rfl⟩
theorem i_mo_lifts_2 : fe M_mo_lifts 2 (.putfield 81) 3 5 := ⟨by decide +kernel, rfl⟩
theorem i_mo_lifts_5 : fe M_mo_lifts 5 (.iload_n 1) 1 6 := ⟨by decide +kernel, rfl⟩
theorem i_mo_lifts_6 : fb M_mo_lifts 6 (.ifCond .lt) 22 9 := ⟨16, by decide +kernel, by decide, rfl⟩
theorem i_mo_lifts_9 : fe M_mo_lifts 9 (.iload_n 1) 1 10 := ⟨by decide +kernel, rfl⟩
theorem i_mo_lifts_10 : fe M_mo_lifts 10 (.bipush 7) 2 12 := ⟨by decide +kernel, rfl⟩
theorem i_mo_lifts_12 : fb M_mo_lifts 12 (.if_icmp .gt) 22 15 := ⟨10, by decide +kernel, by decide, rfl⟩
theorem i_mo_lifts_15 : fe M_mo_lifts 15 (.iload_n 2) 1 16 := ⟨by decide +kernel, rfl⟩
theorem i_mo_lifts_16 : fe M_mo_lifts 16 (.invokestatic 95) 3 19 := ⟨by decide +kernel, rfl⟩
theorem i_mo_lifts_19 : fb M_mo_lifts 19 (.ifCond .ne) 24 22 := ⟨5, by decide +kernel, by decide, rfl⟩
theorem i_mo_lifts_22 : fe M_mo_lifts 22 (.iconst 0) 1 23 := ⟨by decide +kernel, rfl⟩
theorem i_mo_lifts_23 : fe M_mo_lifts 23 .ireturn 1 24 := ⟨by decide +kernel, rfl⟩
theorem i_mo_lifts_24 : fe M_mo_lifts 24 (.aload_n 0) 1 25 := ⟨by decide +kernel, rfl⟩
theorem i_mo_lifts_25 : fe M_mo_lifts 25 (.getfield 20) 3 28 := ⟨by decide +kernel, rfl⟩
theorem i_mo_lifts_28 : fe M_mo_lifts 28 (.iconst 3) 1 29 := ⟨by decide +kernel, rfl⟩
theorem i_mo_lifts_29 : fe M_mo_lifts 29 (.iload_n 1) 1 30 := ⟨by decide +kernel, rfl⟩
theorem i_mo_lifts_30 : fe M_mo_lifts 30 .imul 1 31 := ⟨by decide +kernel, rfl⟩
theorem i_mo_lifts_31 : fe M_mo_lifts 31 (.iload_n 2) 1 32 := ⟨by decide +kernel, rfl⟩
theorem i_mo_lifts_32 : fe M_mo_lifts 32 .iadd 1 33 := ⟨by decide +kernel, rfl⟩
theorem i_mo_lifts_33 : fe M_mo_lifts 33 (.iload_n 3) 1 34 := ⟨by decide +kernel, rfl⟩
theorem i_mo_lifts_34 : fe M_mo_lifts 34 .bastore 1 35 := ⟨by decide +kernel, rfl⟩
theorem i_mo_lifts_35 : fe M_mo_lifts 35 (.iconst 1) 1 36 := ⟨by decide +kernel, rfl⟩
theorem i_mo_lifts_36 : fe M_mo_lifts 36 .ireturn 1 37 := ⟨by decide +kernel, rfl⟩
theorem i_mo_type_0 : fe M_mo_type 0 (.aload_n 0) 1 1 := ⟨by decide +kernel, rfl⟩
theorem i_mo_type_1 : fe M_mo_type 1 (.iconst 0) 1 2 := ⟨by decide +kernel, rfl⟩
theorem i_mo_type_2 : fe M_mo_type 2 (.putfield 81) 3 5 := ⟨by decide +kernel, rfl⟩
theorem i_mo_type_5 : fe M_mo_type 5 (.iload_n 1) 1 6 := ⟨by decide +kernel, rfl⟩
theorem i_mo_type_6 : fe M_mo_type 6 (.bipush 32) 2 8 := ⟨by decide +kernel, rfl⟩
theorem i_mo_type_8 : fb M_mo_type 8 (.if_icmp .lt) 26 11 := ⟨18, by decide +kernel, by decide, rfl⟩
theorem i_mo_type_11 : fe M_mo_type 11 (.iload_n 1) 1 12 := ⟨by decide +kernel, rfl⟩
theorem i_mo_type_12 : fe M_mo_type 12 (.bipush 126) 2 14 := ⟨by decide +kernel, rfl⟩
theorem i_mo_type_14 : fb M_mo_type 14 (.if_icmp .gt) 26 17 := ⟨12, by decide +kernel, by decide, rfl⟩
theorem i_mo_type_17 : fe M_mo_type 17 (.aload_n 0) 1 18 := ⟨by decide +kernel, rfl⟩
theorem i_mo_type_18 : fe M_mo_type 18 (.getfield 98) 3 21 := ⟨by decide +kernel, rfl⟩
theorem i_mo_type_21 : fe M_mo_type 21 (.bipush 60) 2 23 := ⟨by decide +kernel, rfl⟩
theorem i_mo_type_23 : fb M_mo_type 23 (.if_icmp .ne) 28 26 := ⟨5, by decide +kernel, by decide, rfl⟩
theorem i_mo_type_26 : fe M_mo_type 26 (.iconst 0) 1 27 := ⟨by decide +kernel, rfl⟩
theorem i_mo_type_27 : fe M_mo_type 27 .ireturn 1 28 := ⟨by decide +kernel, rfl⟩
theorem i_mo_type_28 : fe M_mo_type 28 (.aload_n 0) 1 29 := ⟨by decide +kernel, rfl⟩
theorem i_mo_type_29 : fe M_mo_type 29 (.getfield 24) 3 32 := ⟨by decide +kernel, rfl⟩
theorem i_mo_type_32 : fe M_mo_type 32 (.aload_n 0) 1 33 := ⟨by decide +kernel, rfl⟩
theorem i_mo_type_33 : fe M_mo_type 33 (.getfield 98) 3 36 := ⟨by decide +kernel, rfl⟩
theorem i_mo_type_36 : fe M_mo_type 36 (.iload_n 1) 1 37 := ⟨by decide +kernel, rfl⟩
theorem i_mo_type_37 : fe M_mo_type 37 .iastore 1 38 := ⟨by decide +kernel, rfl⟩
theorem i_mo_type_38 : fe M_mo_type 38 (.aload_n 0) 1 39 := ⟨by decide +kernel, rfl⟩
theorem i_mo_type_39 : fe M_mo_type 39 .dup 1 40 := ⟨by decide +kernel, rfl⟩
theorem i_mo_type_40 : fe M_mo_type 40 (.getfield 98) 3 43 := ⟨by decide +kernel, rfl⟩
theorem i_mo_type_43 : fe M_mo_type 43 (.iconst 1) 1 44 := ⟨by decide +kernel, rfl⟩
theorem i_mo_type_44 : fe M_mo_type 44 .iadd 1 45 := ⟨by decide +kernel, rfl⟩
theorem i_mo_type_45 : fe M_mo_type 45 (.putfield 98) 3 48 := ⟨by decide +kernel, rfl⟩
theorem i_mo_type_48 : fe M_mo_type 48 (.iconst 1) 1 49 := ⟨by decide +kernel, rfl⟩
theorem i_mo_type_49 : fe M_mo_type 49 .ireturn 1 50 := ⟨by decide +kernel, rfl⟩
theorem i_mo_pack_0 : fe M_mo_pack 0 (.aload_n 0) 1 1 := ⟨by decide +kernel, rfl⟩
theorem i_mo_pack_1 : fe M_mo_pack 1 (.iconst 0) 1 2 := ⟨by decide +kernel, rfl⟩
theorem i_mo_pack_2 : fe M_mo_pack 2 (.putfield 81) 3 5 := ⟨by decide +kernel, rfl⟩
theorem i_mo_pack_5 : fe M_mo_pack 5 (.aload_n 0) 1 6 := ⟨by decide +kernel, rfl⟩
theorem i_mo_pack_6 : fe M_mo_pack 6 (.getfield 88) 3 9 := ⟨by decide +kernel, rfl⟩
theorem i_mo_pack_9 : fe M_mo_pack 9 (.bipush 16) 2 11 := ⟨by decide +kernel, rfl⟩
theorem i_mo_pack_11 : fb M_mo_pack 11 (.if_icmp .ne) 16 14 := ⟨5, by decide +kernel, by decide, rfl⟩
theorem i_mo_pack_14 : fe M_mo_pack 14 (.iconst (-1)) 1 15 := ⟨by decide +kernel, rfl⟩
theorem i_mo_pack_15 : fe M_mo_pack 15 .ireturn 1 16 := ⟨by decide +kernel, rfl⟩
theorem i_mo_pack_16 : fe M_mo_pack 16 (.aload_n 0) 1 17 := ⟨by decide +kernel, rfl⟩
theorem i_mo_pack_17 : fe M_mo_pack 17 .dup 1 18 := ⟨by decide +kernel, rfl⟩
theorem i_mo_pack_18 : fe M_mo_pack 18 (.getfield 88) 3 21 := ⟨by decide +kernel, rfl⟩
theorem i_mo_pack_21 : fe M_mo_pack 21 (.iconst 1) 1 22 := ⟨by decide +kernel, rfl⟩
theorem i_mo_pack_22 : fe M_mo_pack 22 .iadd 1 23 := ⟨by decide +kernel, rfl⟩
theorem i_mo_pack_23 : fe M_mo_pack 23 (.putfield 88) 3 26 := ⟨by decide +kernel, rfl⟩
theorem i_mo_pack_26 : fe M_mo_pack 26 (.aload_n 0) 1 27 := ⟨by decide +kernel, rfl⟩
theorem i_mo_pack_27 : fe M_mo_pack 27 (.getfield 88) 3 30 := ⟨by decide +kernel, rfl⟩
theorem i_mo_pack_30 : fe M_mo_pack 30 (.iconst 1) 1 31 := ⟨by decide +kernel, rfl⟩
theorem i_mo_pack_31 : fe M_mo_pack 31 .isub 1 32 := ⟨by decide +kernel, rfl⟩
theorem i_mo_pack_32 : fe M_mo_pack 32 .ireturn 1 33 := ⟨by decide +kernel, rfl⟩
theorem i_mo_pairOf_0 : fe M_mo_pairOf 0 (.iconst 0) 1 1 := ⟨by decide +kernel, rfl⟩
theorem i_mo_pairOf_1 : fe M_mo_pairOf 1 (.istore_n 2) 1 2 := ⟨by decide +kernel, rfl⟩
theorem i_mo_pairOf_2 : fe M_mo_pairOf 2 (.iload_n 2) 1 3 := ⟨by decide +kernel, rfl⟩
theorem i_mo_pairOf_3 : fe M_mo_pairOf 3 (.aload_n 0) 1 4 := ⟨by decide +kernel, rfl⟩
theorem i_mo_pairOf_4 : fe M_mo_pairOf 4 (.getfield 101) 3 7 := ⟨by decide +kernel, rfl⟩
theorem i_mo_pairOf_7 : fb M_mo_pairOf 7 (.if_icmp .ge) 26 10 := ⟨19, by decide +kernel, by decide, rfl⟩
theorem i_mo_pairOf_10 : fe M_mo_pairOf 10 (.aload_n 0) 1 11 := ⟨by decide +kernel, rfl⟩
theorem i_mo_pairOf_11 : fe M_mo_pairOf 11 (.getfield 51) 3 14 := ⟨by decide +kernel, rfl⟩
theorem i_mo_pairOf_14 : fe M_mo_pairOf 14 (.iload_n 2) 1 15 := ⟨by decide +kernel, rfl⟩
theorem i_mo_pairOf_15 : fe M_mo_pairOf 15 .iaload 1 16 := ⟨by decide +kernel, rfl⟩
theorem i_mo_pairOf_16 : fe M_mo_pairOf 16 (.iload_n 1) 1 17 := ⟨by decide +kernel, rfl⟩
theorem i_mo_pairOf_17 : fb M_mo_pairOf 17 (.if_icmp .eq) 26 20 := ⟨9, by decide +kernel, by decide, rfl⟩
theorem i_mo_pairOf_20 : fe M_mo_pairOf 20 (.iinc 2 1) 3 23 := ⟨by decide +kernel, rfl⟩
theorem i_mo_pairOf_23 : fb M_mo_pairOf 23 .goto 2 26 := ⟨-21, by decide +kernel, by decide, rfl⟩
theorem i_mo_pairOf_26 : fe M_mo_pairOf 26 (.aload_n 0) 1 27 := ⟨by decide +kernel, rfl⟩
theorem i_mo_pairOf_27 : fe M_mo_pairOf 27 (.getfield 51) 3 30 := ⟨by decide +kernel, rfl⟩
theorem i_mo_pairOf_30 : fe M_mo_pairOf 30 (.iload_n 2) 1 31 := ⟨by decide +kernel, rfl⟩
theorem i_mo_pairOf_31 : fe M_mo_pairOf 31 (.iload_n 1) 1 32 := ⟨by decide +kernel, rfl⟩
theorem i_mo_pairOf_32 : fe M_mo_pairOf 32 .iastore 1 33 := ⟨by decide +kernel, rfl⟩
theorem i_mo_pairOf_33 : fe M_mo_pairOf 33 (.aload_n 0) 1 34 := ⟨by decide +kernel, rfl⟩
theorem i_mo_pairOf_34 : fe M_mo_pairOf 34 .dup 1 35 := ⟨by decide +kernel, rfl⟩
theorem i_mo_pairOf_35 : fe M_mo_pairOf 35 (.getfield 101) 3 38 := ⟨by decide +kernel, rfl⟩
theorem i_mo_pairOf_38 : fe M_mo_pairOf 38 (.iload_n 2) 1 39 := ⟨by decide +kernel, rfl⟩
theorem i_mo_pairOf_39 : fe M_mo_pairOf 39 (.aload_n 0) 1 40 := ⟨by decide +kernel, rfl⟩
theorem i_mo_pairOf_40 : fe M_mo_pairOf 40 (.getfield 101) 3 43 := ⟨by decide +kernel, rfl⟩
theorem i_mo_pairOf_43 : fb M_mo_pairOf 43 (.if_icmp .ne) 50 46 := ⟨7, by decide +kernel, by decide, rfl⟩
theorem i_mo_pairOf_46 : fe M_mo_pairOf 46 (.iconst 1) 1 47 := ⟨by decide +kernel, rfl⟩
theorem i_mo_pairOf_47 : fb M_mo_pairOf 47 .goto 51 50 := ⟨4, by decide +kernel, by decide, rfl⟩
theorem i_mo_pairOf_50 : fe M_mo_pairOf 50 (.iconst 0) 1 51 := ⟨by decide +kernel, rfl⟩
theorem i_mo_pairOf_51 : fe M_mo_pairOf 51 .iadd 1 52 := ⟨by decide +kernel, rfl⟩
theorem i_mo_pairOf_52 : fe M_mo_pairOf 52 (.putfield 101) 3 55 := ⟨by decide +kernel, rfl⟩
theorem i_mo_pairOf_55 : fe M_mo_pairOf 55 (.iload_n 2) 1 56 := ⟨by decide +kernel, rfl⟩
theorem i_mo_pairOf_56 : fe M_mo_pairOf 56 .ireturn 1 57 := ⟨by decide +kernel, rfl⟩
theorem i_mo_join_0 : fe M_mo_join 0 (.aload_n 0) 1 1 := ⟨by decide +kernel, rfl⟩
theorem i_mo_join_1 : fe M_mo_join 1 (.getfield 104) 3 4 := ⟨by decide +kernel, rfl⟩
theorem i_mo_join_4 : fe M_mo_join 4 (.iconst 2) 1 5 := ⟨by decide +kernel, rfl⟩
theorem i_mo_join_5 : fe M_mo_join 5 .isub 1 6 := ⟨by decide +kernel, rfl⟩
theorem i_mo_join_6 : fe M_mo_join 6 (.istore_n 2) 1 7 := ⟨by decide +kernel, rfl⟩
theorem i_mo_join_7 : fe M_mo_join 7 (.aload_n 0) 1 8 := ⟨by decide +kernel, rfl⟩
theorem i_mo_join_8 : fe M_mo_join 8 (.getfield 104) 3 11 := ⟨by decide +kernel, rfl⟩
theorem i_mo_join_11 : fe M_mo_join 11 (.iconst 1) 1 12 := ⟨by decide +kernel, rfl⟩
theorem i_mo_join_12 : fe M_mo_join 12 .isub 1 13 := ⟨by decide +kernel, rfl⟩
theorem i_mo_join_13 : fe M_mo_join 13 (.istore_n 3) 1 14 := ⟨by decide +kernel, rfl⟩
theorem i_mo_join_14 : fe M_mo_join 14 (.iconst 0) 1 15 := ⟨by decide +kernel, rfl⟩
theorem i_mo_join_15 : fe M_mo_join 15 (.istore 4) 2 17 := ⟨by decide +kernel, rfl⟩
theorem i_mo_join_17 : fe M_mo_join 17 (.iconst 0) 1 18 := ⟨by decide +kernel, rfl⟩
theorem i_mo_join_18 : fe M_mo_join 18 (.istore 5) 2 20 := ⟨by decide +kernel, rfl⟩
theorem i_mo_join_20 : fe M_mo_join 20 (.iload 5) 2 22 := ⟨by decide +kernel, rfl⟩
theorem i_mo_join_22 : fe M_mo_join 22 (.aload_n 0) 1 23 := ⟨by decide +kernel, rfl⟩
theorem i_mo_join_23 : fe M_mo_join 23 (.getfield 57) 3 26 := ⟨by decide +kernel, rfl⟩
theorem i_mo_join_26 : fe M_mo_join 26 (.iload_n 2) 1 27 := ⟨by decide +kernel, rfl⟩
theorem i_mo_join_27 : fe M_mo_join 27 .iaload 1 28 := ⟨by decide +kernel, rfl⟩
theorem i_mo_join_28 : fb M_mo_join 28 (.if_icmp .ge) 126 31 := ⟨98, by decide +kernel, by decide, rfl⟩
theorem i_mo_join_31 : fe M_mo_join 31 (.iload_n 1) 1 32 := ⟨by decide +kernel, rfl⟩
theorem i_mo_join_32 : fe M_mo_join 32 (.bipush 124) 2 34 := ⟨by decide +kernel, rfl⟩
theorem i_mo_join_34 : fb M_mo_join 34 (.if_icmp .ne) 59 37 := ⟨25, by decide +kernel, by decide, rfl⟩
theorem i_mo_join_37 : fe M_mo_join 37 (.aload_n 0) 1 38 := ⟨by decide +kernel, rfl⟩
theorem i_mo_join_38 : fe M_mo_join 38 (.getfield 60) 3 41 := ⟨by decide +kernel, rfl⟩
theorem i_mo_join_41 : fe M_mo_join 41 (.iload 4) 2 43 := ⟨by decide +kernel, rfl⟩
theorem i_mo_join_43 : fe M_mo_join 43 (.aload_n 0) 1 44 := ⟨by decide +kernel, rfl⟩
theorem i_mo_join_44 : fe M_mo_join 44 (.getfield 54) 3 47 := ⟨by decide +kernel, rfl⟩
theorem i_mo_join_47 : fe M_mo_join 47 (.bipush 20) 2 49 := ⟨by decide +kernel, rfl⟩
theorem i_mo_join_49 : fe M_mo_join 49 (.iload_n 2) 1 50 := ⟨by decide +kernel, rfl⟩
theorem i_mo_join_50 : fe M_mo_join 50 .imul 1 51 := ⟨by decide +kernel, rfl⟩
theorem i_mo_join_51 : fe M_mo_join 51 (.iload 5) 2 53 := ⟨by decide +kernel, rfl⟩
theorem i_mo_join_53 : fe M_mo_join 53 .iadd 1 54 := ⟨by decide +kernel, rfl⟩
theorem i_mo_join_54 : fe M_mo_join 54 .iaload 1 55 := ⟨by decide +kernel, rfl⟩
theorem i_mo_join_55 : fe M_mo_join 55 .iastore 1 56 := ⟨by decide +kernel, rfl⟩
theorem i_mo_join_56 : fe M_mo_join 56 (.iinc 4 1) 3 59 := ⟨by decide +kernel, rfl⟩
theorem i_mo_join_59 : fe M_mo_join 59 (.iconst 0) 1 60 := ⟨by decide +kernel, rfl⟩
theorem i_mo_join_60 : fe M_mo_join 60 (.istore 6) 2 62 := ⟨by decide +kernel, rfl⟩
theorem i_mo_join_62 : fe M_mo_join 62 (.iload 6) 2 64 := ⟨by decide +kernel, rfl⟩
theorem i_mo_join_64 : fe M_mo_join 64 (.aload_n 0) 1 65 := ⟨by decide +kernel, rfl⟩
theorem i_mo_join_65 : fe M_mo_join 65 (.getfield 57) 3 68 := ⟨by decide +kernel, rfl⟩
theorem i_mo_join_68 : fe M_mo_join 68 (.iload_n 3) 1 69 := ⟨by decide +kernel, rfl⟩
theorem i_mo_join_69 : fe M_mo_join 69 .iaload 1 70 := ⟨by decide +kernel, rfl⟩
theorem i_mo_join_70 : fb M_mo_join 70 (.if_icmp .ge) 120 73 := ⟨50, by decide +kernel, by decide, rfl⟩
theorem i_mo_join_73 : fe M_mo_join 73 (.iload_n 1) 1 74 := ⟨by decide +kernel, rfl⟩
theorem i_mo_join_74 : fe M_mo_join 74 (.bipush 38) 2 76 := ⟨by decide +kernel, rfl⟩
theorem i_mo_join_76 : fb M_mo_join 76 (.if_icmp .ne) 120 79 := ⟨44, by decide +kernel, by decide, rfl⟩
theorem i_mo_join_79 : fe M_mo_join 79 (.aload_n 0) 1 80 := ⟨by decide +kernel, rfl⟩
theorem i_mo_join_80 : fe M_mo_join 80 (.getfield 60) 3 83 := ⟨by decide +kernel, rfl⟩
theorem i_mo_join_83 : fe M_mo_join 83 (.iload 4) 2 85 := ⟨by decide +kernel, rfl⟩
theorem i_mo_join_85 : fe M_mo_join 85 (.aload_n 0) 1 86 := ⟨by decide +kernel, rfl⟩
theorem i_mo_join_86 : fe M_mo_join 86 (.getfield 54) 3 89 := ⟨by decide +kernel, rfl⟩
theorem i_mo_join_89 : fe M_mo_join 89 (.bipush 20) 2 91 := ⟨by decide +kernel, rfl⟩
theorem i_mo_join_91 : fe M_mo_join 91 (.iload_n 2) 1 92 := ⟨by decide +kernel, rfl⟩
theorem i_mo_join_92 : fe M_mo_join 92 .imul 1 93 := ⟨by decide +kernel, rfl⟩
theorem i_mo_join_93 : fe M_mo_join 93 (.iload 5) 2 95 := ⟨by decide +kernel, rfl⟩
theorem i_mo_join_95 : fe M_mo_join 95 .iadd 1 96 := ⟨by decide +kernel, rfl⟩
theorem i_mo_join_96 : fe M_mo_join 96 .iaload 1 97 := ⟨by decide +kernel, rfl⟩
theorem i_mo_join_97 : fe M_mo_join 97 (.aload_n 0) 1 98 := ⟨by decide +kernel, rfl⟩
theorem i_mo_join_98 : fe M_mo_join 98 (.getfield 54) 3 101 := ⟨by decide +kernel, rfl⟩
theorem i_mo_join_101 : fe M_mo_join 101 (.bipush 20) 2 103 := ⟨by decide +kernel, rfl⟩
theorem i_mo_join_103 : fe M_mo_join 103 (.iload_n 3) 1 104 := ⟨by decide +kernel, rfl⟩
theorem i_mo_join_104 : fe M_mo_join 104 .imul 1 105 := ⟨by decide +kernel, rfl⟩
theorem i_mo_join_105 : fe M_mo_join 105 (.iload 6) 2 107 := ⟨by decide +kernel, rfl⟩
theorem i_mo_join_107 : fe M_mo_join 107 .iadd 1 108 := ⟨by decide +kernel, rfl⟩
theorem i_mo_join_108 : fe M_mo_join 108 .iaload 1 109 := ⟨by decide +kernel, rfl⟩
theorem i_mo_join_109 : fe M_mo_join 109 .ior 1 110 := ⟨by decide +kernel, rfl⟩
theorem i_mo_join_110 : fe M_mo_join 110 .iastore 1 111 := ⟨by decide +kernel, rfl⟩
theorem i_mo_join_111 : fe M_mo_join 111 (.iinc 4 1) 3 114 := ⟨by decide +kernel, rfl⟩
theorem i_mo_join_114 : fe M_mo_join 114 (.iinc 6 1) 3 117 := ⟨by decide +kernel, rfl⟩
theorem i_mo_join_117 : fb M_mo_join 117 .goto 62 120 := ⟨-55, by decide +kernel, by decide, rfl⟩
theorem i_mo_join_120 : fe M_mo_join 120 (.iinc 5 1) 3 123 := ⟨by decide +kernel, rfl⟩
theorem i_mo_join_123 : fb M_mo_join 123 .goto 20 126 := ⟨-103, by decide +kernel, by decide, rfl⟩
theorem i_mo_join_126 : fe M_mo_join 126 (.iconst 0) 1 127 := ⟨by decide +kernel, rfl⟩
theorem i_mo_join_127 : fe M_mo_join 127 (.istore 5) 2 129 := ⟨by decide +kernel, rfl⟩
theorem i_mo_join_129 : fe M_mo_join 129 (.iload 5) 2 131 := ⟨by decide +kernel, rfl⟩
theorem i_mo_join_131 : fe M_mo_join 131 (.aload_n 0) 1 132 := ⟨by decide +kernel, rfl⟩
theorem i_mo_join_132 : fe M_mo_join 132 (.getfield 57) 3 135 := ⟨by decide +kernel, rfl⟩
theorem i_mo_join_135 : fe M_mo_join 135 (.iload_n 3) 1 136 := ⟨by decide +kernel, rfl⟩
theorem i_mo_join_136 : fe M_mo_join 136 .iaload 1 137 := ⟨by decide +kernel, rfl⟩
theorem i_mo_join_137 : fb M_mo_join 137 (.if_icmp .ge) 174 140 := ⟨37, by decide +kernel, by decide, rfl⟩
theorem i_mo_join_140 : fe M_mo_join 140 (.iload_n 1) 1 141 := ⟨by decide +kernel, rfl⟩
theorem i_mo_join_141 : fe M_mo_join 141 (.bipush 124) 2 143 := ⟨by decide +kernel, rfl⟩
theorem i_mo_join_143 : fb M_mo_join 143 (.if_icmp .ne) 174 146 := ⟨31, by decide +kernel, by decide, rfl⟩
theorem i_mo_join_146 : fe M_mo_join 146 (.aload_n 0) 1 147 := ⟨by decide +kernel, rfl⟩
theorem i_mo_join_147 : fe M_mo_join 147 (.getfield 60) 3 150 := ⟨by decide +kernel, rfl⟩
theorem i_mo_join_150 : fe M_mo_join 150 (.iload 4) 2 152 := ⟨by decide +kernel, rfl⟩
theorem i_mo_join_152 : fe M_mo_join 152 (.aload_n 0) 1 153 := ⟨by decide +kernel, rfl⟩
theorem i_mo_join_153 : fe M_mo_join 153 (.getfield 54) 3 156 := ⟨by decide +kernel, rfl⟩
theorem i_mo_join_156 : fe M_mo_join 156 (.bipush 20) 2 158 := ⟨by decide +kernel, rfl⟩
theorem i_mo_join_158 : fe M_mo_join 158 (.iload_n 3) 1 159 := ⟨by decide +kernel, rfl⟩
theorem i_mo_join_159 : fe M_mo_join 159 .imul 1 160 := ⟨by decide +kernel, rfl⟩
theorem i_mo_join_160 : fe M_mo_join 160 (.iload 5) 2 162 := ⟨by decide +kernel, rfl⟩
theorem i_mo_join_162 : fe M_mo_join 162 .iadd 1 163 := ⟨by decide +kernel, rfl⟩
theorem i_mo_join_163 : fe M_mo_join 163 .iaload 1 164 := ⟨by decide +kernel, rfl⟩
theorem i_mo_join_164 : fe M_mo_join 164 .iastore 1 165 := ⟨by decide +kernel, rfl⟩
theorem i_mo_join_165 : fe M_mo_join 165 (.iinc 4 1) 3 168 := ⟨by decide +kernel, rfl⟩
theorem i_mo_join_168 : fe M_mo_join 168 (.iinc 5 1) 3 171 := ⟨by decide +kernel, rfl⟩
theorem i_mo_join_171 : fb M_mo_join 171 .goto 129 174 := ⟨-42, by decide +kernel, by decide, rfl⟩
theorem i_mo_join_174 : fe M_mo_join 174 (.aload_n 0) 1 175 := ⟨by decide +kernel, rfl⟩
theorem i_mo_join_175 : fe M_mo_join 175 .dup 1 176 := ⟨by decide +kernel, rfl⟩
theorem i_mo_join_176 : fe M_mo_join 176 (.getfield 104) 3 179 := ⟨by decide +kernel, rfl⟩
theorem i_mo_join_179 : fe M_mo_join 179 (.iconst 1) 1 180 := ⟨by decide +kernel, rfl⟩
theorem i_mo_join_180 : fe M_mo_join 180 .isub 1 181 := ⟨by decide +kernel, rfl⟩
theorem i_mo_join_181 : fe M_mo_join 181 (.putfield 104) 3 184 := ⟨by decide +kernel, rfl⟩
theorem i_mo_join_184 : fe M_mo_join 184 (.aload_n 0) 1 185 := ⟨by decide +kernel, rfl⟩
theorem i_mo_join_185 : fe M_mo_join 185 (.getfield 57) 3 188 := ⟨by decide +kernel, rfl⟩
theorem i_mo_join_188 : fe M_mo_join 188 (.iload_n 2) 1 189 := ⟨by decide +kernel, rfl⟩
theorem i_mo_join_189 : fe M_mo_join 189 (.iconst 0) 1 190 := ⟨by decide +kernel, rfl⟩
theorem i_mo_join_190 : fe M_mo_join 190 .iastore 1 191 := ⟨by decide +kernel, rfl⟩
theorem i_mo_join_191 : fe M_mo_join 191 (.iconst 0) 1 192 := ⟨by decide +kernel, rfl⟩
theorem i_mo_join_192 : fe M_mo_join 192 (.istore 5) 2 194 := ⟨by decide +kernel, rfl⟩
theorem i_mo_join_194 : fe M_mo_join 194 (.iload 5) 2 196 := ⟨by decide +kernel, rfl⟩
theorem i_mo_join_196 : fe M_mo_join 196 (.iload 4) 2 198 := ⟨by decide +kernel, rfl⟩
theorem i_mo_join_198 : fb M_mo_join 198 (.if_icmp .ge) 347 201 := ⟨149, by decide +kernel, by decide, rfl⟩
theorem i_mo_join_201 : fe M_mo_join 201 (.iconst 0) 1 202 := ⟨by decide +kernel, rfl⟩
theorem i_mo_join_202 : fe M_mo_join 202 (.istore 6) 2 204 := ⟨by decide +kernel, rfl⟩
theorem i_mo_join_204 : fe M_mo_join 204 (.iconst 0) 1 205 := ⟨by decide +kernel, rfl⟩
theorem i_mo_join_205 : fe M_mo_join 205 (.istore 7) 2 207 := ⟨by decide +kernel, rfl⟩
theorem i_mo_join_207 : fe M_mo_join 207 (.iload 7) 2 209 := ⟨by decide +kernel, rfl⟩
theorem i_mo_join_209 : fe M_mo_join 209 (.iload 4) 2 211 := ⟨by decide +kernel, rfl⟩
theorem i_mo_join_211 : fb M_mo_join 211 (.if_icmp .ge) 283 214 := ⟨72, by decide +kernel, by decide, rfl⟩
theorem i_mo_join_214 : fe M_mo_join 214 (.iload 6) 2 216 := ⟨by decide +kernel, rfl⟩
theorem i_mo_join_216 : fb M_mo_join 216 (.ifCond .ne) 270 219 := ⟨54, by decide +kernel, by decide, rfl⟩
theorem i_mo_join_219 : fe M_mo_join 219 (.iload 7) 2 221 := ⟨by decide +kernel, rfl⟩
theorem i_mo_join_221 : fe M_mo_join 221 (.iload 5) 2 223 := ⟨by decide +kernel, rfl⟩
theorem i_mo_join_223 : fb M_mo_join 223 (.if_icmp .eq) 274 226 := ⟨51, by decide +kernel, by decide, rfl⟩
theorem i_mo_join_226 : fe M_mo_join 226 (.aload_n 0) 1 227 := ⟨by decide +kernel, rfl⟩
theorem i_mo_join_227 : fe M_mo_join 227 (.getfield 60) 3 230 := ⟨by decide +kernel, rfl⟩
theorem i_mo_join_230 : fe M_mo_join 230 (.iload 7) 2 232 := ⟨by decide +kernel, rfl⟩
theorem i_mo_join_232 : fe M_mo_join 232 .iaload 1 233 := ⟨by decide +kernel, rfl⟩
theorem i_mo_join_233 : fe M_mo_join 233 (.aload_n 0) 1 234 := ⟨by decide +kernel, rfl⟩
theorem i_mo_join_234 : fe M_mo_join 234 (.getfield 60) 3 237 := ⟨by decide +kernel, rfl⟩
theorem i_mo_join_237 : fe M_mo_join 237 (.iload 5) 2 239 := ⟨by decide +kernel, rfl⟩
theorem i_mo_join_239 : fe M_mo_join 239 .iaload 1 240 := ⟨by decide +kernel, rfl⟩
theorem i_mo_join_240 : fe M_mo_join 240 (.iconst (-1)) 1 241 := ⟨by decide +kernel, rfl⟩
theorem i_mo_join_241 : fe M_mo_join 241 .ixor 1 242 := ⟨by decide +kernel, rfl⟩
theorem i_mo_join_242 : fe M_mo_join 242 .iand 1 243 := ⟨by decide +kernel, rfl⟩
theorem i_mo_join_243 : fb M_mo_join 243 (.ifCond .ne) 274 246 := ⟨31, by decide +kernel, by decide, rfl⟩
theorem i_mo_join_246 : fe M_mo_join 246 (.aload_n 0) 1 247 := ⟨by decide +kernel, rfl⟩
theorem i_mo_join_247 : fe M_mo_join 247 (.getfield 60) 3 250 := ⟨by decide +kernel, rfl⟩
theorem i_mo_join_250 : fe M_mo_join 250 (.iload 7) 2 252 := ⟨by decide +kernel, rfl⟩
theorem i_mo_join_252 : fe M_mo_join 252 .iaload 1 253 := ⟨by decide +kernel, rfl⟩
theorem i_mo_join_253 : fe M_mo_join 253 (.aload_n 0) 1 254 := ⟨by decide +kernel, rfl⟩
theorem i_mo_join_254 : fe M_mo_join 254 (.getfield 60) 3 257 := ⟨by decide +kernel, rfl⟩
theorem i_mo_join_257 : fe M_mo_join 257 (.iload 5) 2 259 := ⟨by decide +kernel, rfl⟩
theorem i_mo_join_259 : fe M_mo_join 259 .iaload 1 260 := ⟨by decide +kernel, rfl⟩
theorem i_mo_join_260 : fb M_mo_join 260 (.if_icmp .ne) 270 263 := ⟨10, by decide +kernel, by decide, rfl⟩
theorem i_mo_join_263 : fe M_mo_join 263 (.iload 7) 2 265 := ⟨by decide +kernel, rfl⟩
theorem i_mo_join_265 : fe M_mo_join 265 (.iload 5) 2 267 := ⟨by decide +kernel, rfl⟩
theorem i_mo_join_267 : fb M_mo_join 267 (.if_icmp .ge) 274 270 := ⟨7, by decide +kernel, by decide, rfl⟩
theorem i_mo_join_270 : fe M_mo_join 270 (.iconst 1) 1 271 := ⟨by decide +kernel, rfl⟩
theorem i_mo_join_271 : fb M_mo_join 271 .goto 275 274 := ⟨4, by decide +kernel, by decide, rfl⟩
theorem i_mo_join_274 : fe M_mo_join 274 (.iconst 0) 1 275 := ⟨by decide +kernel, rfl⟩
theorem i_mo_join_275 : fe M_mo_join 275 (.istore 6) 2 277 := ⟨by decide +kernel, rfl⟩
theorem i_mo_join_277 : fe M_mo_join 277 (.iinc 7 1) 3 280 := ⟨by decide +kernel, rfl⟩
theorem i_mo_join_280 : fb M_mo_join 280 .goto 207 283 := ⟨-73, by decide +kernel, by decide, rfl⟩
theorem i_mo_join_283 : fe M_mo_join 283 (.iload 6) 2 285 := ⟨by decide +kernel, rfl⟩
theorem i_mo_join_285 : fb M_mo_join 285 (.ifCond .eq) 291 288 := ⟨6, by decide +kernel, by decide, rfl⟩
theorem i_mo_join_288 : fb M_mo_join 288 .goto 341 291 := ⟨53, by decide +kernel, by decide, rfl⟩
theorem i_mo_join_291 : fe M_mo_join 291 (.aload_n 0) 1 292 := ⟨by decide +kernel, rfl⟩
theorem i_mo_join_292 : fe M_mo_join 292 (.getfield 57) 3 295 := ⟨by decide +kernel, rfl⟩
theorem i_mo_join_295 : fe M_mo_join 295 (.iload_n 2) 1 296 := ⟨by decide +kernel, rfl⟩
theorem i_mo_join_296 : fe M_mo_join 296 .iaload 1 297 := ⟨by decide +kernel, rfl⟩
theorem i_mo_join_297 : fe M_mo_join 297 (.bipush 20) 2 299 := ⟨by decide +kernel, rfl⟩
theorem i_mo_join_299 : fb M_mo_join 299 (.if_icmp .ne) 308 302 := ⟨9, by decide +kernel, by decide, rfl⟩
theorem i_mo_join_302 : fe M_mo_join 302 (.aload_n 0) 1 303 := ⟨by decide +kernel, rfl⟩
theorem i_mo_join_303 : fe M_mo_join 303 (.iconst 1) 1 304 := ⟨by decide +kernel, rfl⟩
theorem i_mo_join_304 : fe M_mo_join 304 (.putfield 107) 3 307 := ⟨by decide +kernel, rfl⟩
theorem i_mo_join_307 : fe M_mo_join 307 .return_ 1 308 := ⟨by decide +kernel, rfl⟩
theorem i_mo_join_308 : fe M_mo_join 308 (.aload_n 0) 1 309 := ⟨by decide +kernel, rfl⟩
theorem i_mo_join_309 : fe M_mo_join 309 (.getfield 54) 3 312 := ⟨by decide +kernel, rfl⟩
theorem i_mo_join_312 : fe M_mo_join 312 (.bipush 20) 2 314 := ⟨by decide +kernel, rfl⟩
theorem i_mo_join_314 : fe M_mo_join 314 (.iload_n 2) 1 315 := ⟨by decide +kernel, rfl⟩
theorem i_mo_join_315 : fe M_mo_join 315 .imul 1 316 := ⟨by decide +kernel, rfl⟩
theorem i_mo_join_316 : fe M_mo_join 316 (.aload_n 0) 1 317 := ⟨by decide +kernel, rfl⟩
theorem i_mo_join_317 : fe M_mo_join 317 (.getfield 57) 3 320 := ⟨by decide +kernel, rfl⟩
theorem i_mo_join_320 : fe M_mo_join 320 (.iload_n 2) 1 321 := ⟨by decide +kernel, rfl⟩
theorem i_mo_join_321 : fe M_mo_join 321 .iaload 1 322 := ⟨by decide +kernel, rfl⟩
theorem i_mo_join_322 : fe M_mo_join 322 .iadd 1 323 := ⟨by decide +kernel, rfl⟩
theorem i_mo_join_323 : fe M_mo_join 323 (.aload_n 0) 1 324 := ⟨by decide +kernel, rfl⟩
theorem i_mo_join_324 : fe M_mo_join 324 (.getfield 60) 3 327 := ⟨by decide +kernel, rfl⟩
theorem i_mo_join_327 : fe M_mo_join 327 (.iload 5) 2 329 := ⟨by decide +kernel, rfl⟩
theorem i_mo_join_329 : fe M_mo_join 329 .iaload 1 330 := ⟨by decide +kernel, rfl⟩
theorem i_mo_join_330 : fe M_mo_join 330 .iastore 1 331 := ⟨by decide +kernel, rfl⟩
theorem i_mo_join_331 : fe M_mo_join 331 (.aload_n 0) 1 332 := ⟨by decide +kernel, rfl⟩
theorem i_mo_join_332 : fe M_mo_join 332 (.getfield 57) 3 335 := ⟨by decide +kernel, rfl⟩
theorem i_mo_join_335 : fe M_mo_join 335 (.iload_n 2) 1 336 := ⟨by decide +kernel, rfl⟩
theorem i_mo_join_336 : fe M_mo_join 336 .dup2 1 337 := ⟨by decide +kernel, rfl⟩
theorem i_mo_join_337 : fe M_mo_join 337 .iaload 1 338 := ⟨by decide +kernel, rfl⟩
theorem i_mo_join_338 : fe M_mo_join 338 (.iconst 1) 1 339 := ⟨by decide +kernel, rfl⟩
theorem i_mo_join_339 : fe M_mo_join 339 .iadd 1 340 := ⟨by decide +kernel, rfl⟩
theorem i_mo_join_340 : fe M_mo_join 340 .iastore 1 341 := ⟨by decide +kernel, rfl⟩
theorem i_mo_join_341 : fe M_mo_join 341 (.iinc 5 1) 3 344 := ⟨by decide +kernel, rfl⟩
theorem i_mo_join_344 : fb M_mo_join 344 .goto 194 347 := ⟨-150, by decide +kernel, by decide, rfl⟩
theorem i_mo_join_347 : fe M_mo_join 347 .return_ 1 348 := ⟨by decide +kernel, rfl⟩
theorem i_mo_workOff_0 : fe M_mo_workOff 0 (.aload_n 0) 1 1 := ⟨by decide +kernel, rfl⟩
theorem i_mo_workOff_1 : fe M_mo_workOff 1 (.getfield 111) 3 4 := ⟨by decide +kernel, rfl⟩
theorem i_mo_workOff_4 : fb M_mo_workOff 4 (.ifCond .le) 69 7 := ⟨65, by decide +kernel, by decide, rfl⟩
theorem i_mo_workOff_7 : fe M_mo_workOff 7 (.aload_n 0) 1 8 := ⟨by decide +kernel, rfl⟩
theorem i_mo_workOff_8 : fe M_mo_workOff 8 (.getfield 63) 3 11 := ⟨by decide +kernel, rfl⟩
theorem i_mo_workOff_11 : fe M_mo_workOff 11 (.aload_n 0) 1 12 := ⟨by decide +kernel, rfl⟩
theorem i_mo_workOff_12 : fe M_mo_workOff 12 (.getfield 111) 3 15 := ⟨by decide +kernel, rfl⟩
theorem i_mo_workOff_15 : fe M_mo_workOff 15 (.iconst 1) 1 16 := ⟨by decide +kernel, rfl⟩
theorem i_mo_workOff_16 : fe M_mo_workOff 16 .isub 1 17 := ⟨by decide +kernel, rfl⟩
theorem i_mo_workOff_17 : fe M_mo_workOff 17 .iaload 1 18 := ⟨by decide +kernel, rfl⟩
theorem i_mo_workOff_18 : fe M_mo_workOff 18 (.bipush 40) 2 20 := ⟨by decide +kernel, rfl⟩
theorem i_mo_workOff_20 : fb M_mo_workOff 20 (.if_icmp .eq) 69 23 := ⟨49, by decide +kernel, by decide, rfl⟩
theorem i_mo_workOff_23 : fe M_mo_workOff 23 (.iload_n 1) 1 24 := ⟨by decide +kernel, rfl⟩
theorem i_mo_workOff_24 : fb M_mo_workOff 24 (.ifCond .ne) 43 27 := ⟨19, by decide +kernel, by decide, rfl⟩
theorem i_mo_workOff_27 : fe M_mo_workOff 27 (.aload_n 0) 1 28 := ⟨by decide +kernel, rfl⟩
theorem i_mo_workOff_28 : fe M_mo_workOff 28 (.getfield 63) 3 31 := ⟨by decide +kernel, rfl⟩
theorem i_mo_workOff_31 : fe M_mo_workOff 31 (.aload_n 0) 1 32 := ⟨by decide +kernel, rfl⟩
theorem i_mo_workOff_32 : fe M_mo_workOff 32 (.getfield 111) 3 35 := ⟨by decide +kernel, rfl⟩
theorem i_mo_workOff_35 : fe M_mo_workOff 35 (.iconst 1) 1 36 := ⟨by decide +kernel, rfl⟩
theorem i_mo_workOff_36 : fe M_mo_workOff 36 .isub 1 37 := ⟨by decide +kernel, rfl⟩
theorem i_mo_workOff_37 : fe M_mo_workOff 37 .iaload 1 38 := ⟨by decide +kernel, rfl⟩
theorem i_mo_workOff_38 : fe M_mo_workOff 38 (.bipush 38) 2 40 := ⟨by decide +kernel, rfl⟩
theorem i_mo_workOff_40 : fb M_mo_workOff 40 (.if_icmp .ne) 69 43 := ⟨29, by decide +kernel, by decide, rfl⟩
theorem i_mo_workOff_43 : fe M_mo_workOff 43 (.aload_n 0) 1 44 := ⟨by decide +kernel, rfl⟩
theorem i_mo_workOff_44 : fe M_mo_workOff 44 .dup 1 45 := ⟨by decide +kernel, rfl⟩
theorem i_mo_workOff_45 : fe M_mo_workOff 45 (.getfield 111) 3 48 := ⟨by decide +kernel, rfl⟩
theorem i_mo_workOff_48 : fe M_mo_workOff 48 (.iconst 1) 1 49 := ⟨by decide +kernel, rfl⟩
theorem i_mo_workOff_49 : fe M_mo_workOff 49 .isub 1 50 := ⟨by decide +kernel, rfl⟩
theorem i_mo_workOff_50 : fe M_mo_workOff 50 (.putfield 111) 3 53 := ⟨by decide +kernel, rfl⟩
theorem i_mo_workOff_53 : fe M_mo_workOff 53 (.aload_n 0) 1 54 := ⟨by decide +kernel, rfl⟩
theorem i_mo_workOff_54 : fe M_mo_workOff 54 (.aload_n 0) 1 55 := ⟨by decide +kernel, rfl⟩
theorem i_mo_workOff_55 : fe M_mo_workOff 55 (.getfield 63) 3 58 := ⟨by decide +kernel, rfl⟩
theorem i_mo_workOff_58 : fe M_mo_workOff 58 (.aload_n 0) 1 59 := ⟨by decide +kernel, rfl⟩
theorem i_mo_workOff_59 : fe M_mo_workOff 59 (.getfield 111) 3 62 := ⟨by decide +kernel, rfl⟩
theorem i_mo_workOff_62 : fe M_mo_workOff 62 .iaload 1 63 := ⟨by decide +kernel, rfl⟩
theorem i_mo_workOff_63 : fe M_mo_workOff 63 (.invokevirtual 114) 3 66 := ⟨by decide +kernel, rfl⟩
theorem i_mo_workOff_66 : fb M_mo_workOff 66 .goto 0 69 := ⟨-66, by decide +kernel, by decide, rfl⟩
theorem i_mo_workOff_69 : fe M_mo_workOff 69 .return_ 1 70 := ⟨by decide +kernel, rfl⟩
theorem i_mo_next_0 : fe M_mo_next 0 (.aload_n 0) 1 1 := ⟨by decide +kernel, rfl⟩
theorem i_mo_next_1 : fe M_mo_next 1 (.getfield 118) 3 4 := ⟨by decide +kernel, rfl⟩
theorem i_mo_next_4 : fe M_mo_next 4 (.aload_n 0) 1 5 := ⟨by decide +kernel, rfl⟩
theorem i_mo_next_5 : fe M_mo_next 5 (.getfield 98) 3 8 := ⟨by decide +kernel, rfl⟩
theorem i_mo_next_8 : fb M_mo_next 8 (.if_icmp .ge) 38 11 := ⟨30, by decide +kernel, by decide, rfl⟩
theorem i_mo_next_11 : fe M_mo_next 11 (.aload_n 0) 1 12 := ⟨by decide +kernel, rfl⟩
theorem i_mo_next_12 : fe M_mo_next 12 (.getfield 24) 3 15 := ⟨by decide +kernel, rfl⟩
theorem i_mo_next_15 : fe M_mo_next 15 (.aload_n 0) 1 16 := ⟨by decide +kernel, rfl⟩
theorem i_mo_next_16 : fe M_mo_next 16 (.getfield 118) 3 19 := ⟨by decide +kernel, rfl⟩
theorem i_mo_next_19 : fe M_mo_next 19 .iaload 1 20 := ⟨by decide +kernel, rfl⟩
theorem i_mo_next_20 : fe M_mo_next 20 (.bipush 32) 2 22 := ⟨by decide +kernel, rfl⟩
theorem i_mo_next_22 : fb M_mo_next 22 (.if_icmp .ne) 38 25 := ⟨16, by decide +kernel, by decide, rfl⟩
theorem i_mo_next_25 : fe M_mo_next 25 (.aload_n 0) 1 26 := ⟨by decide +kernel, rfl⟩
theorem i_mo_next_26 : fe M_mo_next 26 .dup 1 27 := ⟨by decide +kernel, rfl⟩
theorem i_mo_next_27 : fe M_mo_next 27 (.getfield 118) 3 30 := ⟨by decide +kernel, rfl⟩
theorem i_mo_next_30 : fe M_mo_next 30 (.iconst 1) 1 31 := ⟨by decide +kernel, rfl⟩
theorem i_mo_next_31 : fe M_mo_next 31 .iadd 1 32 := ⟨by decide +kernel, rfl⟩
theorem i_mo_next_32 : fe M_mo_next 32 (.putfield 118) 3 35 := ⟨by decide +kernel, rfl⟩
theorem i_mo_next_35 : fb M_mo_next 35 .goto 0 38 := ⟨-35, by decide +kernel, by decide, rfl⟩
theorem i_mo_next_38 : fe M_mo_next 38 (.aload_n 0) 1 39 := ⟨by decide +kernel, rfl⟩
theorem i_mo_next_39 : fe M_mo_next 39 (.getfield 118) 3 42 := ⟨by decide +kernel, rfl⟩
theorem i_mo_next_42 : fe M_mo_next 42 (.aload_n 0) 1 43 := ⟨by decide +kernel, rfl⟩
theorem i_mo_next_43 : fe M_mo_next 43 (.getfield 98) 3 46 := ⟨by decide +kernel, rfl⟩
theorem i_mo_next_46 : fb M_mo_next 46 (.if_icmp .ge) 61 49 := ⟨15, by decide +kernel, by decide, rfl⟩
theorem i_mo_next_49 : fe M_mo_next 49 (.aload_n 0) 1 50 := ⟨by decide +kernel, rfl⟩
theorem i_mo_next_50 : fe M_mo_next 50 (.getfield 24) 3 53 := ⟨by decide +kernel, rfl⟩
theorem i_mo_next_53 : fe M_mo_next 53 (.aload_n 0) 1 54 := ⟨by decide +kernel, rfl⟩
theorem i_mo_next_54 : fe M_mo_next 54 (.getfield 118) 3 57 := ⟨by decide +kernel, rfl⟩
theorem i_mo_next_57 : fe M_mo_next 57 .iaload 1 58 := ⟨by decide +kernel, rfl⟩
theorem i_mo_next_58 : fb M_mo_next 58 .goto 62 61 := ⟨4, by decide +kernel, by decide, rfl⟩
theorem i_mo_next_61 : fe M_mo_next 61 (.iconst 0) 1 62 := ⟨by decide +kernel, rfl⟩
theorem i_mo_next_62 : fe M_mo_next 62 .ireturn 1 63 := ⟨by decide +kernel, rfl⟩
theorem i_mo_operand_0 : fe M_mo_operand 0 (.aload_n 0) 1 1 := ⟨by decide +kernel, rfl⟩
theorem i_mo_operand_1 : fe M_mo_operand 1 (.invokevirtual 121) 3 4 := ⟨by decide +kernel, rfl⟩
theorem i_mo_operand_4 : fe M_mo_operand 4 (.bipush 40) 2 6 := ⟨by decide +kernel, rfl⟩
theorem i_mo_operand_6 : fb M_mo_operand 6 (.if_icmp .ne) 64 9 := ⟨58, by decide +kernel, by decide, rfl⟩
theorem i_mo_operand_9 : fe M_mo_operand 9 (.aload_n 0) 1 10 := ⟨by decide +kernel, rfl⟩
theorem i_mo_operand_10 : fe M_mo_operand 10 (.getfield 125) 3 13 := ⟨by decide +kernel, rfl⟩
theorem i_mo_operand_13 : fe M_mo_operand 13 (.bipush 10) 2 15 := ⟨by decide +kernel, rfl⟩
theorem i_mo_operand_15 : fb M_mo_operand 15 (.if_icmp .ne) 20 18 := ⟨5, by decide +kernel, by decide, rfl⟩
theorem i_mo_operand_18 : fe M_mo_operand 18 (.iconst 0) 1 19 := ⟨by decide +kernel, rfl⟩
theorem i_mo_operand_19 : fe M_mo_operand 19 .ireturn 1 20 := ⟨by decide +kernel, rfl⟩
theorem i_mo_operand_20 : fe M_mo_operand 20 (.aload_n 0) 1 21 := ⟨by decide +kernel, rfl⟩
theorem i_mo_operand_21 : fe M_mo_operand 21 (.getfield 63) 3 24 := ⟨by decide +kernel, rfl⟩
theorem i_mo_operand_24 : fe M_mo_operand 24 (.aload_n 0) 1 25 := ⟨by decide +kernel, rfl⟩
theorem i_mo_operand_25 : fe M_mo_operand 25 (.getfield 111) 3 28 := ⟨by decide +kernel, rfl⟩
theorem i_mo_operand_28 : fe M_mo_operand 28 (.bipush 40) 2 30 := ⟨by decide +kernel, rfl⟩
theorem i_mo_operand_30 : fe M_mo_operand 30 .iastore 1 31 := ⟨by decide +kernel, rfl⟩
theorem i_mo_operand_31 : fe M_mo_operand 31 (.aload_n 0) 1 32 := ⟨by decide +kernel, rfl⟩
theorem i_mo_operand_32 : fe M_mo_operand 32 .dup 1 33 := ⟨by decide +kernel, rfl⟩
theorem i_mo_operand_33 : fe M_mo_operand 33 (.getfield 111) 3 36 := ⟨by decide +kernel, rfl⟩
theorem i_mo_operand_36 : fe M_mo_operand 36 (.iconst 1) 1 37 := ⟨by decide +kernel, rfl⟩
theorem i_mo_operand_37 : fe M_mo_operand 37 .iadd 1 38 := ⟨by decide +kernel, rfl⟩
theorem i_mo_operand_38 : fe M_mo_operand 38 (.putfield 111) 3 41 := ⟨by decide +kernel, rfl⟩
theorem i_mo_operand_41 : fe M_mo_operand 41 (.aload_n 0) 1 42 := ⟨by decide +kernel, rfl⟩
theorem i_mo_operand_42 : fe M_mo_operand 42 .dup 1 43 := ⟨by decide +kernel, rfl⟩
theorem i_mo_operand_43 : fe M_mo_operand 43 (.getfield 125) 3 46 := ⟨by decide +kernel, rfl⟩
theorem i_mo_operand_46 : fe M_mo_operand 46 (.iconst 1) 1 47 := ⟨by decide +kernel, rfl⟩
theorem i_mo_operand_47 : fe M_mo_operand 47 .iadd 1 48 := ⟨by decide +kernel, rfl⟩
theorem i_mo_operand_48 : fe M_mo_operand 48 (.putfield 125) 3 51 := ⟨by decide +kernel, rfl⟩
theorem i_mo_operand_51 : fe M_mo_operand 51 (.aload_n 0) 1 52 := ⟨by decide +kernel, rfl⟩
theorem i_mo_operand_52 : fe M_mo_operand 52 .dup 1 53 := ⟨by decide +kernel, rfl⟩
theorem i_mo_operand_53 : fe M_mo_operand 53 (.getfield 118) 3 56 := ⟨by decide +kernel, rfl⟩
theorem i_mo_operand_56 : fe M_mo_operand 56 (.iconst 1) 1 57 := ⟨by decide +kernel, rfl⟩
theorem i_mo_operand_57 : fe M_mo_operand 57 .iadd 1 58 := ⟨by decide +kernel, rfl⟩
theorem i_mo_operand_58 : fe M_mo_operand 58 (.putfield 118) 3 61 := ⟨by decide +kernel, rfl⟩
theorem i_mo_operand_61 : fb M_mo_operand 61 .goto 0 64 := ⟨-61, by decide +kernel, by decide, rfl⟩
theorem i_mo_operand_64 : fe M_mo_operand 64 (.aload_n 0) 1 65 := ⟨by decide +kernel, rfl⟩
theorem i_mo_operand_65 : fe M_mo_operand 65 (.invokevirtual 121) 3 68 := ⟨by decide +kernel, rfl⟩
theorem i_mo_operand_68 : fe M_mo_operand 68 (.bipush 97) 2 70 := ⟨by decide +kernel, rfl⟩
theorem i_mo_operand_70 : fe M_mo_operand 70 .isub 1 71 := ⟨by decide +kernel, rfl⟩
theorem i_mo_operand_71 : fe M_mo_operand 71 (.istore_n 1) 1 72 := ⟨by decide +kernel, rfl⟩
theorem i_mo_operand_72 : fe M_mo_operand 72 (.aload_n 0) 1 73 := ⟨by decide +kernel, rfl⟩
theorem i_mo_operand_73 : fe M_mo_operand 73 (.iload_n 1) 1 74 := ⟨by decide +kernel, rfl⟩
theorem i_mo_operand_74 : fe M_mo_operand 74 (.invokevirtual 91) 3 77 := ⟨by decide +kernel, rfl⟩
theorem i_mo_operand_77 : fb M_mo_operand 77 (.ifCond .ne) 82 80 := ⟨5, by decide +kernel, by decide, rfl⟩
theorem i_mo_operand_80 : fe M_mo_operand 80 (.iconst 0) 1 81 := ⟨by decide +kernel, rfl⟩
theorem i_mo_operand_81 : fe M_mo_operand 81 .ireturn 1 82 := ⟨by decide +kernel, rfl⟩
theorem i_mo_operand_82 : fe M_mo_operand 82 (.aload_n 0) 1 83 := ⟨by decide +kernel, rfl⟩
theorem i_mo_operand_83 : fe M_mo_operand 83 .dup 1 84 := ⟨by decide +kernel, rfl⟩
theorem i_mo_operand_84 : fe M_mo_operand 84 (.getfield 118) 3 87 := ⟨by decide +kernel, rfl⟩
theorem i_mo_operand_87 : fe M_mo_operand 87 (.iconst 1) 1 88 := ⟨by decide +kernel, rfl⟩
theorem i_mo_operand_88 : fe M_mo_operand 88 .iadd 1 89 := ⟨by decide +kernel, rfl⟩
theorem i_mo_operand_89 : fe M_mo_operand 89 (.putfield 118) 3 92 := ⟨by decide +kernel, rfl⟩
theorem i_mo_operand_92 : fe M_mo_operand 92 (.bipush 9) 2 94 := ⟨by decide +kernel, rfl⟩
theorem i_mo_operand_94 : fe M_mo_operand 94 (.iload_n 1) 1 95 := ⟨by decide +kernel, rfl⟩
theorem i_mo_operand_95 : fe M_mo_operand 95 .imul 1 96 := ⟨by decide +kernel, rfl⟩
theorem i_mo_operand_96 : fe M_mo_operand 96 (.istore_n 2) 1 97 := ⟨by decide +kernel, rfl⟩
theorem i_mo_operand_97 : fe M_mo_operand 97 (.aload_n 0) 1 98 := ⟨by decide +kernel, rfl⟩
theorem i_mo_operand_98 : fe M_mo_operand 98 (.invokevirtual 121) 3 101 := ⟨by decide +kernel, rfl⟩
theorem i_mo_operand_101 : fe M_mo_operand 101 (.bipush 94) 2 103 := ⟨by decide +kernel, rfl⟩
theorem i_mo_operand_103 : fb M_mo_operand 103 (.if_icmp .ne) 154 106 := ⟨51, by decide +kernel, by decide, rfl⟩
theorem i_mo_operand_106 : fe M_mo_operand 106 (.aload_n 0) 1 107 := ⟨by decide +kernel, rfl⟩
theorem i_mo_operand_107 : fe M_mo_operand 107 .dup 1 108 := ⟨by decide +kernel, rfl⟩
theorem i_mo_operand_108 : fe M_mo_operand 108 (.getfield 118) 3 111 := ⟨by decide +kernel, rfl⟩
theorem i_mo_operand_111 : fe M_mo_operand 111 (.iconst 1) 1 112 := ⟨by decide +kernel, rfl⟩
theorem i_mo_operand_112 : fe M_mo_operand 112 .iadd 1 113 := ⟨by decide +kernel, rfl⟩
theorem i_mo_operand_113 : fe M_mo_operand 113 (.putfield 118) 3 116 := ⟨by decide +kernel, rfl⟩
theorem i_mo_operand_116 : fe M_mo_operand 116 (.aload_n 0) 1 117 := ⟨by decide +kernel, rfl⟩
theorem i_mo_operand_117 : fe M_mo_operand 117 (.invokevirtual 121) 3 120 := ⟨by decide +kernel, rfl⟩
theorem i_mo_operand_120 : fe M_mo_operand 120 (.istore_n 3) 1 121 := ⟨by decide +kernel, rfl⟩
theorem i_mo_operand_121 : fe M_mo_operand 121 (.iload_n 3) 1 122 := ⟨by decide +kernel, rfl⟩
theorem i_mo_operand_122 : fe M_mo_operand 122 (.bipush 48) 2 124 := ⟨by decide +kernel, rfl⟩
theorem i_mo_operand_124 : fb M_mo_operand 124 (.if_icmp .lt) 133 127 := ⟨9, by decide +kernel, by decide, rfl⟩
theorem i_mo_operand_127 : fe M_mo_operand 127 (.iload_n 3) 1 128 := ⟨by decide +kernel, rfl⟩
theorem i_mo_operand_128 : fe M_mo_operand 128 (.bipush 55) 2 130 := ⟨by decide +kernel, rfl⟩
theorem i_mo_operand_130 : fb M_mo_operand 130 (.if_icmp .le) 135 133 := ⟨5, by decide +kernel, by decide, rfl⟩
theorem i_mo_operand_133 : fe M_mo_operand 133 (.iconst 0) 1 134 := ⟨by decide +kernel, rfl⟩
theorem i_mo_operand_134 : fe M_mo_operand 134 .ireturn 1 135 := ⟨by decide +kernel, rfl⟩
theorem i_mo_operand_135 : fe M_mo_operand 135 (.iload_n 2) 1 136 := ⟨by decide +kernel, rfl⟩
theorem i_mo_operand_136 : fe M_mo_operand 136 (.iload_n 3) 1 137 := ⟨by decide +kernel, rfl⟩
theorem i_mo_operand_137 : fe M_mo_operand 137 (.bipush 48) 2 139 := ⟨by decide +kernel, rfl⟩
theorem i_mo_operand_139 : fe M_mo_operand 139 .isub 1 140 := ⟨by decide +kernel, rfl⟩
theorem i_mo_operand_140 : fe M_mo_operand 140 (.iconst 1) 1 141 := ⟨by decide +kernel, rfl⟩
theorem i_mo_operand_141 : fe M_mo_operand 141 .iadd 1 142 := ⟨by decide +kernel, rfl⟩
theorem i_mo_operand_142 : fe M_mo_operand 142 .iadd 1 143 := ⟨by decide +kernel, rfl⟩
theorem i_mo_operand_143 : fe M_mo_operand 143 (.istore_n 2) 1 144 := ⟨by decide +kernel, rfl⟩
theorem i_mo_operand_144 : fe M_mo_operand 144 (.aload_n 0) 1 145 := ⟨by decide +kernel, rfl⟩
theorem i_mo_operand_145 : fe M_mo_operand 145 .dup 1 146 := ⟨by decide +kernel, rfl⟩
theorem i_mo_operand_146 : fe M_mo_operand 146 (.getfield 118) 3 149 := ⟨by decide +kernel, rfl⟩
theorem i_mo_operand_149 : fe M_mo_operand 149 (.iconst 1) 1 150 := ⟨by decide +kernel, rfl⟩
theorem i_mo_operand_150 : fe M_mo_operand 150 .iadd 1 151 := ⟨by decide +kernel, rfl⟩
theorem i_mo_operand_151 : fe M_mo_operand 151 (.putfield 118) 3 154 := ⟨by decide +kernel, rfl⟩
theorem i_mo_operand_154 : fe M_mo_operand 154 (.aload_n 0) 1 155 := ⟨by decide +kernel, rfl⟩
theorem i_mo_operand_155 : fe M_mo_operand 155 (.getfield 54) 3 158 := ⟨by decide +kernel, rfl⟩
theorem i_mo_operand_158 : fe M_mo_operand 158 (.bipush 20) 2 160 := ⟨by decide +kernel, rfl⟩
theorem i_mo_operand_160 : fe M_mo_operand 160 (.aload_n 0) 1 161 := ⟨by decide +kernel, rfl⟩
theorem i_mo_operand_161 : fe M_mo_operand 161 (.getfield 104) 3 164 := ⟨by decide +kernel, rfl⟩
theorem i_mo_operand_164 : fe M_mo_operand 164 .imul 1 165 := ⟨by decide +kernel, rfl⟩
theorem i_mo_operand_165 : fe M_mo_operand 165 (.iconst 1) 1 166 := ⟨by decide +kernel, rfl⟩
theorem i_mo_operand_166 : fe M_mo_operand 166 (.aload_n 0) 1 167 := ⟨by decide +kernel, rfl⟩
theorem i_mo_operand_167 : fe M_mo_operand 167 (.iload_n 2) 1 168 := ⟨by decide +kernel, rfl⟩
theorem i_mo_operand_168 : fe M_mo_operand 168 (.invokevirtual 128) 3 171 := ⟨by decide +kernel, rfl⟩
theorem i_mo_operand_171 : fe M_mo_operand 171 .ishl 1 172 := ⟨by decide +kernel, rfl⟩
theorem i_mo_operand_172 : fe M_mo_operand 172 .iastore 1 173 := ⟨by decide +kernel, rfl⟩
theorem i_mo_operand_173 : fe M_mo_operand 173 (.aload_n 0) 1 174 := ⟨by decide +kernel, rfl⟩
theorem i_mo_operand_174 : fe M_mo_operand 174 (.getfield 57) 3 177 := ⟨by decide +kernel, rfl⟩
theorem i_mo_operand_177 : fe M_mo_operand 177 (.aload_n 0) 1 178 := ⟨by decide +kernel, rfl⟩
theorem i_mo_operand_178 : fe M_mo_operand 178 (.getfield 104) 3 181 := ⟨by decide +kernel, rfl⟩
theorem i_mo_operand_181 : fe M_mo_operand 181 (.iconst 1) 1 182 := ⟨by decide +kernel, rfl⟩
theorem i_mo_operand_182 : fe M_mo_operand 182 .iastore 1 183 := ⟨by decide +kernel, rfl⟩
theorem i_mo_operand_183 : fe M_mo_operand 183 (.aload_n 0) 1 184 := ⟨by decide +kernel, rfl⟩
theorem i_mo_operand_184 : fe M_mo_operand 184 .dup 1 185 := ⟨by decide +kernel, rfl⟩
theorem i_mo_operand_185 : fe M_mo_operand 185 (.getfield 104) 3 188 := ⟨by decide +kernel, rfl⟩
theorem i_mo_operand_188 : fe M_mo_operand 188 (.iconst 1) 1 189 := ⟨by decide +kernel, rfl⟩
theorem i_mo_operand_189 : fe M_mo_operand 189 .iadd 1 190 := ⟨by decide +kernel, rfl⟩
theorem i_mo_operand_190 : fe M_mo_operand 190 (.putfield 104) 3 193 := ⟨by decide +kernel, rfl⟩
theorem i_mo_operand_193 : fe M_mo_operand 193 (.iconst 1) 1 194 := ⟨by decide +kernel, rfl⟩
theorem i_mo_operand_194 : fe M_mo_operand 194 .ireturn 1 195 := ⟨by decide +kernel, rfl⟩
theorem i_mo_read_0 : fe M_mo_read 0 (.aload_n 0) 1 1 := ⟨by decide +kernel, rfl⟩
theorem i_mo_read_1 : fe M_mo_read 1 (.iconst 0) 1 2 := ⟨by decide +kernel, rfl⟩
theorem i_mo_read_2 : fe M_mo_read 2 (.putfield 118) 3 5 := ⟨by decide +kernel, rfl⟩
theorem i_mo_read_5 : fe M_mo_read 5 (.aload_n 0) 1 6 := ⟨by decide +kernel, rfl⟩
theorem i_mo_read_6 : fe M_mo_read 6 (.iconst 0) 1 7 := ⟨by decide +kernel, rfl⟩
theorem i_mo_read_7 : fe M_mo_read 7 (.putfield 111) 3 10 := ⟨by decide +kernel, rfl⟩
theorem i_mo_read_10 : fe M_mo_read 10 (.aload_n 0) 1 11 := ⟨by decide +kernel, rfl⟩
theorem i_mo_read_11 : fe M_mo_read 11 (.iconst 0) 1 12 := ⟨by decide +kernel, rfl⟩
theorem i_mo_read_12 : fe M_mo_read 12 (.putfield 104) 3 15 := ⟨by decide +kernel, rfl⟩
theorem i_mo_read_15 : fe M_mo_read 15 (.aload_n 0) 1 16 := ⟨by decide +kernel, rfl⟩
theorem i_mo_read_16 : fe M_mo_read 16 (.iconst 0) 1 17 := ⟨by decide +kernel, rfl⟩
theorem i_mo_read_17 : fe M_mo_read 17 (.putfield 101) 3 20 := ⟨by decide +kernel, rfl⟩
theorem i_mo_read_20 : fe M_mo_read 20 (.aload_n 0) 1 21 := ⟨by decide +kernel, rfl⟩
theorem i_mo_read_21 : fe M_mo_read 21 (.iconst 0) 1 22 := ⟨by decide +kernel, rfl⟩
theorem i_mo_read_22 : fe M_mo_read 22 (.putfield 125) 3 25 := ⟨by decide +kernel, rfl⟩
theorem i_mo_read_25 : fe M_mo_read 25 (.aload_n 0) 1 26 := ⟨by decide +kernel, rfl⟩
theorem i_mo_read_26 : fe M_mo_read 26 (.iconst 0) 1 27 := ⟨by decide +kernel, rfl⟩
theorem i_mo_read_27 : fe M_mo_read 27 (.putfield 107) 3 30 := ⟨by decide +kernel, rfl⟩
theorem i_mo_read_30 : fe M_mo_read 30 (.aload_n 0) 1 31 := ⟨by decide +kernel, rfl⟩
theorem i_mo_read_31 : fe M_mo_read 31 (.invokevirtual 132) 3 34 := ⟨by decide +kernel, rfl⟩
theorem i_mo_read_34 : fb M_mo_read 34 (.ifCond .ne) 42 37 := ⟨8, by decide +kernel, by decide, rfl⟩
theorem i_mo_read_37 : fe M_mo_read 37 (.aload_n 0) 1 38 := ⟨by decide +kernel, rfl⟩
theorem i_mo_read_38 : fe M_mo_read 38 (.getfield 118) 3 41 := ⟨by decide +kernel, rfl⟩
theorem i_mo_read_41 : fe M_mo_read 41 .ireturn 1 42 := ⟨by decide +kernel, rfl⟩
theorem i_mo_read_42 : fe M_mo_read 42 (.aload_n 0) 1 43 := ⟨by decide +kernel, rfl⟩
theorem i_mo_read_43 : fe M_mo_read 43 (.invokevirtual 121) 3 46 := ⟨by decide +kernel, rfl⟩
theorem i_mo_read_46 : fe M_mo_read 46 (.bipush 41) 2 48 := ⟨by decide +kernel, rfl⟩
theorem i_mo_read_48 : fb M_mo_read 48 (.if_icmp .ne) 96 51 := ⟨48, by decide +kernel, by decide, rfl⟩
theorem i_mo_read_51 : fe M_mo_read 51 (.aload_n 0) 1 52 := ⟨by decide +kernel, rfl⟩
theorem i_mo_read_52 : fe M_mo_read 52 (.getfield 125) 3 55 := ⟨by decide +kernel, rfl⟩
theorem i_mo_read_55 : fb M_mo_read 55 (.ifCond .le) 96 58 := ⟨41, by decide +kernel, by decide, rfl⟩
theorem i_mo_read_58 : fe M_mo_read 58 (.aload_n 0) 1 59 := ⟨by decide +kernel, rfl⟩
theorem i_mo_read_59 : fe M_mo_read 59 (.iconst 1) 1 60 := ⟨by decide +kernel, rfl⟩
theorem i_mo_read_60 : fe M_mo_read 60 (.invokevirtual 136) 3 63 := ⟨by decide +kernel, rfl⟩
theorem i_mo_read_63 : fe M_mo_read 63 (.aload_n 0) 1 64 := ⟨by decide +kernel, rfl⟩
theorem i_mo_read_64 : fe M_mo_read 64 .dup 1 65 := ⟨by decide +kernel, rfl⟩
theorem i_mo_read_65 : fe M_mo_read 65 (.getfield 111) 3 68 := ⟨by decide +kernel, rfl⟩
theorem i_mo_read_68 : fe M_mo_read 68 (.iconst 1) 1 69 := ⟨by decide +kernel, rfl⟩
theorem i_mo_read_69 : fe M_mo_read 69 .isub 1 70 := ⟨by decide +kernel, rfl⟩
theorem i_mo_read_70 : fe M_mo_read 70 (.putfield 111) 3 73 := ⟨by decide +kernel, rfl⟩
theorem i_mo_read_73 : fe M_mo_read 73 (.aload_n 0) 1 74 := ⟨by decide +kernel, rfl⟩
theorem i_mo_read_74 : fe M_mo_read 74 .dup 1 75 := ⟨by decide +kernel, rfl⟩
theorem i_mo_read_75 : fe M_mo_read 75 (.getfield 125) 3 78 := ⟨by decide +kernel, rfl⟩
theorem i_mo_read_78 : fe M_mo_read 78 (.iconst 1) 1 79 := ⟨by decide +kernel, rfl⟩
theorem i_mo_read_79 : fe M_mo_read 79 .isub 1 80 := ⟨by decide +kernel, rfl⟩
theorem i_mo_read_80 : fe M_mo_read 80 (.putfield 125) 3 83 := ⟨by decide +kernel, rfl⟩
theorem i_mo_read_83 : fe M_mo_read 83 (.aload_n 0) 1 84 := ⟨by decide +kernel, rfl⟩
theorem i_mo_read_84 : fe M_mo_read 84 .dup 1 85 := ⟨by decide +kernel, rfl⟩
theorem i_mo_read_85 : fe M_mo_read 85 (.getfield 118) 3 88 := ⟨by decide +kernel, rfl⟩
theorem i_mo_read_88 : fe M_mo_read 88 (.iconst 1) 1 89 := ⟨by decide +kernel, rfl⟩
theorem i_mo_read_89 : fe M_mo_read 89 .iadd 1 90 := ⟨by decide +kernel, rfl⟩
theorem i_mo_read_90 : fe M_mo_read 90 (.putfield 118) 3 93 := ⟨by decide +kernel, rfl⟩
theorem i_mo_read_93 : fb M_mo_read 93 .goto 42 96 := ⟨-51, by decide +kernel, by decide, rfl⟩
theorem i_mo_read_96 : fe M_mo_read 96 (.aload_n 0) 1 97 := ⟨by decide +kernel, rfl⟩
theorem i_mo_read_97 : fe M_mo_read 97 (.invokevirtual 121) 3 100 := ⟨by decide +kernel, rfl⟩
theorem i_mo_read_100 : fe M_mo_read 100 (.istore_n 1) 1 101 := ⟨by decide +kernel, rfl⟩
theorem i_mo_read_101 : fe M_mo_read 101 (.iload_n 1) 1 102 := ⟨by decide +kernel, rfl⟩
theorem i_mo_read_102 : fe M_mo_read 102 (.bipush 124) 2 104 := ⟨by decide +kernel, rfl⟩
theorem i_mo_read_104 : fb M_mo_read 104 (.if_icmp .eq) 116 107 := ⟨12, by decide +kernel, by decide, rfl⟩
theorem i_mo_read_107 : fe M_mo_read 107 (.iload_n 1) 1 108 := ⟨by decide +kernel, rfl⟩
theorem i_mo_read_108 : fe M_mo_read 108 (.bipush 38) 2 110 := ⟨by decide +kernel, rfl⟩
theorem i_mo_read_110 : fb M_mo_read 110 (.if_icmp .eq) 116 113 := ⟨6, by decide +kernel, by decide, rfl⟩
theorem i_mo_read_113 : fb M_mo_read 113 .goto 164 116 := ⟨51, by decide +kernel, by decide, rfl⟩
theorem i_mo_read_116 : fe M_mo_read 116 (.aload_n 0) 1 117 := ⟨by decide +kernel, rfl⟩
theorem i_mo_read_117 : fe M_mo_read 117 (.iload_n 1) 1 118 := ⟨by decide +kernel, rfl⟩
theorem i_mo_read_118 : fe M_mo_read 118 (.bipush 124) 2 120 := ⟨by decide +kernel, rfl⟩
theorem i_mo_read_120 : fb M_mo_read 120 (.if_icmp .ne) 127 123 := ⟨7, by decide +kernel, by decide, rfl⟩
theorem i_mo_read_123 : fe M_mo_read 123 (.iconst 1) 1 124 := ⟨by decide +kernel, rfl⟩
theorem i_mo_read_124 : fb M_mo_read 124 .goto 128 127 := ⟨4, by decide +kernel, by decide, rfl⟩
theorem i_mo_read_127 : fe M_mo_read 127 (.iconst 0) 1 128 := ⟨by decide +kernel, rfl⟩
theorem i_mo_read_128 : fe M_mo_read 128 (.invokevirtual 136) 3 131 := ⟨by decide +kernel, rfl⟩
theorem i_mo_read_131 : fe M_mo_read 131 (.aload_n 0) 1 132 := ⟨by decide +kernel, rfl⟩
theorem i_mo_read_132 : fe M_mo_read 132 (.getfield 63) 3 135 := ⟨by decide +kernel, rfl⟩
theorem i_mo_read_135 : fe M_mo_read 135 (.aload_n 0) 1 136 := ⟨by decide +kernel, rfl⟩
theorem i_mo_read_136 : fe M_mo_read 136 (.getfield 111) 3 139 := ⟨by decide +kernel, rfl⟩
theorem i_mo_read_139 : fe M_mo_read 139 (.iload_n 1) 1 140 := ⟨by decide +kernel, rfl⟩
theorem i_mo_read_140 : fe M_mo_read 140 .iastore 1 141 := ⟨by decide +kernel, rfl⟩
theorem i_mo_read_141 : fe M_mo_read 141 (.aload_n 0) 1 142 := ⟨by decide +kernel, rfl⟩
theorem i_mo_read_142 : fe M_mo_read 142 .dup 1 143 := ⟨by decide +kernel, rfl⟩
theorem i_mo_read_143 : fe M_mo_read 143 (.getfield 111) 3 146 := ⟨by decide +kernel, rfl⟩
theorem i_mo_read_146 : fe M_mo_read 146 (.iconst 1) 1 147 := ⟨by decide +kernel, rfl⟩
theorem i_mo_read_147 : fe M_mo_read 147 .iadd 1 148 := ⟨by decide +kernel, rfl⟩
theorem i_mo_read_148 : fe M_mo_read 148 (.putfield 111) 3 151 := ⟨by decide +kernel, rfl⟩
theorem i_mo_read_151 : fe M_mo_read 151 (.aload_n 0) 1 152 := ⟨by decide +kernel, rfl⟩
theorem i_mo_read_152 : fe M_mo_read 152 .dup 1 153 := ⟨by decide +kernel, rfl⟩
theorem i_mo_read_153 : fe M_mo_read 153 (.getfield 118) 3 156 := ⟨by decide +kernel, rfl⟩
theorem i_mo_read_156 : fe M_mo_read 156 (.iconst 1) 1 157 := ⟨by decide +kernel, rfl⟩
theorem i_mo_read_157 : fe M_mo_read 157 .iadd 1 158 := ⟨by decide +kernel, rfl⟩
theorem i_mo_read_158 : fe M_mo_read 158 (.putfield 118) 3 161 := ⟨by decide +kernel, rfl⟩
theorem i_mo_read_161 : fb M_mo_read 161 .goto 30 164 := ⟨-131, by decide +kernel, by decide, rfl⟩
theorem i_mo_read_164 : fe M_mo_read 164 (.aload_n 0) 1 165 := ⟨by decide +kernel, rfl⟩
theorem i_mo_read_165 : fe M_mo_read 165 (.getfield 118) 3 168 := ⟨by decide +kernel, rfl⟩
theorem i_mo_read_168 : fe M_mo_read 168 (.aload_n 0) 1 169 := ⟨by decide +kernel, rfl⟩
theorem i_mo_read_169 : fe M_mo_read 169 (.getfield 98) 3 172 := ⟨by decide +kernel, rfl⟩
theorem i_mo_read_172 : fb M_mo_read 172 (.if_icmp .lt) 182 175 := ⟨10, by decide +kernel, by decide, rfl⟩
theorem i_mo_read_175 : fe M_mo_read 175 (.aload_n 0) 1 176 := ⟨by decide +kernel, rfl⟩
theorem i_mo_read_176 : fe M_mo_read 176 (.getfield 125) 3 179 := ⟨by decide +kernel, rfl⟩
theorem i_mo_read_179 : fb M_mo_read 179 (.ifCond .le) 187 182 := ⟨8, by decide +kernel, by decide, rfl⟩
theorem i_mo_read_182 : fe M_mo_read 182 (.aload_n 0) 1 183 := ⟨by decide +kernel, rfl⟩
theorem i_mo_read_183 : fe M_mo_read 183 (.getfield 118) 3 186 := ⟨by decide +kernel, rfl⟩
theorem i_mo_read_186 : fe M_mo_read 186 .ireturn 1 187 := ⟨by decide +kernel, rfl⟩
theorem i_mo_read_187 : fe M_mo_read 187 (.aload_n 0) 1 188 := ⟨by decide +kernel, rfl⟩
theorem i_mo_read_188 : fe M_mo_read 188 (.iconst 1) 1 189 := ⟨by decide +kernel, rfl⟩
theorem i_mo_read_189 : fe M_mo_read 189 (.invokevirtual 136) 3 192 := ⟨by decide +kernel, rfl⟩
theorem i_mo_read_192 : fe M_mo_read 192 (.iconst (-1)) 1 193 := ⟨by decide +kernel, rfl⟩
theorem i_mo_read_193 : fe M_mo_read 193 .ireturn 1 194 := ⟨by decide +kernel, rfl⟩
theorem i_mo_express_0 : fe M_mo_express 0 (.aload_n 0) 1 1 := ⟨by decide +kernel, rfl⟩
theorem i_mo_express_1 : fe M_mo_express 1 (.iconst 0) 1 2 := ⟨by decide +kernel, rfl⟩
theorem i_mo_express_2 : fe M_mo_express 2 (.putfield 81) 3 5 := ⟨by decide +kernel, rfl⟩
theorem i_mo_express_5 : fe M_mo_express 5 (.aload_n 0) 1 6 := ⟨by decide +kernel, rfl⟩
theorem i_mo_express_6 : fe M_mo_express 6 (.invokevirtual 140) 3 9 := ⟨by decide +kernel, rfl⟩
theorem i_mo_express_9 : fe M_mo_express 9 (.istore_n 2) 1 10 := ⟨by decide +kernel, rfl⟩
theorem i_mo_express_10 : fe M_mo_express 10 (.aload_n 0) 1 11 := ⟨by decide +kernel, rfl⟩
theorem i_mo_express_11 : fe M_mo_express 11 (.iconst 0) 1 12 := ⟨by decide +kernel, rfl⟩
theorem i_mo_express_12 : fe M_mo_express 12 (.putfield 98) 3 15 := ⟨by decide +kernel, rfl⟩
theorem i_mo_express_15 : fe M_mo_express 15 (.aload_n 0) 1 16 := ⟨by decide +kernel, rfl⟩
theorem i_mo_express_16 : fe M_mo_express 16 (.iload_n 1) 1 17 := ⟨by decide +kernel, rfl⟩
theorem i_mo_express_17 : fe M_mo_express 17 (.invokevirtual 143) 3 20 := ⟨by decide +kernel, rfl⟩
theorem i_mo_express_20 : fb M_mo_express 20 (.ifCond .ne) 27 23 := ⟨7, by decide +kernel, by decide, rfl⟩
theorem i_mo_express_23 : fe M_mo_express 23 (.sipush (-200)) 3 26 := ⟨by decide +kernel, rfl⟩
theorem i_mo_express_26 : fe M_mo_express 26 .ireturn 1 27 := ⟨by decide +kernel, rfl⟩
theorem i_mo_express_27 : fe M_mo_express 27 (.iload_n 2) 1 28 := ⟨by decide +kernel, rfl⟩
theorem i_mo_express_28 : fe M_mo_express 28 (.iconst (-1)) 1 29 := ⟨by decide +kernel, rfl⟩
theorem i_mo_express_29 : fb M_mo_express 29 (.if_icmp .eq) 36 32 := ⟨7, by decide +kernel, by decide, rfl⟩
theorem i_mo_express_32 : fe M_mo_express 32 (.iconst (-1)) 1 33 := ⟨by decide +kernel, rfl⟩
theorem i_mo_express_33 : fe M_mo_express 33 (.iload_n 2) 1 34 := ⟨by decide +kernel, rfl⟩
theorem i_mo_express_34 : fe M_mo_express 34 .isub 1 35 := ⟨by decide +kernel, rfl⟩
theorem i_mo_express_35 : fe M_mo_express 35 .ireturn 1 36 := ⟨by decide +kernel, rfl⟩
theorem i_mo_express_36 : fe M_mo_express 36 (.aload_n 0) 1 37 := ⟨by decide +kernel, rfl⟩
theorem i_mo_express_37 : fe M_mo_express 37 (.getfield 107) 3 40 := ⟨by decide +kernel, rfl⟩
theorem i_mo_express_40 : fb M_mo_express 40 (.ifCond .eq) 46 43 := ⟨6, by decide +kernel, by decide, rfl⟩
theorem i_mo_express_43 : fe M_mo_express 43 (.bipush (-100)) 2 45 := ⟨by decide +kernel, rfl⟩
theorem i_mo_express_45 : fe M_mo_express 45 .ireturn 1 46 := ⟨by decide +kernel, rfl⟩
theorem i_mo_express_46 : fe M_mo_express 46 (.aload_n 0) 1 47 := ⟨by decide +kernel, rfl⟩
theorem i_mo_express_47 : fe M_mo_express 47 (.getfield 27) 3 50 := ⟨by decide +kernel, rfl⟩
theorem i_mo_express_50 : fe M_mo_express 50 (.iload_n 1) 1 51 := ⟨by decide +kernel, rfl⟩
theorem i_mo_express_51 : fe M_mo_express 51 (.aload_n 0) 1 52 := ⟨by decide +kernel, rfl⟩
theorem i_mo_express_52 : fe M_mo_express 52 (.getfield 101) 3 55 := ⟨by decide +kernel, rfl⟩
theorem i_mo_express_55 : fe M_mo_express 55 .iastore 1 56 := ⟨by decide +kernel, rfl⟩
theorem i_mo_express_56 : fe M_mo_express 56 (.iconst 0) 1 57 := ⟨by decide +kernel, rfl⟩
theorem i_mo_express_57 : fe M_mo_express 57 (.istore_n 3) 1 58 := ⟨by decide +kernel, rfl⟩
theorem i_mo_express_58 : fe M_mo_express 58 (.iload_n 3) 1 59 := ⟨by decide +kernel, rfl⟩
theorem i_mo_express_59 : fe M_mo_express 59 (.aload_n 0) 1 60 := ⟨by decide +kernel, rfl⟩
theorem i_mo_express_60 : fe M_mo_express 60 (.getfield 101) 3 63 := ⟨by decide +kernel, rfl⟩
theorem i_mo_express_63 : fb M_mo_express 63 (.if_icmp .ge) 89 66 := ⟨26, by decide +kernel, by decide, rfl⟩
theorem i_mo_express_66 : fe M_mo_express 66 (.aload_n 0) 1 67 := ⟨by decide +kernel, rfl⟩
theorem i_mo_express_67 : fe M_mo_express 67 (.getfield 30) 3 70 := ⟨by decide +kernel, rfl⟩
theorem i_mo_express_70 : fe M_mo_express 70 (.bipush 30) 2 72 := ⟨by decide +kernel, rfl⟩
theorem i_mo_express_72 : fe M_mo_express 72 (.iload_n 1) 1 73 := ⟨by decide +kernel, rfl⟩
theorem i_mo_express_73 : fe M_mo_express 73 .imul 1 74 := ⟨by decide +kernel, rfl⟩
theorem i_mo_express_74 : fe M_mo_express 74 (.iload_n 3) 1 75 := ⟨by decide +kernel, rfl⟩
theorem i_mo_express_75 : fe M_mo_express 75 .iadd 1 76 := ⟨by decide +kernel, rfl⟩
theorem i_mo_express_76 : fe M_mo_express 76 (.aload_n 0) 1 77 := ⟨by decide +kernel, rfl⟩
theorem i_mo_express_77 : fe M_mo_express 77 (.getfield 51) 3 80 := ⟨by decide +kernel, rfl⟩
theorem i_mo_express_80 : fe M_mo_express 80 (.iload_n 3) 1 81 := ⟨by decide +kernel, rfl⟩
theorem i_mo_express_81 : fe M_mo_express 81 .iaload 1 82 := ⟨by decide +kernel, rfl⟩
theorem i_mo_express_82 : fe M_mo_express 82 .iastore 1 83 := ⟨by decide +kernel, rfl⟩
theorem i_mo_express_83 : fe M_mo_express 83 (.iinc 3 1) 3 86 := ⟨by decide +kernel, rfl⟩
theorem i_mo_express_86 : fb M_mo_express 86 .goto 58 89 := ⟨-28, by decide +kernel, by decide, rfl⟩
theorem i_mo_express_89 : fe M_mo_express 89 (.aload_n 0) 1 90 := ⟨by decide +kernel, rfl⟩
theorem i_mo_express_90 : fe M_mo_express 90 (.getfield 33) 3 93 := ⟨by decide +kernel, rfl⟩
theorem i_mo_express_93 : fe M_mo_express 93 (.iload_n 1) 1 94 := ⟨by decide +kernel, rfl⟩
theorem i_mo_express_94 : fe M_mo_express 94 (.aload_n 0) 1 95 := ⟨by decide +kernel, rfl⟩
theorem i_mo_express_95 : fe M_mo_express 95 (.getfield 57) 3 98 := ⟨by decide +kernel, rfl⟩
theorem i_mo_express_98 : fe M_mo_express 98 (.iconst 0) 1 99 := ⟨by decide +kernel, rfl⟩
theorem i_mo_express_99 : fe M_mo_express 99 .iaload 1 100 := ⟨by decide +kernel, rfl⟩
theorem i_mo_express_100 : fe M_mo_express 100 .iastore 1 101 := ⟨by decide +kernel, rfl⟩
theorem i_mo_express_101 : fe M_mo_express 101 (.iconst 0) 1 102 := ⟨by decide +kernel, rfl⟩
theorem i_mo_express_102 : fe M_mo_express 102 (.istore_n 3) 1 103 := ⟨by decide +kernel, rfl⟩
theorem i_mo_express_103 : fe M_mo_express 103 (.iload_n 3) 1 104 := ⟨by decide +kernel, rfl⟩
theorem i_mo_express_104 : fe M_mo_express 104 (.aload_n 0) 1 105 := ⟨by decide +kernel, rfl⟩
theorem i_mo_express_105 : fe M_mo_express 105 (.getfield 57) 3 108 := ⟨by decide +kernel, rfl⟩
theorem i_mo_express_108 : fe M_mo_express 108 (.iconst 0) 1 109 := ⟨by decide +kernel, rfl⟩
theorem i_mo_express_109 : fe M_mo_express 109 .iaload 1 110 := ⟨by decide +kernel, rfl⟩
theorem i_mo_express_110 : fb M_mo_express 110 (.if_icmp .ge) 136 113 := ⟨26, by decide +kernel, by decide, rfl⟩
theorem i_mo_express_113 : fe M_mo_express 113 (.aload_n 0) 1 114 := ⟨by decide +kernel, rfl⟩
theorem i_mo_express_114 : fe M_mo_express 114 (.getfield 36) 3 117 := ⟨by decide +kernel, rfl⟩
theorem i_mo_express_117 : fe M_mo_express 117 (.bipush 20) 2 119 := ⟨by decide +kernel, rfl⟩
theorem i_mo_express_119 : fe M_mo_express 119 (.iload_n 1) 1 120 := ⟨by decide +kernel, rfl⟩
theorem i_mo_express_120 : fe M_mo_express 120 .imul 1 121 := ⟨by decide +kernel, rfl⟩
theorem i_mo_express_121 : fe M_mo_express 121 (.iload_n 3) 1 122 := ⟨by decide +kernel, rfl⟩
theorem i_mo_express_122 : fe M_mo_express 122 .iadd 1 123 := ⟨by decide +kernel, rfl⟩
theorem i_mo_express_123 : fe M_mo_express 123 (.aload_n 0) 1 124 := ⟨by decide +kernel, rfl⟩
theorem i_mo_express_124 : fe M_mo_express 124 (.getfield 54) 3 127 := ⟨by decide +kernel, rfl⟩
theorem i_mo_express_127 : fe M_mo_express 127 (.iload_n 3) 1 128 := ⟨by decide +kernel, rfl⟩
theorem i_mo_express_128 : fe M_mo_express 128 .iaload 1 129 := ⟨by decide +kernel, rfl⟩
theorem i_mo_express_129 : fe M_mo_express 129 .iastore 1 130 := ⟨by decide +kernel, rfl⟩
theorem i_mo_express_130 : fe M_mo_express 130 (.iinc 3 1) 3 133 := ⟨by decide +kernel, rfl⟩
theorem i_mo_express_133 : fb M_mo_express 133 .goto 103 136 := ⟨-30, by decide +kernel, by decide, rfl⟩
theorem i_mo_express_136 : fe M_mo_express 136 (.aload_n 0) 1 137 := ⟨by decide +kernel, rfl⟩
theorem i_mo_express_137 : fe M_mo_express 137 (.getfield 33) 3 140 := ⟨by decide +kernel, rfl⟩
theorem i_mo_express_140 : fe M_mo_express 140 (.iload_n 1) 1 141 := ⟨by decide +kernel, rfl⟩
theorem i_mo_express_141 : fe M_mo_express 141 .iaload 1 142 := ⟨by decide +kernel, rfl⟩
theorem i_mo_express_142 : fe M_mo_express 142 .ireturn 1 143 := ⟨by decide +kernel, rfl⟩
theorem i_mo_choices_0 : fe M_mo_choices 0 (.aload_n 0) 1 1 := ⟨by decide +kernel, rfl⟩
theorem i_mo_choices_1 : fe M_mo_choices 1 (.iconst 0) 1 2 := ⟨by decide +kernel, rfl⟩
theorem i_mo_choices_2 : fe M_mo_choices 2 (.putfield 81) 3 5 := ⟨by decide +kernel, rfl⟩
theorem i_mo_choices_5 : fe M_mo_choices 5 (.aload_n 0) 1 6 := ⟨by decide +kernel, rfl⟩
theorem i_mo_choices_6 : fe M_mo_choices 6 (.iload_n 1) 1 7 := ⟨by decide +kernel, rfl⟩
theorem i_mo_choices_7 : fe M_mo_choices 7 (.invokevirtual 143) 3 10 := ⟨by decide +kernel, rfl⟩
theorem i_mo_choices_10 : fb M_mo_choices 10 (.ifCond .eq) 22 13 := ⟨12, by decide +kernel, by decide, rfl⟩
theorem i_mo_choices_13 : fe M_mo_choices 13 (.aload_n 0) 1 14 := ⟨by decide +kernel, rfl⟩
theorem i_mo_choices_14 : fe M_mo_choices 14 (.getfield 33) 3 17 := ⟨by decide +kernel, rfl⟩
theorem i_mo_choices_17 : fe M_mo_choices 17 (.iload_n 1) 1 18 := ⟨by decide +kernel, rfl⟩
theorem i_mo_choices_18 : fe M_mo_choices 18 .iaload 1 19 := ⟨by decide +kernel, rfl⟩
theorem i_mo_choices_19 : fb M_mo_choices 19 .goto 23 22 := ⟨4, by decide +kernel, by decide, rfl⟩
theorem i_mo_choices_22 : fe M_mo_choices 22 (.iconst (-1)) 1 23 := ⟨by decide +kernel, rfl⟩
theorem i_mo_choices_23 : fe M_mo_choices 23 .ireturn 1 24 := ⟨by decide +kernel, rfl⟩
theorem i_mo_count_0 : fe M_mo_count 0 (.iconst 0) 1 1 := ⟨by decide +kernel, rfl⟩
theorem i_mo_count_1 : fe M_mo_count 1 (.istore_n 1) 1 2 := ⟨by decide +kernel, rfl⟩
theorem i_mo_count_2 : fe M_mo_count 2 (.iconst 0) 1 3 := ⟨by decide +kernel, rfl⟩
theorem i_mo_count_3 : fe M_mo_count 3 (.istore_n 2) 1 4 := ⟨by decide +kernel, rfl⟩
theorem i_mo_count_4 : fe M_mo_count 4 (.iload_n 2) 1 5 := ⟨by decide +kernel, rfl⟩
theorem i_mo_count_5 : fe M_mo_count 5 (.bipush 31) 2 7 := ⟨by decide +kernel, rfl⟩
theorem i_mo_count_7 : fb M_mo_count 7 (.if_icmp .ge) 24 10 := ⟨17, by decide +kernel, by decide, rfl⟩
theorem i_mo_count_10 : fe M_mo_count 10 (.iload_n 1) 1 11 := ⟨by decide +kernel, rfl⟩
theorem i_mo_count_11 : fe M_mo_count 11 (.iload_n 0) 1 12 := ⟨by decide +kernel, rfl⟩
theorem i_mo_count_12 : fe M_mo_count 12 (.iload_n 2) 1 13 := ⟨by decide +kernel, rfl⟩
theorem i_mo_count_13 : fe M_mo_count 13 .ishr 1 14 := ⟨by decide +kernel, rfl⟩
theorem i_mo_count_14 : fe M_mo_count 14 (.iconst 1) 1 15 := ⟨by decide +kernel, rfl⟩
theorem i_mo_count_15 : fe M_mo_count 15 .iand 1 16 := ⟨by decide +kernel, rfl⟩
theorem i_mo_count_16 : fe M_mo_count 16 .iadd 1 17 := ⟨by decide +kernel, rfl⟩
theorem i_mo_count_17 : fe M_mo_count 17 (.istore_n 1) 1 18 := ⟨by decide +kernel, rfl⟩
theorem i_mo_count_18 : fe M_mo_count 18 (.iinc 2 1) 3 21 := ⟨by decide +kernel, rfl⟩
theorem i_mo_count_21 : fb M_mo_count 21 .goto 4 24 := ⟨-17, by decide +kernel, by decide, rfl⟩
theorem i_mo_count_24 : fe M_mo_count 24 (.iload_n 1) 1 25 := ⟨by decide +kernel, rfl⟩
theorem i_mo_count_25 : fe M_mo_count 25 .ireturn 1 26 := ⟨by decide +kernel, rfl⟩
theorem i_mo_pair_0 : fe M_mo_pair 0 (.aload_n 0) 1 1 := ⟨by decide +kernel, rfl⟩
theorem i_mo_pair_1 : fe M_mo_pair 1 (.iconst 0) 1 2 := ⟨by decide +kernel, rfl⟩
theorem i_mo_pair_2 : fe M_mo_pair 2 (.putfield 81) 3 5 := ⟨by decide +kernel, rfl⟩
theorem i_mo_pair_5 : fe M_mo_pair 5 (.aload_n 0) 1 6 := ⟨by decide +kernel, rfl⟩
theorem i_mo_pair_6 : fe M_mo_pair 6 (.iload_n 1) 1 7 := ⟨by decide +kernel, rfl⟩
theorem i_mo_pair_7 : fe M_mo_pair 7 (.invokevirtual 143) 3 10 := ⟨by decide +kernel, rfl⟩
theorem i_mo_pair_10 : fb M_mo_pair 10 (.ifCond .eq) 31 13 := ⟨21, by decide +kernel, by decide, rfl⟩
theorem i_mo_pair_13 : fe M_mo_pair 13 (.iload_n 2) 1 14 := ⟨by decide +kernel, rfl⟩
theorem i_mo_pair_14 : fb M_mo_pair 14 (.ifCond .lt) 31 17 := ⟨17, by decide +kernel, by decide, rfl⟩
theorem i_mo_pair_17 : fe M_mo_pair 17 (.iload_n 2) 1 18 := ⟨by decide +kernel, rfl⟩
theorem i_mo_pair_18 : fe M_mo_pair 18 (.aload_n 0) 1 19 := ⟨by decide +kernel, rfl⟩
theorem i_mo_pair_19 : fe M_mo_pair 19 (.getfield 33) 3 22 := ⟨by decide +kernel, rfl⟩
theorem i_mo_pair_22 : fe M_mo_pair 22 (.iload_n 1) 1 23 := ⟨by decide +kernel, rfl⟩
theorem i_mo_pair_23 : fe M_mo_pair 23 .iaload 1 24 := ⟨by decide +kernel, rfl⟩
theorem i_mo_pair_24 : fb M_mo_pair 24 (.if_icmp .ge) 31 27 := ⟨7, by decide +kernel, by decide, rfl⟩
theorem i_mo_pair_27 : fe M_mo_pair 27 (.iload_n 3) 1 28 := ⟨by decide +kernel, rfl⟩
theorem i_mo_pair_28 : fb M_mo_pair 28 (.ifCond .ge) 33 31 := ⟨5, by decide +kernel, by decide, rfl⟩
theorem i_mo_pair_31 : fe M_mo_pair 31 (.iconst (-1)) 1 32 := ⟨by decide +kernel, rfl⟩
theorem i_mo_pair_32 : fe M_mo_pair 32 .ireturn 1 33 := ⟨by decide +kernel, rfl⟩
theorem i_mo_pair_33 : fe M_mo_pair 33 (.aload_n 0) 1 34 := ⟨by decide +kernel, rfl⟩
theorem i_mo_pair_34 : fe M_mo_pair 34 (.getfield 36) 3 37 := ⟨by decide +kernel, rfl⟩
theorem i_mo_pair_37 : fe M_mo_pair 37 (.bipush 20) 2 39 := ⟨by decide +kernel, rfl⟩
theorem i_mo_pair_39 : fe M_mo_pair 39 (.iload_n 1) 1 40 := ⟨by decide +kernel, rfl⟩
theorem i_mo_pair_40 : fe M_mo_pair 40 .imul 1 41 := ⟨by decide +kernel, rfl⟩
theorem i_mo_pair_41 : fe M_mo_pair 41 (.iload_n 2) 1 42 := ⟨by decide +kernel, rfl⟩
theorem i_mo_pair_42 : fe M_mo_pair 42 .iadd 1 43 := ⟨by decide +kernel, rfl⟩
theorem i_mo_pair_43 : fe M_mo_pair 43 .iaload 1 44 := ⟨by decide +kernel, rfl⟩
theorem i_mo_pair_44 : fe M_mo_pair 44 (.istore 4) 2 46 := ⟨by decide +kernel, rfl⟩
theorem i_mo_pair_46 : fe M_mo_pair 46 (.iconst 0) 1 47 := ⟨by decide +kernel, rfl⟩
theorem i_mo_pair_47 : fe M_mo_pair 47 (.istore 5) 2 49 := ⟨by decide +kernel, rfl⟩
theorem i_mo_pair_49 : fe M_mo_pair 49 (.iload 5) 2 51 := ⟨by decide +kernel, rfl⟩
theorem i_mo_pair_51 : fe M_mo_pair 51 (.aload_n 0) 1 52 := ⟨by decide +kernel, rfl⟩
theorem i_mo_pair_52 : fe M_mo_pair 52 (.getfield 27) 3 55 := ⟨by decide +kernel, rfl⟩
theorem i_mo_pair_55 : fe M_mo_pair 55 (.iload_n 1) 1 56 := ⟨by decide +kernel, rfl⟩
theorem i_mo_pair_56 : fe M_mo_pair 56 .iaload 1 57 := ⟨by decide +kernel, rfl⟩
theorem i_mo_pair_57 : fb M_mo_pair 57 (.if_icmp .ge) 167 60 := ⟨110, by decide +kernel, by decide, rfl⟩
theorem i_mo_pair_60 : fe M_mo_pair 60 (.iconst 0) 1 61 := ⟨by decide +kernel, rfl⟩
theorem i_mo_pair_61 : fe M_mo_pair 61 (.istore 6) 2 63 := ⟨by decide +kernel, rfl⟩
theorem i_mo_pair_63 : fe M_mo_pair 63 (.iconst 0) 1 64 := ⟨by decide +kernel, rfl⟩
theorem i_mo_pair_64 : fe M_mo_pair 64 (.istore 7) 2 66 := ⟨by decide +kernel, rfl⟩
theorem i_mo_pair_66 : fe M_mo_pair 66 (.iload 7) 2 68 := ⟨by decide +kernel, rfl⟩
theorem i_mo_pair_68 : fe M_mo_pair 68 (.aload_n 0) 1 69 := ⟨by decide +kernel, rfl⟩
theorem i_mo_pair_69 : fe M_mo_pair 69 (.getfield 27) 3 72 := ⟨by decide +kernel, rfl⟩
theorem i_mo_pair_72 : fe M_mo_pair 72 (.iload_n 1) 1 73 := ⟨by decide +kernel, rfl⟩
theorem i_mo_pair_73 : fe M_mo_pair 73 .iaload 1 74 := ⟨by decide +kernel, rfl⟩
theorem i_mo_pair_74 : fb M_mo_pair 74 (.if_icmp .ge) 131 77 := ⟨57, by decide +kernel, by decide, rfl⟩
theorem i_mo_pair_77 : fe M_mo_pair 77 (.iload 6) 2 79 := ⟨by decide +kernel, rfl⟩
theorem i_mo_pair_79 : fe M_mo_pair 79 (.iload 4) 2 81 := ⟨by decide +kernel, rfl⟩
theorem i_mo_pair_81 : fe M_mo_pair 81 (.iload 7) 2 83 := ⟨by decide +kernel, rfl⟩
theorem i_mo_pair_83 : fe M_mo_pair 83 .ishr 1 84 := ⟨by decide +kernel, rfl⟩
theorem i_mo_pair_84 : fe M_mo_pair 84 (.iconst 1) 1 85 := ⟨by decide +kernel, rfl⟩
theorem i_mo_pair_85 : fe M_mo_pair 85 .iand 1 86 := ⟨by decide +kernel, rfl⟩
theorem i_mo_pair_86 : fe M_mo_pair 86 (.iconst 1) 1 87 := ⟨by decide +kernel, rfl⟩
theorem i_mo_pair_87 : fb M_mo_pair 87 (.if_icmp .ne) 121 90 := ⟨34, by decide +kernel, by decide, rfl⟩
theorem i_mo_pair_90 : fe M_mo_pair 90 (.aload_n 0) 1 91 := ⟨by decide +kernel, rfl⟩
theorem i_mo_pair_91 : fe M_mo_pair 91 (.getfield 30) 3 94 := ⟨by decide +kernel, rfl⟩
theorem i_mo_pair_94 : fe M_mo_pair 94 (.bipush 30) 2 96 := ⟨by decide +kernel, rfl⟩
theorem i_mo_pair_96 : fe M_mo_pair 96 (.iload_n 1) 1 97 := ⟨by decide +kernel, rfl⟩
theorem i_mo_pair_97 : fe M_mo_pair 97 .imul 1 98 := ⟨by decide +kernel, rfl⟩
theorem i_mo_pair_98 : fe M_mo_pair 98 (.iload 7) 2 100 := ⟨by decide +kernel, rfl⟩
theorem i_mo_pair_100 : fe M_mo_pair 100 .iadd 1 101 := ⟨by decide +kernel, rfl⟩
theorem i_mo_pair_101 : fe M_mo_pair 101 .iaload 1 102 := ⟨by decide +kernel, rfl⟩
theorem i_mo_pair_102 : fe M_mo_pair 102 (.aload_n 0) 1 103 := ⟨by decide +kernel, rfl⟩
theorem i_mo_pair_103 : fe M_mo_pair 103 (.getfield 30) 3 106 := ⟨by decide +kernel, rfl⟩
theorem i_mo_pair_106 : fe M_mo_pair 106 (.bipush 30) 2 108 := ⟨by decide +kernel, rfl⟩
theorem i_mo_pair_108 : fe M_mo_pair 108 (.iload_n 1) 1 109 := ⟨by decide +kernel, rfl⟩
theorem i_mo_pair_109 : fe M_mo_pair 109 .imul 1 110 := ⟨by decide +kernel, rfl⟩
theorem i_mo_pair_110 : fe M_mo_pair 110 (.iload 5) 2 112 := ⟨by decide +kernel, rfl⟩
theorem i_mo_pair_112 : fe M_mo_pair 112 .iadd 1 113 := ⟨by decide +kernel, rfl⟩
theorem i_mo_pair_113 : fe M_mo_pair 113 .iaload 1 114 := ⟨by decide +kernel, rfl⟩
theorem i_mo_pair_114 : fb M_mo_pair 114 (.if_icmp .ge) 121 117 := ⟨7, by decide +kernel, by decide, rfl⟩
theorem i_mo_pair_117 : fe M_mo_pair 117 (.iconst 1) 1 118 := ⟨by decide +kernel, rfl⟩
theorem i_mo_pair_118 : fb M_mo_pair 118 .goto 122 121 := ⟨4, by decide +kernel, by decide, rfl⟩
theorem i_mo_pair_121 : fe M_mo_pair 121 (.iconst 0) 1 122 := ⟨by decide +kernel, rfl⟩
theorem i_mo_pair_122 : fe M_mo_pair 122 .iadd 1 123 := ⟨by decide +kernel, rfl⟩
theorem i_mo_pair_123 : fe M_mo_pair 123 (.istore 6) 2 125 := ⟨by decide +kernel, rfl⟩
theorem i_mo_pair_125 : fe M_mo_pair 125 (.iinc 7 1) 3 128 := ⟨by decide +kernel, rfl⟩
theorem i_mo_pair_128 : fb M_mo_pair 128 .goto 66 131 := ⟨-62, by decide +kernel, by decide, rfl⟩
theorem i_mo_pair_131 : fe M_mo_pair 131 (.iload 4) 2 133 := ⟨by decide +kernel, rfl⟩
theorem i_mo_pair_133 : fe M_mo_pair 133 (.iload 5) 2 135 := ⟨by decide +kernel, rfl⟩
theorem i_mo_pair_135 : fe M_mo_pair 135 .ishr 1 136 := ⟨by decide +kernel, rfl⟩
theorem i_mo_pair_136 : fe M_mo_pair 136 (.iconst 1) 1 137 := ⟨by decide +kernel, rfl⟩
theorem i_mo_pair_137 : fe M_mo_pair 137 .iand 1 138 := ⟨by decide +kernel, rfl⟩
theorem i_mo_pair_138 : fe M_mo_pair 138 (.iconst 1) 1 139 := ⟨by decide +kernel, rfl⟩
theorem i_mo_pair_139 : fb M_mo_pair 139 (.if_icmp .ne) 161 142 := ⟨22, by decide +kernel, by decide, rfl⟩
theorem i_mo_pair_142 : fe M_mo_pair 142 (.iload 6) 2 144 := ⟨by decide +kernel, rfl⟩
theorem i_mo_pair_144 : fe M_mo_pair 144 (.iload_n 3) 1 145 := ⟨by decide +kernel, rfl⟩
theorem i_mo_pair_145 : fb M_mo_pair 145 (.if_icmp .ne) 161 148 := ⟨16, by decide +kernel, by decide, rfl⟩
theorem i_mo_pair_148 : fe M_mo_pair 148 (.aload_n 0) 1 149 := ⟨by decide +kernel, rfl⟩
theorem i_mo_pair_149 : fe M_mo_pair 149 (.getfield 30) 3 152 := ⟨by decide +kernel, rfl⟩
theorem i_mo_pair_152 : fe M_mo_pair 152 (.bipush 30) 2 154 := ⟨by decide +kernel, rfl⟩
theorem i_mo_pair_154 : fe M_mo_pair 154 (.iload_n 1) 1 155 := ⟨by decide +kernel, rfl⟩
theorem i_mo_pair_155 : fe M_mo_pair 155 .imul 1 156 := ⟨by decide +kernel, rfl⟩
theorem i_mo_pair_156 : fe M_mo_pair 156 (.iload 5) 2 158 := ⟨by decide +kernel, rfl⟩
theorem i_mo_pair_158 : fe M_mo_pair 158 .iadd 1 159 := ⟨by decide +kernel, rfl⟩
theorem i_mo_pair_159 : fe M_mo_pair 159 .iaload 1 160 := ⟨by decide +kernel, rfl⟩
theorem i_mo_pair_160 : fe M_mo_pair 160 .ireturn 1 161 := ⟨by decide +kernel, rfl⟩
theorem i_mo_pair_161 : fe M_mo_pair 161 (.iinc 5 1) 3 164 := ⟨by decide +kernel, rfl⟩
theorem i_mo_pair_164 : fb M_mo_pair 164 .goto 49 167 := ⟨-115, by decide +kernel, by decide, rfl⟩
theorem i_mo_pair_167 : fe M_mo_pair 167 (.iconst (-1)) 1 168 := ⟨by decide +kernel, rfl⟩
theorem i_mo_pair_168 : fe M_mo_pair 168 .ireturn 1 169 := ⟨by decide +kernel, rfl⟩
theorem i_mo_isLifted_0 : fe M_mo_isLifted 0 (.iload_n 1) 1 1 := ⟨by decide +kernel, rfl⟩
theorem i_mo_isLifted_1 : fe M_mo_isLifted 1 (.bipush 9) 2 3 := ⟨by decide +kernel, rfl⟩
theorem i_mo_isLifted_3 : fe M_mo_isLifted 3 .irem 1 4 := ⟨by decide +kernel, rfl⟩
theorem i_mo_isLifted_4 : fb M_mo_isLifted 4 (.ifCond .le) 29 7 := ⟨25, by decide +kernel, by decide, rfl⟩
theorem i_mo_isLifted_7 : fe M_mo_isLifted 7 (.aload_n 0) 1 8 := ⟨by decide +kernel, rfl⟩
theorem i_mo_isLifted_8 : fe M_mo_isLifted 8 (.getfield 20) 3 11 := ⟨by decide +kernel, rfl⟩
theorem i_mo_isLifted_11 : fe M_mo_isLifted 11 (.iconst 3) 1 12 := ⟨by decide +kernel, rfl⟩
theorem i_mo_isLifted_12 : fe M_mo_isLifted 12 (.iload_n 1) 1 13 := ⟨by decide +kernel, rfl⟩
theorem i_mo_isLifted_13 : fe M_mo_isLifted 13 (.bipush 9) 2 15 := ⟨by decide +kernel, rfl⟩
theorem i_mo_isLifted_15 : fe M_mo_isLifted 15 .irem 1 16 := ⟨by decide +kernel, rfl⟩
theorem i_mo_isLifted_16 : fe M_mo_isLifted 16 (.iconst 1) 1 17 := ⟨by decide +kernel, rfl⟩
theorem i_mo_isLifted_17 : fe M_mo_isLifted 17 .isub 1 18 := ⟨by decide +kernel, rfl⟩
theorem i_mo_isLifted_18 : fe M_mo_isLifted 18 .imul 1 19 := ⟨by decide +kernel, rfl⟩
theorem i_mo_isLifted_19 : fe M_mo_isLifted 19 (.iload_n 2) 1 20 := ⟨by decide +kernel, rfl⟩
theorem i_mo_isLifted_20 : fe M_mo_isLifted 20 .iadd 1 21 := ⟨by decide +kernel, rfl⟩
theorem i_mo_isLifted_21 : fe M_mo_isLifted 21 .baload 1 22 := ⟨by decide +kernel, rfl⟩
theorem i_mo_isLifted_22 : fb M_mo_isLifted 22 (.ifCond .eq) 29 25 := ⟨7, by decide +kernel, by decide, rfl⟩
theorem i_mo_isLifted_25 : fe M_mo_isLifted 25 (.iconst 1) 1 26 := ⟨by decide +kernel, rfl⟩
theorem i_mo_isLifted_26 : fb M_mo_isLifted 26 .goto 30 29 := ⟨4, by decide +kernel, by decide, rfl⟩
theorem i_mo_isLifted_29 : fe M_mo_isLifted 29 (.iconst 0) 1 30 := ⟨by decide +kernel, rfl⟩
theorem i_mo_isLifted_30 : fe M_mo_isLifted 30 .ireturn 1 31 := ⟨by decide +kernel, rfl⟩
theorem i_mo_dutiesOf_0 : fe M_mo_dutiesOf 0 (.iconst 0) 1 1 := ⟨by decide +kernel, rfl⟩
theorem i_mo_dutiesOf_1 : fe M_mo_dutiesOf 1 (.istore 4) 2 3 := ⟨by decide +kernel, rfl⟩
theorem i_mo_dutiesOf_3 : fe M_mo_dutiesOf 3 (.iconst 0) 1 4 := ⟨by decide +kernel, rfl⟩
theorem i_mo_dutiesOf_4 : fe M_mo_dutiesOf 4 (.istore 5) 2 6 := ⟨by decide +kernel, rfl⟩
theorem i_mo_dutiesOf_6 : fe M_mo_dutiesOf 6 (.iload 5) 2 8 := ⟨by decide +kernel, rfl⟩
theorem i_mo_dutiesOf_8 : fe M_mo_dutiesOf 8 (.aload_n 0) 1 9 := ⟨by decide +kernel, rfl⟩
theorem i_mo_dutiesOf_9 : fe M_mo_dutiesOf 9 (.getfield 27) 3 12 := ⟨by decide +kernel, rfl⟩
theorem i_mo_dutiesOf_12 : fe M_mo_dutiesOf 12 (.iload_n 1) 1 13 := ⟨by decide +kernel, rfl⟩
theorem i_mo_dutiesOf_13 : fe M_mo_dutiesOf 13 .iaload 1 14 := ⟨by decide +kernel, rfl⟩
theorem i_mo_dutiesOf_14 : fb M_mo_dutiesOf 14 (.if_icmp .ge) 108 17 := ⟨94, by decide +kernel, by decide, rfl⟩
theorem i_mo_dutiesOf_17 : fe M_mo_dutiesOf 17 (.aload_n 0) 1 18 := ⟨by decide +kernel, rfl⟩
theorem i_mo_dutiesOf_18 : fe M_mo_dutiesOf 18 (.getfield 30) 3 21 := ⟨by decide +kernel, rfl⟩
theorem i_mo_dutiesOf_21 : fe M_mo_dutiesOf 21 (.bipush 30) 2 23 := ⟨by decide +kernel, rfl⟩
theorem i_mo_dutiesOf_23 : fe M_mo_dutiesOf 23 (.iload_n 1) 1 24 := ⟨by decide +kernel, rfl⟩
theorem i_mo_dutiesOf_24 : fe M_mo_dutiesOf 24 .imul 1 25 := ⟨by decide +kernel, rfl⟩
theorem i_mo_dutiesOf_25 : fe M_mo_dutiesOf 25 (.iload 5) 2 27 := ⟨by decide +kernel, rfl⟩
theorem i_mo_dutiesOf_27 : fe M_mo_dutiesOf 27 .iadd 1 28 := ⟨by decide +kernel, rfl⟩
theorem i_mo_dutiesOf_28 : fe M_mo_dutiesOf 28 .iaload 1 29 := ⟨by decide +kernel, rfl⟩
theorem i_mo_dutiesOf_29 : fe M_mo_dutiesOf 29 (.istore 6) 2 31 := ⟨by decide +kernel, rfl⟩
theorem i_mo_dutiesOf_31 : fe M_mo_dutiesOf 31 (.aload_n 0) 1 32 := ⟨by decide +kernel, rfl⟩
theorem i_mo_dutiesOf_32 : fe M_mo_dutiesOf 32 (.getfield 36) 3 35 := ⟨by decide +kernel, rfl⟩
theorem i_mo_dutiesOf_35 : fe M_mo_dutiesOf 35 (.bipush 20) 2 37 := ⟨by decide +kernel, rfl⟩
theorem i_mo_dutiesOf_37 : fe M_mo_dutiesOf 37 (.iload_n 1) 1 38 := ⟨by decide +kernel, rfl⟩
theorem i_mo_dutiesOf_38 : fe M_mo_dutiesOf 38 .imul 1 39 := ⟨by decide +kernel, rfl⟩
theorem i_mo_dutiesOf_39 : fe M_mo_dutiesOf 39 (.iload_n 2) 1 40 := ⟨by decide +kernel, rfl⟩
theorem i_mo_dutiesOf_40 : fe M_mo_dutiesOf 40 .iadd 1 41 := ⟨by decide +kernel, rfl⟩
theorem i_mo_dutiesOf_41 : fe M_mo_dutiesOf 41 .iaload 1 42 := ⟨by decide +kernel, rfl⟩
theorem i_mo_dutiesOf_42 : fe M_mo_dutiesOf 42 (.iload 5) 2 44 := ⟨by decide +kernel, rfl⟩
theorem i_mo_dutiesOf_44 : fe M_mo_dutiesOf 44 .ishr 1 45 := ⟨by decide +kernel, rfl⟩
theorem i_mo_dutiesOf_45 : fe M_mo_dutiesOf 45 (.iconst 1) 1 46 := ⟨by decide +kernel, rfl⟩
theorem i_mo_dutiesOf_46 : fe M_mo_dutiesOf 46 .iand 1 47 := ⟨by decide +kernel, rfl⟩
theorem i_mo_dutiesOf_47 : fb M_mo_dutiesOf 47 (.ifCond .eq) 102 50 := ⟨55, by decide +kernel, by decide, rfl⟩
theorem i_mo_dutiesOf_50 : fe M_mo_dutiesOf 50 (.aload_n 0) 1 51 := ⟨by decide +kernel, rfl⟩
theorem i_mo_dutiesOf_51 : fe M_mo_dutiesOf 51 (.iload 6) 2 53 := ⟨by decide +kernel, rfl⟩
theorem i_mo_dutiesOf_53 : fe M_mo_dutiesOf 53 (.iload_n 3) 1 54 := ⟨by decide +kernel, rfl⟩
theorem i_mo_dutiesOf_54 : fe M_mo_dutiesOf 54 (.invokevirtual 146) 3 57 := ⟨by decide +kernel, rfl⟩
theorem i_mo_dutiesOf_57 : fb M_mo_dutiesOf 57 (.ifCond .eq) 63 60 := ⟨6, by decide +kernel, by decide, rfl⟩
theorem i_mo_dutiesOf_60 : fb M_mo_dutiesOf 60 .goto 102 63 := ⟨42, by decide +kernel, by decide, rfl⟩
theorem i_mo_dutiesOf_63 : fe M_mo_dutiesOf 63 (.aload_n 0) 1 64 := ⟨by decide +kernel, rfl⟩
theorem i_mo_dutiesOf_64 : fe M_mo_dutiesOf 64 (.getfield 13) 3 67 := ⟨by decide +kernel, rfl⟩
theorem i_mo_dutiesOf_67 : fe M_mo_dutiesOf 67 (.iconst 3) 1 68 := ⟨by decide +kernel, rfl⟩
theorem i_mo_dutiesOf_68 : fe M_mo_dutiesOf 68 (.iload 6) 2 70 := ⟨by decide +kernel, rfl⟩
theorem i_mo_dutiesOf_70 : fe M_mo_dutiesOf 70 (.bipush 9) 2 72 := ⟨by decide +kernel, rfl⟩
theorem i_mo_dutiesOf_72 : fe M_mo_dutiesOf 72 .idiv 1 73 := ⟨by decide +kernel, rfl⟩
theorem i_mo_dutiesOf_73 : fe M_mo_dutiesOf 73 .imul 1 74 := ⟨by decide +kernel, rfl⟩
theorem i_mo_dutiesOf_74 : fe M_mo_dutiesOf 74 (.iload_n 3) 1 75 := ⟨by decide +kernel, rfl⟩
theorem i_mo_dutiesOf_75 : fe M_mo_dutiesOf 75 .iadd 1 76 := ⟨by decide +kernel, rfl⟩
theorem i_mo_dutiesOf_76 : fe M_mo_dutiesOf 76 .iaload 1 77 := ⟨by decide +kernel, rfl⟩
theorem i_mo_dutiesOf_77 : fe M_mo_dutiesOf 77 (.iconst 2) 1 78 := ⟨by decide +kernel, rfl⟩
theorem i_mo_dutiesOf_78 : fb M_mo_dutiesOf 78 (.if_icmp .ne) 83 81 := ⟨5, by decide +kernel, by decide, rfl⟩
theorem i_mo_dutiesOf_81 : fe M_mo_dutiesOf 81 (.iconst (-1)) 1 82 := ⟨by decide +kernel, rfl⟩
theorem i_mo_dutiesOf_82 : fe M_mo_dutiesOf 82 .ireturn 1 83 := ⟨by decide +kernel, rfl⟩
theorem i_mo_dutiesOf_83 : fe M_mo_dutiesOf 83 (.iload 4) 2 85 := ⟨by decide +kernel, rfl⟩
theorem i_mo_dutiesOf_85 : fe M_mo_dutiesOf 85 (.aload_n 0) 1 86 := ⟨by decide +kernel, rfl⟩
theorem i_mo_dutiesOf_86 : fe M_mo_dutiesOf 86 (.getfield 17) 3 89 := ⟨by decide +kernel, rfl⟩
theorem i_mo_dutiesOf_89 : fe M_mo_dutiesOf 89 (.iconst 3) 1 90 := ⟨by decide +kernel, rfl⟩
theorem i_mo_dutiesOf_90 : fe M_mo_dutiesOf 90 (.iload 6) 2 92 := ⟨by decide +kernel, rfl⟩
theorem i_mo_dutiesOf_92 : fe M_mo_dutiesOf 92 (.bipush 9) 2 94 := ⟨by decide +kernel, rfl⟩
theorem i_mo_dutiesOf_94 : fe M_mo_dutiesOf 94 .idiv 1 95 := ⟨by decide +kernel, rfl⟩
theorem i_mo_dutiesOf_95 : fe M_mo_dutiesOf 95 .imul 1 96 := ⟨by decide +kernel, rfl⟩
theorem i_mo_dutiesOf_96 : fe M_mo_dutiesOf 96 (.iload_n 3) 1 97 := ⟨by decide +kernel, rfl⟩
theorem i_mo_dutiesOf_97 : fe M_mo_dutiesOf 97 .iadd 1 98 := ⟨by decide +kernel, rfl⟩
theorem i_mo_dutiesOf_98 : fe M_mo_dutiesOf 98 .iaload 1 99 := ⟨by decide +kernel, rfl⟩
theorem i_mo_dutiesOf_99 : fe M_mo_dutiesOf 99 .ior 1 100 := ⟨by decide +kernel, rfl⟩
theorem i_mo_dutiesOf_100 : fe M_mo_dutiesOf 100 (.istore 4) 2 102 := ⟨by decide +kernel, rfl⟩
theorem i_mo_dutiesOf_102 : fe M_mo_dutiesOf 102 (.iinc 5 1) 3 105 := ⟨by decide +kernel, rfl⟩
theorem i_mo_dutiesOf_105 : fb M_mo_dutiesOf 105 .goto 6 108 := ⟨-99, by decide +kernel, by decide, rfl⟩
theorem i_mo_dutiesOf_108 : fe M_mo_dutiesOf 108 (.iload 4) 2 110 := ⟨by decide +kernel, rfl⟩
theorem i_mo_dutiesOf_110 : fe M_mo_dutiesOf 110 .ireturn 1 111 := ⟨by decide +kernel, rfl⟩
theorem i_mo_bestOf_0 : fe M_mo_bestOf 0 (.iconst (-1)) 1 1 := ⟨by decide +kernel, rfl⟩
theorem i_mo_bestOf_1 : fe M_mo_bestOf 1 (.istore_n 3) 1 2 := ⟨by decide +kernel, rfl⟩
theorem i_mo_bestOf_2 : fe M_mo_bestOf 2 (.iconst 0) 1 3 := ⟨by decide +kernel, rfl⟩
theorem i_mo_bestOf_3 : fe M_mo_bestOf 3 (.istore 4) 2 5 := ⟨by decide +kernel, rfl⟩
theorem i_mo_bestOf_5 : fe M_mo_bestOf 5 (.iconst 0) 1 6 := ⟨by decide +kernel, rfl⟩
theorem i_mo_bestOf_6 : fe M_mo_bestOf 6 (.istore 5) 2 8 := ⟨by decide +kernel, rfl⟩
theorem i_mo_bestOf_8 : fe M_mo_bestOf 8 (.iload 5) 2 10 := ⟨by decide +kernel, rfl⟩
theorem i_mo_bestOf_10 : fe M_mo_bestOf 10 (.aload_n 0) 1 11 := ⟨by decide +kernel, rfl⟩
theorem i_mo_bestOf_11 : fe M_mo_bestOf 11 (.getfield 33) 3 14 := ⟨by decide +kernel, rfl⟩
theorem i_mo_bestOf_14 : fe M_mo_bestOf 14 (.iload_n 1) 1 15 := ⟨by decide +kernel, rfl⟩
theorem i_mo_bestOf_15 : fe M_mo_bestOf 15 .iaload 1 16 := ⟨by decide +kernel, rfl⟩
theorem i_mo_bestOf_16 : fb M_mo_bestOf 16 (.if_icmp .ge) 89 19 := ⟨73, by decide +kernel, by decide, rfl⟩
theorem i_mo_bestOf_19 : fe M_mo_bestOf 19 (.aload_n 0) 1 20 := ⟨by decide +kernel, rfl⟩
theorem i_mo_bestOf_20 : fe M_mo_bestOf 20 (.iload_n 1) 1 21 := ⟨by decide +kernel, rfl⟩
theorem i_mo_bestOf_21 : fe M_mo_bestOf 21 (.iload 5) 2 23 := ⟨by decide +kernel, rfl⟩
theorem i_mo_bestOf_23 : fe M_mo_bestOf 23 (.iload_n 2) 1 24 := ⟨by decide +kernel, rfl⟩
theorem i_mo_bestOf_24 : fe M_mo_bestOf 24 (.invokevirtual 150) 3 27 := ⟨by decide +kernel, rfl⟩
theorem i_mo_bestOf_27 : fe M_mo_bestOf 27 (.istore 6) 2 29 := ⟨by decide +kernel, rfl⟩
theorem i_mo_bestOf_29 : fe M_mo_bestOf 29 (.bipush 100) 2 31 := ⟨by decide +kernel, rfl⟩
theorem i_mo_bestOf_31 : fe M_mo_bestOf 31 (.iload 6) 2 33 := ⟨by decide +kernel, rfl⟩
theorem i_mo_bestOf_33 : fe M_mo_bestOf 33 (.invokestatic 154) 3 36 := ⟨by decide +kernel, rfl⟩
theorem i_mo_bestOf_36 : fe M_mo_bestOf 36 .imul 1 37 := ⟨by decide +kernel, rfl⟩
theorem i_mo_bestOf_37 : fe M_mo_bestOf 37 (.aload_n 0) 1 38 := ⟨by decide +kernel, rfl⟩
theorem i_mo_bestOf_38 : fe M_mo_bestOf 38 (.getfield 36) 3 41 := ⟨by decide +kernel, rfl⟩
theorem i_mo_bestOf_41 : fe M_mo_bestOf 41 (.bipush 20) 2 43 := ⟨by decide +kernel, rfl⟩
theorem i_mo_bestOf_43 : fe M_mo_bestOf 43 (.iload_n 1) 1 44 := ⟨by decide +kernel, rfl⟩
theorem i_mo_bestOf_44 : fe M_mo_bestOf 44 .imul 1 45 := ⟨by decide +kernel, rfl⟩
theorem i_mo_bestOf_45 : fe M_mo_bestOf 45 (.iload 5) 2 47 := ⟨by decide +kernel, rfl⟩
theorem i_mo_bestOf_47 : fe M_mo_bestOf 47 .iadd 1 48 := ⟨by decide +kernel, rfl⟩
theorem i_mo_bestOf_48 : fe M_mo_bestOf 48 .iaload 1 49 := ⟨by decide +kernel, rfl⟩
theorem i_mo_bestOf_49 : fe M_mo_bestOf 49 (.invokestatic 154) 3 52 := ⟨by decide +kernel, rfl⟩
theorem i_mo_bestOf_52 : fe M_mo_bestOf 52 .iadd 1 53 := ⟨by decide +kernel, rfl⟩
theorem i_mo_bestOf_53 : fe M_mo_bestOf 53 (.istore 7) 2 55 := ⟨by decide +kernel, rfl⟩
theorem i_mo_bestOf_55 : fe M_mo_bestOf 55 (.iload 6) 2 57 := ⟨by decide +kernel, rfl⟩
theorem i_mo_bestOf_57 : fe M_mo_bestOf 57 (.iconst (-1)) 1 58 := ⟨by decide +kernel, rfl⟩
theorem i_mo_bestOf_58 : fb M_mo_bestOf 58 (.if_icmp .eq) 83 61 := ⟨25, by decide +kernel, by decide, rfl⟩
theorem i_mo_bestOf_61 : fe M_mo_bestOf 61 (.iload_n 3) 1 62 := ⟨by decide +kernel, rfl⟩
theorem i_mo_bestOf_62 : fe M_mo_bestOf 62 (.iconst (-1)) 1 63 := ⟨by decide +kernel, rfl⟩
theorem i_mo_bestOf_63 : fb M_mo_bestOf 63 (.if_icmp .eq) 76 66 := ⟨13, by decide +kernel, by decide, rfl⟩
theorem i_mo_bestOf_66 : fe M_mo_bestOf 66 (.iload 7) 2 68 := ⟨by decide +kernel, rfl⟩
theorem i_mo_bestOf_68 : fe M_mo_bestOf 68 (.iload 4) 2 70 := ⟨by decide +kernel, rfl⟩
theorem i_mo_bestOf_70 : fb M_mo_bestOf 70 (.if_icmp .lt) 76 73 := ⟨6, by decide +kernel, by decide, rfl⟩
theorem i_mo_bestOf_73 : fb M_mo_bestOf 73 .goto 83 76 := ⟨10, by decide +kernel, by decide, rfl⟩
theorem i_mo_bestOf_76 : fe M_mo_bestOf 76 (.iload 5) 2 78 := ⟨by decide +kernel, rfl⟩
theorem i_mo_bestOf_78 : fe M_mo_bestOf 78 (.istore_n 3) 1 79 := ⟨by decide +kernel, rfl⟩
theorem i_mo_bestOf_79 : fe M_mo_bestOf 79 (.iload 7) 2 81 := ⟨by decide +kernel, rfl⟩
theorem i_mo_bestOf_81 : fe M_mo_bestOf 81 (.istore 4) 2 83 := ⟨by decide +kernel, rfl⟩
theorem i_mo_bestOf_83 : fe M_mo_bestOf 83 (.iinc 5 1) 3 86 := ⟨by decide +kernel, rfl⟩
theorem i_mo_bestOf_86 : fb M_mo_bestOf 86 .goto 8 89 := ⟨-78, by decide +kernel, by decide, rfl⟩
theorem i_mo_bestOf_89 : fe M_mo_bestOf 89 (.iload_n 3) 1 90 := ⟨by decide +kernel, rfl⟩
theorem i_mo_bestOf_90 : fe M_mo_bestOf 90 .ireturn 1 91 := ⟨by decide +kernel, rfl⟩
theorem i_mo_best_0 : fe M_mo_best 0 (.aload_n 0) 1 1 := ⟨by decide +kernel, rfl⟩
theorem i_mo_best_1 : fe M_mo_best 1 (.iconst 0) 1 2 := ⟨by decide +kernel, rfl⟩
theorem i_mo_best_2 : fe M_mo_best 2 (.putfield 81) 3 5 := ⟨by decide +kernel, rfl⟩
theorem i_mo_best_5 : fe M_mo_best 5 (.aload_n 0) 1 6 := ⟨by decide +kernel, rfl⟩
theorem i_mo_best_6 : fe M_mo_best 6 (.iload_n 1) 1 7 := ⟨by decide +kernel, rfl⟩
theorem i_mo_best_7 : fe M_mo_best 7 (.invokevirtual 143) 3 10 := ⟨by decide +kernel, rfl⟩
theorem i_mo_best_10 : fb M_mo_best 10 (.ifCond .eq) 29 13 := ⟨19, by decide +kernel, by decide, rfl⟩
theorem i_mo_best_13 : fe M_mo_best 13 (.iload_n 2) 1 14 := ⟨by decide +kernel, rfl⟩
theorem i_mo_best_14 : fe M_mo_best 14 (.invokestatic 95) 3 17 := ⟨by decide +kernel, rfl⟩
theorem i_mo_best_17 : fb M_mo_best 17 (.ifCond .eq) 29 20 := ⟨12, by decide +kernel, by decide, rfl⟩
theorem i_mo_best_20 : fe M_mo_best 20 (.aload_n 0) 1 21 := ⟨by decide +kernel, rfl⟩
theorem i_mo_best_21 : fe M_mo_best 21 (.iload_n 1) 1 22 := ⟨by decide +kernel, rfl⟩
theorem i_mo_best_22 : fe M_mo_best 22 (.iload_n 2) 1 23 := ⟨by decide +kernel, rfl⟩
theorem i_mo_best_23 : fe M_mo_best 23 (.invokevirtual 157) 3 26 := ⟨by decide +kernel, rfl⟩
theorem i_mo_best_26 : fb M_mo_best 26 .goto 30 29 := ⟨4, by decide +kernel, by decide, rfl⟩
theorem i_mo_best_29 : fe M_mo_best 29 (.iconst (-1)) 1 30 := ⟨by decide +kernel, rfl⟩
theorem i_mo_best_30 : fe M_mo_best 30 .ireturn 1 31 := ⟨by decide +kernel, rfl⟩
theorem i_mo_bestDuties_0 : fe M_mo_bestDuties 0 (.aload_n 0) 1 1 := ⟨by decide +kernel, rfl⟩
theorem i_mo_bestDuties_1 : fe M_mo_bestDuties 1 (.iload_n 1) 1 2 := ⟨by decide +kernel, rfl⟩
theorem i_mo_bestDuties_2 : fe M_mo_bestDuties 2 (.iload_n 2) 1 3 := ⟨by decide +kernel, rfl⟩
theorem i_mo_bestDuties_3 : fe M_mo_bestDuties 3 (.invokevirtual 157) 3 6 := ⟨by decide +kernel, rfl⟩
theorem i_mo_bestDuties_6 : fe M_mo_bestDuties 6 (.iconst (-1)) 1 7 := ⟨by decide +kernel, rfl⟩
theorem i_mo_bestDuties_7 : fb M_mo_bestDuties 7 (.if_icmp .ne) 14 10 := ⟨7, by decide +kernel, by decide, rfl⟩
theorem i_mo_bestDuties_10 : fe M_mo_bestDuties 10 (.iconst 0) 1 11 := ⟨by decide +kernel, rfl⟩
theorem i_mo_bestDuties_11 : fb M_mo_bestDuties 11 .goto 26 14 := ⟨15, by decide +kernel, by decide, rfl⟩
theorem i_mo_bestDuties_14 : fe M_mo_bestDuties 14 (.aload_n 0) 1 15 := ⟨by decide +kernel, rfl⟩
theorem i_mo_bestDuties_15 : fe M_mo_bestDuties 15 (.iload_n 1) 1 16 := ⟨by decide +kernel, rfl⟩
theorem i_mo_bestDuties_16 : fe M_mo_bestDuties 16 (.aload_n 0) 1 17 := ⟨by decide +kernel, rfl⟩
theorem i_mo_bestDuties_17 : fe M_mo_bestDuties 17 (.iload_n 1) 1 18 := ⟨by decide +kernel, rfl⟩
theorem i_mo_bestDuties_18 : fe M_mo_bestDuties 18 (.iload_n 2) 1 19 := ⟨by decide +kernel, rfl⟩
theorem i_mo_bestDuties_19 : fe M_mo_bestDuties 19 (.invokevirtual 157) 3 22 := ⟨by decide +kernel, rfl⟩
theorem i_mo_bestDuties_22 : fe M_mo_bestDuties 22 (.iload_n 2) 1 23 := ⟨by decide +kernel, rfl⟩
theorem i_mo_bestDuties_23 : fe M_mo_bestDuties 23 (.invokevirtual 150) 3 26 := ⟨by decide +kernel, rfl⟩
theorem i_mo_bestDuties_26 : fe M_mo_bestDuties 26 .ireturn 1 27 := ⟨by decide +kernel, rfl⟩
theorem i_mo_duties_0 : fe M_mo_duties 0 (.aload_n 0) 1 1 := ⟨by decide +kernel, rfl⟩
theorem i_mo_duties_1 : fe M_mo_duties 1 (.iconst 0) 1 2 := ⟨by decide +kernel, rfl⟩
theorem i_mo_duties_2 : fe M_mo_duties 2 (.putfield 81) 3 5 := ⟨by decide +kernel, rfl⟩
theorem i_mo_duties_5 : fe M_mo_duties 5 (.aload_n 0) 1 6 := ⟨by decide +kernel, rfl⟩
theorem i_mo_duties_6 : fe M_mo_duties 6 (.iload_n 1) 1 7 := ⟨by decide +kernel, rfl⟩
theorem i_mo_duties_7 : fe M_mo_duties 7 (.invokevirtual 143) 3 10 := ⟨by decide +kernel, rfl⟩
theorem i_mo_duties_10 : fb M_mo_duties 10 (.ifCond .eq) 29 13 := ⟨19, by decide +kernel, by decide, rfl⟩
theorem i_mo_duties_13 : fe M_mo_duties 13 (.iload_n 2) 1 14 := ⟨by decide +kernel, rfl⟩
theorem i_mo_duties_14 : fe M_mo_duties 14 (.invokestatic 95) 3 17 := ⟨by decide +kernel, rfl⟩
theorem i_mo_duties_17 : fb M_mo_duties 17 (.ifCond .eq) 29 20 := ⟨12, by decide +kernel, by decide, rfl⟩
theorem i_mo_duties_20 : fe M_mo_duties 20 (.aload_n 0) 1 21 := ⟨by decide +kernel, rfl⟩
theorem i_mo_duties_21 : fe M_mo_duties 21 (.iload_n 1) 1 22 := ⟨by decide +kernel, rfl⟩
theorem i_mo_duties_22 : fe M_mo_duties 22 (.iload_n 2) 1 23 := ⟨by decide +kernel, rfl⟩
theorem i_mo_duties_23 : fe M_mo_duties 23 (.invokevirtual 161) 3 26 := ⟨by decide +kernel, rfl⟩
theorem i_mo_duties_26 : fb M_mo_duties 26 .goto 30 29 := ⟨4, by decide +kernel, by decide, rfl⟩
theorem i_mo_duties_29 : fe M_mo_duties 29 (.iconst 0) 1 30 := ⟨by decide +kernel, rfl⟩
theorem i_mo_duties_30 : fe M_mo_duties 30 .ireturn 1 31 := ⟨by decide +kernel, rfl⟩
theorem i_mo_uses_0 : fe M_mo_uses 0 (.aload_n 0) 1 1 := ⟨by decide +kernel, rfl⟩
theorem i_mo_uses_1 : fe M_mo_uses 1 (.iconst 0) 1 2 := ⟨by decide +kernel, rfl⟩
theorem i_mo_uses_2 : fe M_mo_uses 2 (.putfield 81) 3 5 := ⟨by decide +kernel, rfl⟩
theorem i_mo_uses_5 : fe M_mo_uses 5 (.aload_n 0) 1 6 := ⟨by decide +kernel, rfl⟩
theorem i_mo_uses_6 : fe M_mo_uses 6 (.iload_n 1) 1 7 := ⟨by decide +kernel, rfl⟩
theorem i_mo_uses_7 : fe M_mo_uses 7 (.invokevirtual 143) 3 10 := ⟨by decide +kernel, rfl⟩
theorem i_mo_uses_10 : fb M_mo_uses 10 (.ifCond .eq) 39 13 := ⟨29, by decide +kernel, by decide, rfl⟩
theorem i_mo_uses_13 : fe M_mo_uses 13 (.aload_n 0) 1 14 := ⟨by decide +kernel, rfl⟩
theorem i_mo_uses_14 : fe M_mo_uses 14 (.iload_n 2) 1 15 := ⟨by decide +kernel, rfl⟩
theorem i_mo_uses_15 : fe M_mo_uses 15 (.invokevirtual 143) 3 18 := ⟨by decide +kernel, rfl⟩
theorem i_mo_uses_18 : fb M_mo_uses 18 (.ifCond .eq) 39 21 := ⟨21, by decide +kernel, by decide, rfl⟩
theorem i_mo_uses_21 : fe M_mo_uses 21 (.iload_n 3) 1 22 := ⟨by decide +kernel, rfl⟩
theorem i_mo_uses_22 : fe M_mo_uses 22 (.invokestatic 95) 3 25 := ⟨by decide +kernel, rfl⟩
theorem i_mo_uses_25 : fb M_mo_uses 25 (.ifCond .eq) 39 28 := ⟨14, by decide +kernel, by decide, rfl⟩
theorem i_mo_uses_28 : fe M_mo_uses 28 (.aload_n 0) 1 29 := ⟨by decide +kernel, rfl⟩
theorem i_mo_uses_29 : fe M_mo_uses 29 (.getfield 39) 3 32 := ⟨by decide +kernel, rfl⟩
theorem i_mo_uses_32 : fe M_mo_uses 32 (.iload_n 1) 1 33 := ⟨by decide +kernel, rfl⟩
theorem i_mo_uses_33 : fe M_mo_uses 33 .iaload 1 34 := ⟨by decide +kernel, rfl⟩
theorem i_mo_uses_34 : fe M_mo_uses 34 (.bipush 6) 2 36 := ⟨by decide +kernel, rfl⟩
theorem i_mo_uses_36 : fb M_mo_uses 36 (.if_icmp .ne) 41 39 := ⟨5, by decide +kernel, by decide, rfl⟩
theorem i_mo_uses_39 : fe M_mo_uses 39 (.iconst 0) 1 40 := ⟨by decide +kernel, rfl⟩
theorem i_mo_uses_40 : fe M_mo_uses 40 .ireturn 1 41 := ⟨by decide +kernel, rfl⟩
theorem i_mo_uses_41 : fe M_mo_uses 41 (.iconst 0) 1 42 := ⟨by decide +kernel, rfl⟩
theorem i_mo_uses_42 : fe M_mo_uses 42 (.istore 4) 2 44 := ⟨by decide +kernel, rfl⟩
theorem i_mo_uses_44 : fe M_mo_uses 44 (.iload 4) 2 46 := ⟨by decide +kernel, rfl⟩
theorem i_mo_uses_46 : fe M_mo_uses 46 (.aload_n 0) 1 47 := ⟨by decide +kernel, rfl⟩
theorem i_mo_uses_47 : fe M_mo_uses 47 (.getfield 39) 3 50 := ⟨by decide +kernel, rfl⟩
theorem i_mo_uses_50 : fe M_mo_uses 50 (.iload_n 1) 1 51 := ⟨by decide +kernel, rfl⟩
theorem i_mo_uses_51 : fe M_mo_uses 51 .iaload 1 52 := ⟨by decide +kernel, rfl⟩
theorem i_mo_uses_52 : fb M_mo_uses 52 (.if_icmp .ge) 95 55 := ⟨43, by decide +kernel, by decide, rfl⟩
theorem i_mo_uses_55 : fe M_mo_uses 55 (.aload_n 0) 1 56 := ⟨by decide +kernel, rfl⟩
theorem i_mo_uses_56 : fe M_mo_uses 56 (.getfield 42) 3 59 := ⟨by decide +kernel, rfl⟩
theorem i_mo_uses_59 : fe M_mo_uses 59 (.bipush 6) 2 61 := ⟨by decide +kernel, rfl⟩
theorem i_mo_uses_61 : fe M_mo_uses 61 (.iload_n 1) 1 62 := ⟨by decide +kernel, rfl⟩
theorem i_mo_uses_62 : fe M_mo_uses 62 .imul 1 63 := ⟨by decide +kernel, rfl⟩
theorem i_mo_uses_63 : fe M_mo_uses 63 (.iload 4) 2 65 := ⟨by decide +kernel, rfl⟩
theorem i_mo_uses_65 : fe M_mo_uses 65 .iadd 1 66 := ⟨by decide +kernel, rfl⟩
theorem i_mo_uses_66 : fe M_mo_uses 66 .iaload 1 67 := ⟨by decide +kernel, rfl⟩
theorem i_mo_uses_67 : fe M_mo_uses 67 (.iload_n 2) 1 68 := ⟨by decide +kernel, rfl⟩
theorem i_mo_uses_68 : fb M_mo_uses 68 (.if_icmp .ne) 89 71 := ⟨21, by decide +kernel, by decide, rfl⟩
theorem i_mo_uses_71 : fe M_mo_uses 71 (.aload_n 0) 1 72 := ⟨by decide +kernel, rfl⟩
theorem i_mo_uses_72 : fe M_mo_uses 72 (.getfield 45) 3 75 := ⟨by decide +kernel, rfl⟩
theorem i_mo_uses_75 : fe M_mo_uses 75 (.bipush 6) 2 77 := ⟨by decide +kernel, rfl⟩
theorem i_mo_uses_77 : fe M_mo_uses 77 (.iload_n 1) 1 78 := ⟨by decide +kernel, rfl⟩
theorem i_mo_uses_78 : fe M_mo_uses 78 .imul 1 79 := ⟨by decide +kernel, rfl⟩
theorem i_mo_uses_79 : fe M_mo_uses 79 (.iload 4) 2 81 := ⟨by decide +kernel, rfl⟩
theorem i_mo_uses_81 : fe M_mo_uses 81 .iadd 1 82 := ⟨by decide +kernel, rfl⟩
theorem i_mo_uses_82 : fe M_mo_uses 82 .iaload 1 83 := ⟨by decide +kernel, rfl⟩
theorem i_mo_uses_83 : fe M_mo_uses 83 (.iload_n 3) 1 84 := ⟨by decide +kernel, rfl⟩
theorem i_mo_uses_84 : fb M_mo_uses 84 (.if_icmp .ne) 89 87 := ⟨5, by decide +kernel, by decide, rfl⟩
theorem i_mo_uses_87 : fe M_mo_uses 87 (.iconst 0) 1 88 := ⟨by decide +kernel, rfl⟩
theorem i_mo_uses_88 : fe M_mo_uses 88 .ireturn 1 89 := ⟨by decide +kernel, rfl⟩
theorem i_mo_uses_89 : fe M_mo_uses 89 (.iinc 4 1) 3 92 := ⟨by decide +kernel, rfl⟩
theorem i_mo_uses_92 : fb M_mo_uses 92 .goto 44 95 := ⟨-48, by decide +kernel, by decide, rfl⟩
theorem i_mo_uses_95 : fe M_mo_uses 95 (.aload_n 0) 1 96 := ⟨by decide +kernel, rfl⟩
theorem i_mo_uses_96 : fe M_mo_uses 96 (.getfield 42) 3 99 := ⟨by decide +kernel, rfl⟩
theorem i_mo_uses_99 : fe M_mo_uses 99 (.bipush 6) 2 101 := ⟨by decide +kernel, rfl⟩
theorem i_mo_uses_101 : fe M_mo_uses 101 (.iload_n 1) 1 102 := ⟨by decide +kernel, rfl⟩
theorem i_mo_uses_102 : fe M_mo_uses 102 .imul 1 103 := ⟨by decide +kernel, rfl⟩
theorem i_mo_uses_103 : fe M_mo_uses 103 (.aload_n 0) 1 104 := ⟨by decide +kernel, rfl⟩
theorem i_mo_uses_104 : fe M_mo_uses 104 (.getfield 39) 3 107 := ⟨by decide +kernel, rfl⟩
theorem i_mo_uses_107 : fe M_mo_uses 107 (.iload_n 1) 1 108 := ⟨by decide +kernel, rfl⟩
theorem i_mo_uses_108 : fe M_mo_uses 108 .iaload 1 109 := ⟨by decide +kernel, rfl⟩
theorem i_mo_uses_109 : fe M_mo_uses 109 .iadd 1 110 := ⟨by decide +kernel, rfl⟩
theorem i_mo_uses_110 : fe M_mo_uses 110 (.iload_n 2) 1 111 := ⟨by decide +kernel, rfl⟩
theorem i_mo_uses_111 : fe M_mo_uses 111 .iastore 1 112 := ⟨by decide +kernel, rfl⟩
theorem i_mo_uses_112 : fe M_mo_uses 112 (.aload_n 0) 1 113 := ⟨by decide +kernel, rfl⟩
theorem i_mo_uses_113 : fe M_mo_uses 113 (.getfield 45) 3 116 := ⟨by decide +kernel, rfl⟩
theorem i_mo_uses_116 : fe M_mo_uses 116 (.bipush 6) 2 118 := ⟨by decide +kernel, rfl⟩
theorem i_mo_uses_118 : fe M_mo_uses 118 (.iload_n 1) 1 119 := ⟨by decide +kernel, rfl⟩
theorem i_mo_uses_119 : fe M_mo_uses 119 .imul 1 120 := ⟨by decide +kernel, rfl⟩
theorem i_mo_uses_120 : fe M_mo_uses 120 (.aload_n 0) 1 121 := ⟨by decide +kernel, rfl⟩
theorem i_mo_uses_121 : fe M_mo_uses 121 (.getfield 39) 3 124 := ⟨by decide +kernel, rfl⟩
theorem i_mo_uses_124 : fe M_mo_uses 124 (.iload_n 1) 1 125 := ⟨by decide +kernel, rfl⟩
theorem i_mo_uses_125 : fe M_mo_uses 125 .iaload 1 126 := ⟨by decide +kernel, rfl⟩
theorem i_mo_uses_126 : fe M_mo_uses 126 .iadd 1 127 := ⟨by decide +kernel, rfl⟩
theorem i_mo_uses_127 : fe M_mo_uses 127 (.iload_n 3) 1 128 := ⟨by decide +kernel, rfl⟩
theorem i_mo_uses_128 : fe M_mo_uses 128 .iastore 1 129 := ⟨by decide +kernel, rfl⟩
theorem i_mo_uses_129 : fe M_mo_uses 129 (.aload_n 0) 1 130 := ⟨by decide +kernel, rfl⟩
theorem i_mo_uses_130 : fe M_mo_uses 130 (.getfield 39) 3 133 := ⟨by decide +kernel, rfl⟩
theorem i_mo_uses_133 : fe M_mo_uses 133 (.iload_n 1) 1 134 := ⟨by decide +kernel, rfl⟩
theorem i_mo_uses_134 : fe M_mo_uses 134 .dup2 1 135 := ⟨by decide +kernel, rfl⟩
theorem i_mo_uses_135 : fe M_mo_uses 135 .iaload 1 136 := ⟨by decide +kernel, rfl⟩
theorem i_mo_uses_136 : fe M_mo_uses 136 (.iconst 1) 1 137 := ⟨by decide +kernel, rfl⟩
theorem i_mo_uses_137 : fe M_mo_uses 137 .iadd 1 138 := ⟨by decide +kernel, rfl⟩
theorem i_mo_uses_138 : fe M_mo_uses 138 .iastore 1 139 := ⟨by decide +kernel, rfl⟩
theorem i_mo_uses_139 : fe M_mo_uses 139 (.iconst 1) 1 140 := ⟨by decide +kernel, rfl⟩
theorem i_mo_uses_140 : fe M_mo_uses 140 .ireturn 1 141 := ⟨by decide +kernel, rfl⟩
theorem i_mo_grant_0 : fe M_mo_grant 0 (.aload_n 0) 1 1 := ⟨by decide +kernel, rfl⟩
theorem i_mo_grant_1 : fe M_mo_grant 1 (.iconst 0) 1 2 := ⟨by decide +kernel, rfl⟩
theorem i_mo_grant_2 : fe M_mo_grant 2 (.putfield 81) 3 5 := ⟨by decide +kernel, rfl⟩
theorem i_mo_grant_5 : fe M_mo_grant 5 (.aload_n 0) 1 6 := ⟨by decide +kernel, rfl⟩
theorem i_mo_grant_6 : fe M_mo_grant 6 (.iload_n 1) 1 7 := ⟨by decide +kernel, rfl⟩
theorem i_mo_grant_7 : fe M_mo_grant 7 (.invokevirtual 143) 3 10 := ⟨by decide +kernel, rfl⟩
theorem i_mo_grant_10 : fb M_mo_grant 10 (.ifCond .eq) 17 13 := ⟨7, by decide +kernel, by decide, rfl⟩
theorem i_mo_grant_13 : fe M_mo_grant 13 (.iload_n 2) 1 14 := ⟨by decide +kernel, rfl⟩
theorem i_mo_grant_14 : fb M_mo_grant 14 (.ifCond .ge) 19 17 := ⟨5, by decide +kernel, by decide, rfl⟩
theorem i_mo_grant_17 : fe M_mo_grant 17 (.iconst 0) 1 18 := ⟨by decide +kernel, rfl⟩
theorem i_mo_grant_18 : fe M_mo_grant 18 .ireturn 1 19 := ⟨by decide +kernel, rfl⟩
theorem i_mo_grant_19 : fe M_mo_grant 19 (.aload_n 0) 1 20 := ⟨by decide +kernel, rfl⟩
theorem i_mo_grant_20 : fe M_mo_grant 20 (.getfield 48) 3 23 := ⟨by decide +kernel, rfl⟩
theorem i_mo_grant_23 : fe M_mo_grant 23 (.iload_n 1) 1 24 := ⟨by decide +kernel, rfl⟩
theorem i_mo_grant_24 : fe M_mo_grant 24 (.iload_n 2) 1 25 := ⟨by decide +kernel, rfl⟩
theorem i_mo_grant_25 : fe M_mo_grant 25 .iastore 1 26 := ⟨by decide +kernel, rfl⟩
theorem i_mo_grant_26 : fe M_mo_grant 26 (.iconst 1) 1 27 := ⟨by decide +kernel, rfl⟩
theorem i_mo_grant_27 : fe M_mo_grant 27 .ireturn 1 28 := ⟨by decide +kernel, rfl⟩
theorem i_mo_tick_0 : fe M_mo_tick 0 (.aload_n 0) 1 1 := ⟨by decide +kernel, rfl⟩
theorem i_mo_tick_1 : fe M_mo_tick 1 (.iconst 0) 1 2 := ⟨by decide +kernel, rfl⟩
theorem i_mo_tick_2 : fe M_mo_tick 2 (.putfield 81) 3 5 := ⟨by decide +kernel, rfl⟩
theorem i_mo_tick_5 : fe M_mo_tick 5 (.iload_n 1) 1 6 := ⟨by decide +kernel, rfl⟩
theorem i_mo_tick_6 : fb M_mo_tick 6 (.ifCond .lt) 26 9 := ⟨20, by decide +kernel, by decide, rfl⟩
theorem i_mo_tick_9 : fe M_mo_tick 9 (.iload_n 1) 1 10 := ⟨by decide +kernel, rfl⟩
theorem i_mo_tick_10 : fe M_mo_tick 10 (.ldc 164) 2 12 := ⟨by decide +kernel, rfl⟩
theorem i_mo_tick_12 : fb M_mo_tick 12 (.if_icmp .gt) 26 15 := ⟨14, by decide +kernel, by decide, rfl⟩
theorem i_mo_tick_15 : fe M_mo_tick 15 (.aload_n 0) 1 16 := ⟨by decide +kernel, rfl⟩
theorem i_mo_tick_16 : fe M_mo_tick 16 (.getfield 165) 3 19 := ⟨by decide +kernel, rfl⟩
theorem i_mo_tick_19 : fe M_mo_tick 19 (.iload_n 1) 1 20 := ⟨by decide +kernel, rfl⟩
theorem i_mo_tick_20 : fe M_mo_tick 20 .iadd 1 21 := ⟨by decide +kernel, rfl⟩
theorem i_mo_tick_21 : fe M_mo_tick 21 (.ldc 168) 2 23 := ⟨by decide +kernel, rfl⟩
theorem i_mo_tick_23 : fb M_mo_tick 23 (.if_icmp .le) 28 26 := ⟨5, by decide +kernel, by decide, rfl⟩
theorem i_mo_tick_26 : fe M_mo_tick 26 (.iconst (-1)) 1 27 := ⟨by decide +kernel, rfl⟩
theorem i_mo_tick_27 : fe M_mo_tick 27 .ireturn 1 28 := ⟨by decide +kernel, rfl⟩
theorem i_mo_tick_28 : fe M_mo_tick 28 (.aload_n 0) 1 29 := ⟨by decide +kernel, rfl⟩
theorem i_mo_tick_29 : fe M_mo_tick 29 .dup 1 30 := ⟨by decide +kernel, rfl⟩
theorem i_mo_tick_30 : fe M_mo_tick 30 (.getfield 165) 3 33 := ⟨by decide +kernel, rfl⟩
theorem i_mo_tick_33 : fe M_mo_tick 33 (.iload_n 1) 1 34 := ⟨by decide +kernel, rfl⟩
theorem i_mo_tick_34 : fe M_mo_tick 34 .iadd 1 35 := ⟨by decide +kernel, rfl⟩
theorem i_mo_tick_35 : fe M_mo_tick 35 (.putfield 165) 3 38 := ⟨by decide +kernel, rfl⟩
theorem i_mo_tick_38 : fe M_mo_tick 38 (.aload_n 0) 1 39 := ⟨by decide +kernel, rfl⟩
theorem i_mo_tick_39 : fe M_mo_tick 39 (.getfield 165) 3 42 := ⟨by decide +kernel, rfl⟩
theorem i_mo_tick_42 : fe M_mo_tick 42 .ireturn 1 43 := ⟨by decide +kernel, rfl⟩
theorem i_mo_come_0 : fe M_mo_come 0 (.iconst 0) 1 1 := ⟨by decide +kernel, rfl⟩
theorem i_mo_come_1 : fe M_mo_come 1 (.istore 4) 2 3 := ⟨by decide +kernel, rfl⟩
theorem i_mo_come_3 : fe M_mo_come 3 (.iload 4) 2 5 := ⟨by decide +kernel, rfl⟩
theorem i_mo_come_5 : fe M_mo_come 5 (.aload_n 0) 1 6 := ⟨by decide +kernel, rfl⟩
theorem i_mo_come_6 : fe M_mo_come 6 (.getfield 169) 3 9 := ⟨by decide +kernel, rfl⟩
theorem i_mo_come_9 : fb M_mo_come 9 (.if_icmp .ge) 41 12 := ⟨32, by decide +kernel, by decide, rfl⟩
theorem i_mo_come_12 : fe M_mo_come 12 (.aload_n 0) 1 13 := ⟨by decide +kernel, rfl⟩
theorem i_mo_come_13 : fe M_mo_come 13 (.getfield 66) 3 16 := ⟨by decide +kernel, rfl⟩
theorem i_mo_come_16 : fe M_mo_come 16 (.iload 4) 2 18 := ⟨by decide +kernel, rfl⟩
theorem i_mo_come_18 : fe M_mo_come 18 .iaload 1 19 := ⟨by decide +kernel, rfl⟩
theorem i_mo_come_19 : fe M_mo_come 19 (.iload_n 1) 1 20 := ⟨by decide +kernel, rfl⟩
theorem i_mo_come_20 : fb M_mo_come 20 (.if_icmp .ne) 35 23 := ⟨15, by decide +kernel, by decide, rfl⟩
theorem i_mo_come_23 : fe M_mo_come 23 (.aload_n 0) 1 24 := ⟨by decide +kernel, rfl⟩
theorem i_mo_come_24 : fe M_mo_come 24 (.getfield 69) 3 27 := ⟨by decide +kernel, rfl⟩
theorem i_mo_come_27 : fe M_mo_come 27 (.iload 4) 2 29 := ⟨by decide +kernel, rfl⟩
theorem i_mo_come_29 : fe M_mo_come 29 .iaload 1 30 := ⟨by decide +kernel, rfl⟩
theorem i_mo_come_30 : fe M_mo_come 30 (.iload_n 2) 1 31 := ⟨by decide +kernel, rfl⟩
theorem i_mo_come_31 : fb M_mo_come 31 (.if_icmp .ne) 35 34 := ⟨4, by decide +kernel, by decide, rfl⟩
theorem i_mo_come_34 : fe M_mo_come 34 .return_ 1 35 := ⟨by decide +kernel, rfl⟩
theorem i_mo_come_35 : fe M_mo_come 35 (.iinc 4 1) 3 38 := ⟨by decide +kernel, rfl⟩
theorem i_mo_come_38 : fb M_mo_come 38 .goto 3 41 := ⟨-35, by decide +kernel, by decide, rfl⟩
theorem i_mo_come_41 : fe M_mo_come 41 (.aload_n 0) 1 42 := ⟨by decide +kernel, rfl⟩
theorem i_mo_come_42 : fe M_mo_come 42 (.getfield 66) 3 45 := ⟨by decide +kernel, rfl⟩
theorem i_mo_come_45 : fe M_mo_come 45 (.aload_n 0) 1 46 := ⟨by decide +kernel, rfl⟩
theorem i_mo_come_46 : fe M_mo_come 46 (.getfield 169) 3 49 := ⟨by decide +kernel, rfl⟩
theorem i_mo_come_49 : fe M_mo_come 49 (.iload_n 1) 1 50 := ⟨by decide +kernel, rfl⟩
theorem i_mo_come_50 : fe M_mo_come 50 .iastore 1 51 := ⟨by decide +kernel, rfl⟩
theorem i_mo_come_51 : fe M_mo_come 51 (.aload_n 0) 1 52 := ⟨by decide +kernel, rfl⟩
theorem i_mo_come_52 : fe M_mo_come 52 (.getfield 69) 3 55 := ⟨by decide +kernel, rfl⟩
theorem i_mo_come_55 : fe M_mo_come 55 (.aload_n 0) 1 56 := ⟨by decide +kernel, rfl⟩
theorem i_mo_come_56 : fe M_mo_come 56 (.getfield 169) 3 59 := ⟨by decide +kernel, rfl⟩
theorem i_mo_come_59 : fe M_mo_come 59 (.iload_n 2) 1 60 := ⟨by decide +kernel, rfl⟩
theorem i_mo_come_60 : fe M_mo_come 60 .iastore 1 61 := ⟨by decide +kernel, rfl⟩
theorem i_mo_come_61 : fe M_mo_come 61 (.aload_n 0) 1 62 := ⟨by decide +kernel, rfl⟩
theorem i_mo_come_62 : fe M_mo_come 62 (.getfield 78) 3 65 := ⟨by decide +kernel, rfl⟩
theorem i_mo_come_65 : fe M_mo_come 65 (.aload_n 0) 1 66 := ⟨by decide +kernel, rfl⟩
theorem i_mo_come_66 : fe M_mo_come 66 (.getfield 169) 3 69 := ⟨by decide +kernel, rfl⟩
theorem i_mo_come_69 : fe M_mo_come 69 (.iload_n 3) 1 70 := ⟨by decide +kernel, rfl⟩
theorem i_mo_come_70 : fe M_mo_come 70 .iastore 1 71 := ⟨by decide +kernel, rfl⟩
theorem i_mo_come_71 : fe M_mo_come 71 (.aload_n 0) 1 72 := ⟨by decide +kernel, rfl⟩
theorem i_mo_come_72 : fe M_mo_come 72 (.getfield 75) 3 75 := ⟨by decide +kernel, rfl⟩
theorem i_mo_come_75 : fe M_mo_come 75 (.aload_n 0) 1 76 := ⟨by decide +kernel, rfl⟩
theorem i_mo_come_76 : fe M_mo_come 76 (.getfield 169) 3 79 := ⟨by decide +kernel, rfl⟩
theorem i_mo_come_79 : fe M_mo_come 79 (.aload_n 0) 1 80 := ⟨by decide +kernel, rfl⟩
theorem i_mo_come_80 : fe M_mo_come 80 (.iload_n 1) 1 81 := ⟨by decide +kernel, rfl⟩
theorem i_mo_come_81 : fe M_mo_come 81 (.iload_n 2) 1 82 := ⟨by decide +kernel, rfl⟩
theorem i_mo_come_82 : fe M_mo_come 82 (.invokevirtual 161) 3 85 := ⟨by decide +kernel, rfl⟩
theorem i_mo_come_85 : fe M_mo_come 85 .iastore 1 86 := ⟨by decide +kernel, rfl⟩
theorem i_mo_come_86 : fe M_mo_come 86 (.aload_n 0) 1 87 := ⟨by decide +kernel, rfl⟩
theorem i_mo_come_87 : fe M_mo_come 87 (.getfield 33) 3 90 := ⟨by decide +kernel, rfl⟩
theorem i_mo_come_90 : fe M_mo_come 90 (.iload_n 1) 1 91 := ⟨by decide +kernel, rfl⟩
theorem i_mo_come_91 : fe M_mo_come 91 .iaload 1 92 := ⟨by decide +kernel, rfl⟩
theorem i_mo_come_92 : fb M_mo_come 92 (.ifCond .le) 109 95 := ⟨17, by decide +kernel, by decide, rfl⟩
theorem i_mo_come_95 : fe M_mo_come 95 (.aload_n 0) 1 96 := ⟨by decide +kernel, rfl⟩
theorem i_mo_come_96 : fe M_mo_come 96 (.iload_n 1) 1 97 := ⟨by decide +kernel, rfl⟩
theorem i_mo_come_97 : fe M_mo_come 97 (.iload_n 2) 1 98 := ⟨by decide +kernel, rfl⟩
theorem i_mo_come_98 : fe M_mo_come 98 (.invokevirtual 157) 3 101 := ⟨by decide +kernel, rfl⟩
theorem i_mo_come_101 : fe M_mo_come 101 (.iconst (-1)) 1 102 := ⟨by decide +kernel, rfl⟩
theorem i_mo_come_102 : fb M_mo_come 102 (.if_icmp .ne) 109 105 := ⟨7, by decide +kernel, by decide, rfl⟩
theorem i_mo_come_105 : fe M_mo_come 105 (.iconst 1) 1 106 := ⟨by decide +kernel, rfl⟩
theorem i_mo_come_106 : fb M_mo_come 106 .goto 110 109 := ⟨4, by decide +kernel, by decide, rfl⟩
theorem i_mo_come_109 : fe M_mo_come 109 (.iconst 0) 1 110 := ⟨by decide +kernel, rfl⟩
theorem i_mo_come_110 : fe M_mo_come 110 (.istore 4) 2 112 := ⟨by decide +kernel, rfl⟩
theorem i_mo_come_112 : fe M_mo_come 112 (.aload_n 0) 1 113 := ⟨by decide +kernel, rfl⟩
theorem i_mo_come_113 : fe M_mo_come 113 (.getfield 72) 3 116 := ⟨by decide +kernel, rfl⟩
theorem i_mo_come_116 : fe M_mo_come 116 (.aload_n 0) 1 117 := ⟨by decide +kernel, rfl⟩
theorem i_mo_come_117 : fe M_mo_come 117 (.getfield 169) 3 120 := ⟨by decide +kernel, rfl⟩
theorem i_mo_come_120 : fe M_mo_come 120 (.iload 4) 2 122 := ⟨by decide +kernel, rfl⟩
theorem i_mo_come_122 : fb M_mo_come 122 (.ifCond .eq) 146 125 := ⟨24, by decide +kernel, by decide, rfl⟩
theorem i_mo_come_125 : fe M_mo_come 125 (.aload_n 0) 1 126 := ⟨by decide +kernel, rfl⟩
theorem i_mo_come_126 : fe M_mo_come 126 (.getfield 165) 3 129 := ⟨by decide +kernel, rfl⟩
theorem i_mo_come_129 : fe M_mo_come 129 (.aload_n 0) 1 130 := ⟨by decide +kernel, rfl⟩
theorem i_mo_come_130 : fe M_mo_come 130 (.getfield 48) 3 133 := ⟨by decide +kernel, rfl⟩
theorem i_mo_come_133 : fe M_mo_come 133 (.iload_n 1) 1 134 := ⟨by decide +kernel, rfl⟩
theorem i_mo_come_134 : fe M_mo_come 134 .iaload 1 135 := ⟨by decide +kernel, rfl⟩
theorem i_mo_come_135 : fb M_mo_come 135 (.if_icmp .ge) 142 138 := ⟨7, by decide +kernel, by decide, rfl⟩
theorem i_mo_come_138 : fe M_mo_come 138 (.iconst 3) 1 139 := ⟨by decide +kernel, rfl⟩
theorem i_mo_come_139 : fb M_mo_come 139 .goto 163 142 := ⟨24, by decide +kernel, by decide, rfl⟩
theorem i_mo_come_142 : fe M_mo_come 142 (.iconst 2) 1 143 := ⟨by decide +kernel, rfl⟩
theorem i_mo_come_143 : fb M_mo_come 143 .goto 163 146 := ⟨20, by decide +kernel, by decide, rfl⟩
theorem i_mo_come_146 : fe M_mo_come 146 (.aload_n 0) 1 147 := ⟨by decide +kernel, rfl⟩
theorem i_mo_come_147 : fe M_mo_come 147 (.getfield 75) 3 150 := ⟨by decide +kernel, rfl⟩
theorem i_mo_come_150 : fe M_mo_come 150 (.aload_n 0) 1 151 := ⟨by decide +kernel, rfl⟩
theorem i_mo_come_151 : fe M_mo_come 151 (.getfield 169) 3 154 := ⟨by decide +kernel, rfl⟩
theorem i_mo_come_154 : fe M_mo_come 154 .iaload 1 155 := ⟨by decide +kernel, rfl⟩
theorem i_mo_come_155 : fb M_mo_come 155 (.ifCond .ne) 162 158 := ⟨7, by decide +kernel, by decide, rfl⟩
theorem i_mo_come_158 : fe M_mo_come 158 (.iconst 0) 1 159 := ⟨by decide +kernel, rfl⟩
theorem i_mo_come_159 : fb M_mo_come 159 .goto 163 162 := ⟨4, by decide +kernel, by decide, rfl⟩
theorem i_mo_come_162 : fe M_mo_come 162 (.iconst 1) 1 163 := ⟨by decide +kernel, rfl⟩
theorem i_mo_come_163 : fe M_mo_come 163 .iastore 1 164 := ⟨by decide +kernel, rfl⟩
theorem i_mo_come_164 : fe M_mo_come 164 (.aload_n 0) 1 165 := ⟨by decide +kernel, rfl⟩
theorem i_mo_come_165 : fe M_mo_come 165 .dup 1 166 := ⟨by decide +kernel, rfl⟩
theorem i_mo_come_166 : fe M_mo_come 166 (.getfield 169) 3 169 := ⟨by decide +kernel, rfl⟩
theorem i_mo_come_169 : fe M_mo_come 169 (.iconst 1) 1 170 := ⟨by decide +kernel, rfl⟩
theorem i_mo_come_170 : fe M_mo_come 170 .iadd 1 171 := ⟨by decide +kernel, rfl⟩
theorem i_mo_come_171 : fe M_mo_come 171 (.putfield 169) 3 174 := ⟨by decide +kernel, rfl⟩
theorem i_mo_come_174 : fe M_mo_come 174 .return_ 1 175 := ⟨by decide +kernel, rfl⟩
theorem i_mo_review_0 : fe M_mo_review 0 (.aload_n 0) 1 1 := ⟨by decide +kernel, rfl⟩
theorem i_mo_review_1 : fe M_mo_review 1 (.iconst 0) 1 2 := ⟨by decide +kernel, rfl⟩
theorem i_mo_review_2 : fe M_mo_review 2 (.putfield 81) 3 5 := ⟨by decide +kernel, rfl⟩
theorem i_mo_review_5 : fe M_mo_review 5 (.aload_n 0) 1 6 := ⟨by decide +kernel, rfl⟩
theorem i_mo_review_6 : fe M_mo_review 6 (.iload_n 1) 1 7 := ⟨by decide +kernel, rfl⟩
theorem i_mo_review_7 : fe M_mo_review 7 (.invokevirtual 143) 3 10 := ⟨by decide +kernel, rfl⟩
theorem i_mo_review_10 : fb M_mo_review 10 (.ifCond .eq) 20 13 := ⟨10, by decide +kernel, by decide, rfl⟩
theorem i_mo_review_13 : fe M_mo_review 13 (.iload_n 2) 1 14 := ⟨by decide +kernel, rfl⟩
theorem i_mo_review_14 : fe M_mo_review 14 (.invokestatic 95) 3 17 := ⟨by decide +kernel, rfl⟩
theorem i_mo_review_17 : fb M_mo_review 17 (.ifCond .ne) 22 20 := ⟨5, by decide +kernel, by decide, rfl⟩
theorem i_mo_review_20 : fe M_mo_review 20 (.iconst (-1)) 1 21 := ⟨by decide +kernel, rfl⟩
theorem i_mo_review_21 : fe M_mo_review 21 .ireturn 1 22 := ⟨by decide +kernel, rfl⟩
theorem i_mo_review_22 : fe M_mo_review 22 (.aload_n 0) 1 23 := ⟨by decide +kernel, rfl⟩
theorem i_mo_review_23 : fe M_mo_review 23 (.iconst 0) 1 24 := ⟨by decide +kernel, rfl⟩
theorem i_mo_review_24 : fe M_mo_review 24 (.putfield 169) 3 27 := ⟨by decide +kernel, rfl⟩
theorem i_mo_review_27 : fe M_mo_review 27 (.aload_n 0) 1 28 := ⟨by decide +kernel, rfl⟩
theorem i_mo_review_28 : fe M_mo_review 28 (.iload_n 1) 1 29 := ⟨by decide +kernel, rfl⟩
theorem i_mo_review_29 : fe M_mo_review 29 (.iload_n 2) 1 30 := ⟨by decide +kernel, rfl⟩
theorem i_mo_review_30 : fe M_mo_review 30 (.iconst (-1)) 1 31 := ⟨by decide +kernel, rfl⟩
theorem i_mo_review_31 : fe M_mo_review 31 (.invokevirtual 172) 3 34 := ⟨by decide +kernel, rfl⟩
theorem i_mo_review_34 : fe M_mo_review 34 (.iconst 0) 1 35 := ⟨by decide +kernel, rfl⟩
theorem i_mo_review_35 : fe M_mo_review 35 (.istore_n 3) 1 36 := ⟨by decide +kernel, rfl⟩
theorem i_mo_review_36 : fe M_mo_review 36 (.iload_n 3) 1 37 := ⟨by decide +kernel, rfl⟩
theorem i_mo_review_37 : fe M_mo_review 37 (.aload_n 0) 1 38 := ⟨by decide +kernel, rfl⟩
theorem i_mo_review_38 : fe M_mo_review 38 (.getfield 169) 3 41 := ⟨by decide +kernel, rfl⟩
theorem i_mo_review_41 : fb M_mo_review 41 (.if_icmp .ge) 134 44 := ⟨93, by decide +kernel, by decide, rfl⟩
theorem i_mo_review_44 : fe M_mo_review 44 (.aload_n 0) 1 45 := ⟨by decide +kernel, rfl⟩
theorem i_mo_review_45 : fe M_mo_review 45 (.getfield 66) 3 48 := ⟨by decide +kernel, rfl⟩
theorem i_mo_review_48 : fe M_mo_review 48 (.iload_n 3) 1 49 := ⟨by decide +kernel, rfl⟩
theorem i_mo_review_49 : fe M_mo_review 49 .iaload 1 50 := ⟨by decide +kernel, rfl⟩
theorem i_mo_review_50 : fe M_mo_review 50 (.istore 4) 2 52 := ⟨by decide +kernel, rfl⟩
theorem i_mo_review_52 : fe M_mo_review 52 (.iconst 0) 1 53 := ⟨by decide +kernel, rfl⟩
theorem i_mo_review_53 : fe M_mo_review 53 (.istore 5) 2 55 := ⟨by decide +kernel, rfl⟩
theorem i_mo_review_55 : fe M_mo_review 55 (.iload 5) 2 57 := ⟨by decide +kernel, rfl⟩
theorem i_mo_review_57 : fe M_mo_review 57 (.aload_n 0) 1 58 := ⟨by decide +kernel, rfl⟩
theorem i_mo_review_58 : fe M_mo_review 58 (.getfield 39) 3 61 := ⟨by decide +kernel, rfl⟩
theorem i_mo_review_61 : fe M_mo_review 61 (.iload 4) 2 63 := ⟨by decide +kernel, rfl⟩
theorem i_mo_review_63 : fe M_mo_review 63 .iaload 1 64 := ⟨by decide +kernel, rfl⟩
theorem i_mo_review_64 : fb M_mo_review 64 (.if_icmp .ge) 128 67 := ⟨64, by decide +kernel, by decide, rfl⟩
theorem i_mo_review_67 : fe M_mo_review 67 (.aload_n 0) 1 68 := ⟨by decide +kernel, rfl⟩
theorem i_mo_review_68 : fe M_mo_review 68 (.getfield 45) 3 71 := ⟨by decide +kernel, rfl⟩
theorem i_mo_review_71 : fe M_mo_review 71 (.bipush 6) 2 73 := ⟨by decide +kernel, rfl⟩
theorem i_mo_review_73 : fe M_mo_review 73 (.iload 4) 2 75 := ⟨by decide +kernel, rfl⟩
theorem i_mo_review_75 : fe M_mo_review 75 .imul 1 76 := ⟨by decide +kernel, rfl⟩
theorem i_mo_review_76 : fe M_mo_review 76 (.iload 5) 2 78 := ⟨by decide +kernel, rfl⟩
theorem i_mo_review_78 : fe M_mo_review 78 .iadd 1 79 := ⟨by decide +kernel, rfl⟩
theorem i_mo_review_79 : fe M_mo_review 79 .iaload 1 80 := ⟨by decide +kernel, rfl⟩
theorem i_mo_review_80 : fe M_mo_review 80 (.istore 6) 2 82 := ⟨by decide +kernel, rfl⟩
theorem i_mo_review_82 : fe M_mo_review 82 (.aload_n 0) 1 83 := ⟨by decide +kernel, rfl⟩
theorem i_mo_review_83 : fe M_mo_review 83 (.aload_n 0) 1 84 := ⟨by decide +kernel, rfl⟩
theorem i_mo_review_84 : fe M_mo_review 84 (.getfield 42) 3 87 := ⟨by decide +kernel, rfl⟩
theorem i_mo_review_87 : fe M_mo_review 87 (.bipush 6) 2 89 := ⟨by decide +kernel, rfl⟩
theorem i_mo_review_89 : fe M_mo_review 89 (.iload 4) 2 91 := ⟨by decide +kernel, rfl⟩
theorem i_mo_review_91 : fe M_mo_review 91 .imul 1 92 := ⟨by decide +kernel, rfl⟩
theorem i_mo_review_92 : fe M_mo_review 92 (.iload 5) 2 94 := ⟨by decide +kernel, rfl⟩
theorem i_mo_review_94 : fe M_mo_review 94 .iadd 1 95 := ⟨by decide +kernel, rfl⟩
theorem i_mo_review_95 : fe M_mo_review 95 .iaload 1 96 := ⟨by decide +kernel, rfl⟩
theorem i_mo_review_96 : fe M_mo_review 96 (.iload 6) 2 98 := ⟨by decide +kernel, rfl⟩
theorem i_mo_review_98 : fe M_mo_review 98 (.aload_n 0) 1 99 := ⟨by decide +kernel, rfl⟩
theorem i_mo_review_99 : fe M_mo_review 99 (.getfield 69) 3 102 := ⟨by decide +kernel, rfl⟩
theorem i_mo_review_102 : fe M_mo_review 102 (.iload_n 3) 1 103 := ⟨by decide +kernel, rfl⟩
theorem i_mo_review_103 : fe M_mo_review 103 .iaload 1 104 := ⟨by decide +kernel, rfl⟩
theorem i_mo_review_104 : fb M_mo_review 104 (.if_icmp .le) 112 107 := ⟨8, by decide +kernel, by decide, rfl⟩
theorem i_mo_review_107 : fe M_mo_review 107 (.iload 6) 2 109 := ⟨by decide +kernel, rfl⟩
theorem i_mo_review_109 : fb M_mo_review 109 .goto 118 112 := ⟨9, by decide +kernel, by decide, rfl⟩
theorem i_mo_review_112 : fe M_mo_review 112 (.aload_n 0) 1 113 := ⟨by decide +kernel, rfl⟩
theorem i_mo_review_113 : fe M_mo_review 113 (.getfield 69) 3 116 := ⟨by decide +kernel, rfl⟩
theorem i_mo_review_116 : fe M_mo_review 116 (.iload_n 3) 1 117 := ⟨by decide +kernel, rfl⟩
theorem i_mo_review_117 : fe M_mo_review 117 .iaload 1 118 := ⟨by decide +kernel, rfl⟩
theorem i_mo_review_118 : fe M_mo_review 118 (.iload_n 3) 1 119 := ⟨by decide +kernel, rfl⟩
theorem i_mo_review_119 : fe M_mo_review 119 (.invokevirtual 172) 3 122 := ⟨by decide +kernel, rfl⟩
theorem i_mo_review_122 : fe M_mo_review 122 (.iinc 5 1) 3 125 := ⟨by decide +kernel, rfl⟩
theorem i_mo_review_125 : fb M_mo_review 125 .goto 55 128 := ⟨-70, by decide +kernel, by decide, rfl⟩
theorem i_mo_review_128 : fe M_mo_review 128 (.iinc 3 1) 3 131 := ⟨by decide +kernel, rfl⟩
theorem i_mo_review_131 : fb M_mo_review 131 .goto 36 134 := ⟨-95, by decide +kernel, by decide, rfl⟩
theorem i_mo_review_134 : fe M_mo_review 134 (.iconst 0) 1 135 := ⟨by decide +kernel, rfl⟩
theorem i_mo_review_135 : fe M_mo_review 135 (.istore_n 3) 1 136 := ⟨by decide +kernel, rfl⟩
theorem i_mo_review_136 : fe M_mo_review 136 (.iconst 0) 1 137 := ⟨by decide +kernel, rfl⟩
theorem i_mo_review_137 : fe M_mo_review 137 (.istore 4) 2 139 := ⟨by decide +kernel, rfl⟩
theorem i_mo_review_139 : fe M_mo_review 139 (.iload 4) 2 141 := ⟨by decide +kernel, rfl⟩
theorem i_mo_review_141 : fe M_mo_review 141 (.aload_n 0) 1 142 := ⟨by decide +kernel, rfl⟩
theorem i_mo_review_142 : fe M_mo_review 142 (.getfield 169) 3 145 := ⟨by decide +kernel, rfl⟩
theorem i_mo_review_145 : fb M_mo_review 145 (.if_icmp .ge) 173 148 := ⟨28, by decide +kernel, by decide, rfl⟩
theorem i_mo_review_148 : fe M_mo_review 148 (.iload_n 3) 1 149 := ⟨by decide +kernel, rfl⟩
theorem i_mo_review_149 : fe M_mo_review 149 (.aload_n 0) 1 150 := ⟨by decide +kernel, rfl⟩
theorem i_mo_review_150 : fe M_mo_review 150 (.getfield 72) 3 153 := ⟨by decide +kernel, rfl⟩
theorem i_mo_review_153 : fe M_mo_review 153 (.iload 4) 2 155 := ⟨by decide +kernel, rfl⟩
theorem i_mo_review_155 : fe M_mo_review 155 .iaload 1 156 := ⟨by decide +kernel, rfl⟩
theorem i_mo_review_156 : fe M_mo_review 156 (.iconst 2) 1 157 := ⟨by decide +kernel, rfl⟩
theorem i_mo_review_157 : fb M_mo_review 157 (.if_icmp .ne) 164 160 := ⟨7, by decide +kernel, by decide, rfl⟩
theorem i_mo_review_160 : fe M_mo_review 160 (.iconst 1) 1 161 := ⟨by decide +kernel, rfl⟩
theorem i_mo_review_161 : fb M_mo_review 161 .goto 165 164 := ⟨4, by decide +kernel, by decide, rfl⟩
theorem i_mo_review_164 : fe M_mo_review 164 (.iconst 0) 1 165 := ⟨by decide +kernel, rfl⟩
theorem i_mo_review_165 : fe M_mo_review 165 .iadd 1 166 := ⟨by decide +kernel, rfl⟩
theorem i_mo_review_166 : fe M_mo_review 166 (.istore_n 3) 1 167 := ⟨by decide +kernel, rfl⟩
theorem i_mo_review_167 : fe M_mo_review 167 (.iinc 4 1) 3 170 := ⟨by decide +kernel, rfl⟩
theorem i_mo_review_170 : fb M_mo_review 170 .goto 139 173 := ⟨-31, by decide +kernel, by decide, rfl⟩
theorem i_mo_review_173 : fe M_mo_review 173 (.iload_n 3) 1 174 := ⟨by decide +kernel, rfl⟩
theorem i_mo_review_174 : fe M_mo_review 174 .ireturn 1 175 := ⟨by decide +kernel, rfl⟩
theorem i_mo_entry_0 : fe M_mo_entry 0 (.aload_n 0) 1 1 := ⟨by decide +kernel, rfl⟩
theorem i_mo_entry_1 : fe M_mo_entry 1 (.iconst 0) 1 2 := ⟨by decide +kernel, rfl⟩
theorem i_mo_entry_2 : fe M_mo_entry 2 (.putfield 81) 3 5 := ⟨by decide +kernel, rfl⟩
theorem i_mo_entry_5 : fe M_mo_entry 5 (.iload_n 1) 1 6 := ⟨by decide +kernel, rfl⟩
theorem i_mo_entry_6 : fb M_mo_entry 6 (.ifCond .lt) 17 9 := ⟨11, by decide +kernel, by decide, rfl⟩
theorem i_mo_entry_9 : fe M_mo_entry 9 (.iload_n 1) 1 10 := ⟨by decide +kernel, rfl⟩
theorem i_mo_entry_10 : fe M_mo_entry 10 (.aload_n 0) 1 11 := ⟨by decide +kernel, rfl⟩
theorem i_mo_entry_11 : fe M_mo_entry 11 (.getfield 169) 3 14 := ⟨by decide +kernel, rfl⟩
theorem i_mo_entry_14 : fb M_mo_entry 14 (.if_icmp .lt) 19 17 := ⟨5, by decide +kernel, by decide, rfl⟩
theorem i_mo_entry_17 : fe M_mo_entry 17 (.iconst (-1)) 1 18 := ⟨by decide +kernel, rfl⟩
theorem i_mo_entry_18 : fe M_mo_entry 18 .ireturn 1 19 := ⟨by decide +kernel, rfl⟩
theorem i_mo_entry_19 : fe M_mo_entry 19 (.iload_n 2) 1 20 := ⟨by decide +kernel, rfl⟩
theorem i_mo_entry_20 : decode M_mo_entry.2.1 20 = .ok (.tableswitch 71 0 4 #[36, 43, 50, 57, 64], 36) := by decide +kernel
theorem i_mo_entry_56 : fe M_mo_entry 56 (.aload_n 0) 1 57 := ⟨by decide +kernel, rfl⟩
theorem i_mo_entry_57 : fe M_mo_entry 57 (.getfield 66) 3 60 := ⟨by decide +kernel, rfl⟩
theorem i_mo_entry_60 : fe M_mo_entry 60 (.iload_n 1) 1 61 := ⟨by decide +kernel, rfl⟩
theorem i_mo_entry_61 : fe M_mo_entry 61 .iaload 1 62 := ⟨by decide +kernel, rfl⟩
theorem i_mo_entry_62 : fe M_mo_entry 62 .ireturn 1 63 := ⟨by decide +kernel, rfl⟩
theorem i_mo_entry_63 : fe M_mo_entry 63 (.aload_n 0) 1 64 := ⟨by decide +kernel, rfl⟩
theorem i_mo_entry_64 : fe M_mo_entry 64 (.getfield 69) 3 67 := ⟨by decide +kernel, rfl⟩
theorem i_mo_entry_67 : fe M_mo_entry 67 (.iload_n 1) 1 68 := ⟨by decide +kernel, rfl⟩
theorem i_mo_entry_68 : fe M_mo_entry 68 .iaload 1 69 := ⟨by decide +kernel, rfl⟩
theorem i_mo_entry_69 : fe M_mo_entry 69 .ireturn 1 70 := ⟨by decide +kernel, rfl⟩
theorem i_mo_entry_70 : fe M_mo_entry 70 (.aload_n 0) 1 71 := ⟨by decide +kernel, rfl⟩
theorem i_mo_entry_71 : fe M_mo_entry 71 (.getfield 72) 3 74 := ⟨by decide +kernel, rfl⟩
theorem i_mo_entry_74 : fe M_mo_entry 74 (.iload_n 1) 1 75 := ⟨by decide +kernel, rfl⟩
theorem i_mo_entry_75 : fe M_mo_entry 75 .iaload 1 76 := ⟨by decide +kernel, rfl⟩
theorem i_mo_entry_76 : fe M_mo_entry 76 .ireturn 1 77 := ⟨by decide +kernel, rfl⟩
theorem i_mo_entry_77 : fe M_mo_entry 77 (.aload_n 0) 1 78 := ⟨by decide +kernel, rfl⟩
theorem i_mo_entry_78 : fe M_mo_entry 78 (.getfield 75) 3 81 := ⟨by decide +kernel, rfl⟩
theorem i_mo_entry_81 : fe M_mo_entry 81 (.iload_n 1) 1 82 := ⟨by decide +kernel, rfl⟩
theorem i_mo_entry_82 : fe M_mo_entry 82 .iaload 1 83 := ⟨by decide +kernel, rfl⟩
theorem i_mo_entry_83 : fe M_mo_entry 83 .ireturn 1 84 := ⟨by decide +kernel, rfl⟩
theorem i_mo_entry_84 : fe M_mo_entry 84 (.aload_n 0) 1 85 := ⟨by decide +kernel, rfl⟩
theorem i_mo_entry_85 : fe M_mo_entry 85 (.getfield 78) 3 88 := ⟨by decide +kernel, rfl⟩
theorem i_mo_entry_88 : fe M_mo_entry 88 (.iload_n 1) 1 89 := ⟨by decide +kernel, rfl⟩
theorem i_mo_entry_89 : fe M_mo_entry 89 .iaload 1 90 := ⟨by decide +kernel, rfl⟩
theorem i_mo_entry_90 : fe M_mo_entry 90 .ireturn 1 91 := ⟨by decide +kernel, rfl⟩
theorem i_mo_entry_91 : fe M_mo_entry 91 (.iconst (-1)) 1 92 := ⟨by decide +kernel, rfl⟩
theorem i_mo_entry_92 : fe M_mo_entry 92 .ireturn 1 93 := ⟨by decide +kernel, rfl⟩
theorem i_mo_all_0 : fe M_mo_all 0 (.aload_n 0) 1 1 := ⟨by decide +kernel, rfl⟩
theorem i_mo_all_1 : fe M_mo_all 1 (.iconst 0) 1 2 := ⟨by decide +kernel, rfl⟩
theorem i_mo_all_2 : fe M_mo_all 2 (.putfield 81) 3 5 := ⟨by decide +kernel, rfl⟩
theorem i_mo_all_5 : fe M_mo_all 5 (.iconst 0) 1 6 := ⟨by decide +kernel, rfl⟩
theorem i_mo_all_6 : fe M_mo_all 6 (.istore_n 1) 1 7 := ⟨by decide +kernel, rfl⟩
theorem i_mo_all_7 : fe M_mo_all 7 (.iconst 0) 1 8 := ⟨by decide +kernel, rfl⟩
theorem i_mo_all_8 : fe M_mo_all 8 (.istore_n 2) 1 9 := ⟨by decide +kernel, rfl⟩
theorem i_mo_all_9 : fe M_mo_all 9 (.iload_n 2) 1 10 := ⟨by decide +kernel, rfl⟩
theorem i_mo_all_10 : fe M_mo_all 10 (.aload_n 0) 1 11 := ⟨by decide +kernel, rfl⟩
theorem i_mo_all_11 : fe M_mo_all 11 (.getfield 169) 3 14 := ⟨by decide +kernel, rfl⟩
theorem i_mo_all_14 : fb M_mo_all 14 (.if_icmp .ge) 32 17 := ⟨18, by decide +kernel, by decide, rfl⟩
theorem i_mo_all_17 : fe M_mo_all 17 (.iload_n 1) 1 18 := ⟨by decide +kernel, rfl⟩
theorem i_mo_all_18 : fe M_mo_all 18 (.aload_n 0) 1 19 := ⟨by decide +kernel, rfl⟩
theorem i_mo_all_19 : fe M_mo_all 19 (.getfield 75) 3 22 := ⟨by decide +kernel, rfl⟩
theorem i_mo_all_22 : fe M_mo_all 22 (.iload_n 2) 1 23 := ⟨by decide +kernel, rfl⟩
theorem i_mo_all_23 : fe M_mo_all 23 .iaload 1 24 := ⟨by decide +kernel, rfl⟩
theorem i_mo_all_24 : fe M_mo_all 24 .ior 1 25 := ⟨by decide +kernel, rfl⟩
theorem i_mo_all_25 : fe M_mo_all 25 (.istore_n 1) 1 26 := ⟨by decide +kernel, rfl⟩
theorem i_mo_all_26 : fe M_mo_all 26 (.iinc 2 1) 3 29 := ⟨by decide +kernel, rfl⟩
theorem i_mo_all_29 : fb M_mo_all 29 .goto 9 32 := ⟨-20, by decide +kernel, by decide, rfl⟩
theorem i_mo_all_32 : fe M_mo_all 32 (.iload_n 1) 1 33 := ⟨by decide +kernel, rfl⟩
theorem i_mo_all_33 : fe M_mo_all 33 .ireturn 1 34 := ⟨by decide +kernel, rfl⟩
theorem i_mo_material_0 : fe M_mo_material 0 (.aload_n 0) 1 1 := ⟨by decide +kernel, rfl⟩
theorem i_mo_material_1 : fe M_mo_material 1 (.iconst 0) 1 2 := ⟨by decide +kernel, rfl⟩
theorem i_mo_material_2 : fe M_mo_material 2 (.putfield 81) 3 5 := ⟨by decide +kernel, rfl⟩
theorem i_mo_material_5 : fe M_mo_material 5 (.iconst 0) 1 6 := ⟨by decide +kernel, rfl⟩
theorem i_mo_material_6 : fe M_mo_material 6 (.istore_n 2) 1 7 := ⟨by decide +kernel, rfl⟩
theorem i_mo_material_7 : fe M_mo_material 7 (.iconst 0) 1 8 := ⟨by decide +kernel, rfl⟩
theorem i_mo_material_8 : fe M_mo_material 8 (.istore_n 3) 1 9 := ⟨by decide +kernel, rfl⟩
theorem i_mo_material_9 : fe M_mo_material 9 (.iload_n 3) 1 10 := ⟨by decide +kernel, rfl⟩
theorem i_mo_material_10 : fe M_mo_material 10 (.aload_n 0) 1 11 := ⟨by decide +kernel, rfl⟩
theorem i_mo_material_11 : fe M_mo_material 11 (.getfield 169) 3 14 := ⟨by decide +kernel, rfl⟩
theorem i_mo_material_14 : fb M_mo_material 14 (.if_icmp .ge) 92 17 := ⟨78, by decide +kernel, by decide, rfl⟩
theorem i_mo_material_17 : fe M_mo_material 17 (.iconst 0) 1 18 := ⟨by decide +kernel, rfl⟩
theorem i_mo_material_18 : fe M_mo_material 18 (.istore 4) 2 20 := ⟨by decide +kernel, rfl⟩
theorem i_mo_material_20 : fe M_mo_material 20 (.iconst 0) 1 21 := ⟨by decide +kernel, rfl⟩
theorem i_mo_material_21 : fe M_mo_material 21 (.istore 5) 2 23 := ⟨by decide +kernel, rfl⟩
theorem i_mo_material_23 : fe M_mo_material 23 (.iload 5) 2 25 := ⟨by decide +kernel, rfl⟩
theorem i_mo_material_25 : fe M_mo_material 25 (.iload_n 3) 1 26 := ⟨by decide +kernel, rfl⟩
theorem i_mo_material_26 : fb M_mo_material 26 (.if_icmp .ge) 63 29 := ⟨37, by decide +kernel, by decide, rfl⟩
theorem i_mo_material_29 : fe M_mo_material 29 (.iload 4) 2 31 := ⟨by decide +kernel, rfl⟩
theorem i_mo_material_31 : fb M_mo_material 31 (.ifCond .ne) 50 34 := ⟨19, by decide +kernel, by decide, rfl⟩
theorem i_mo_material_34 : fe M_mo_material 34 (.aload_n 0) 1 35 := ⟨by decide +kernel, rfl⟩
theorem i_mo_material_35 : fe M_mo_material 35 (.getfield 66) 3 38 := ⟨by decide +kernel, rfl⟩
theorem i_mo_material_38 : fe M_mo_material 38 (.iload 5) 2 40 := ⟨by decide +kernel, rfl⟩
theorem i_mo_material_40 : fe M_mo_material 40 .iaload 1 41 := ⟨by decide +kernel, rfl⟩
theorem i_mo_material_41 : fe M_mo_material 41 (.aload_n 0) 1 42 := ⟨by decide +kernel, rfl⟩
theorem i_mo_material_42 : fe M_mo_material 42 (.getfield 66) 3 45 := ⟨by decide +kernel, rfl⟩
theorem i_mo_material_45 : fe M_mo_material 45 (.iload_n 3) 1 46 := ⟨by decide +kernel, rfl⟩
theorem i_mo_material_46 : fe M_mo_material 46 .iaload 1 47 := ⟨by decide +kernel, rfl⟩
theorem i_mo_material_47 : fb M_mo_material 47 (.if_icmp .ne) 54 50 := ⟨7, by decide +kernel, by decide, rfl⟩
theorem i_mo_material_50 : fe M_mo_material 50 (.iconst 1) 1 51 := ⟨by decide +kernel, rfl⟩
theorem i_mo_material_51 : fb M_mo_material 51 .goto 55 54 := ⟨4, by decide +kernel, by decide, rfl⟩
theorem i_mo_material_54 : fe M_mo_material 54 (.iconst 0) 1 55 := ⟨by decide +kernel, rfl⟩
theorem i_mo_material_55 : fe M_mo_material 55 (.istore 4) 2 57 := ⟨by decide +kernel, rfl⟩
theorem i_mo_material_57 : fe M_mo_material 57 (.iinc 5 1) 3 60 := ⟨by decide +kernel, rfl⟩
theorem i_mo_material_60 : fb M_mo_material 60 .goto 23 63 := ⟨-37, by decide +kernel, by decide, rfl⟩
theorem i_mo_material_63 : fe M_mo_material 63 (.iload 4) 2 65 := ⟨by decide +kernel, rfl⟩
theorem i_mo_material_65 : fb M_mo_material 65 (.ifCond .eq) 71 68 := ⟨6, by decide +kernel, by decide, rfl⟩
theorem i_mo_material_68 : fb M_mo_material 68 .goto 86 71 := ⟨18, by decide +kernel, by decide, rfl⟩
theorem i_mo_material_71 : fe M_mo_material 71 (.iload_n 2) 1 72 := ⟨by decide +kernel, rfl⟩
theorem i_mo_material_72 : fe M_mo_material 72 (.iload_n 1) 1 73 := ⟨by decide +kernel, rfl⟩
theorem i_mo_material_73 : fb M_mo_material 73 (.if_icmp .ne) 83 76 := ⟨10, by decide +kernel, by decide, rfl⟩
theorem i_mo_material_76 : fe M_mo_material 76 (.aload_n 0) 1 77 := ⟨by decide +kernel, rfl⟩
theorem i_mo_material_77 : fe M_mo_material 77 (.getfield 66) 3 80 := ⟨by decide +kernel, rfl⟩
theorem i_mo_material_80 : fe M_mo_material 80 (.iload_n 3) 1 81 := ⟨by decide +kernel, rfl⟩
theorem i_mo_material_81 : fe M_mo_material 81 .iaload 1 82 := ⟨by decide +kernel, rfl⟩
theorem i_mo_material_82 : fe M_mo_material 82 .ireturn 1 83 := ⟨by decide +kernel, rfl⟩
theorem i_mo_material_83 : fe M_mo_material 83 (.iinc 2 1) 3 86 := ⟨by decide +kernel, rfl⟩
theorem i_mo_material_86 : fe M_mo_material 86 (.iinc 3 1) 3 89 := ⟨by decide +kernel, rfl⟩
theorem i_mo_material_89 : fb M_mo_material 89 .goto 9 92 := ⟨-80, by decide +kernel, by decide, rfl⟩
theorem i_mo_material_92 : fe M_mo_material 92 (.iconst (-1)) 1 93 := ⟨by decide +kernel, rfl⟩
theorem i_mo_material_93 : fe M_mo_material 93 .ireturn 1 94 := ⟨by decide +kernel, rfl⟩
theorem i_mo_scoreOf_0 : fe M_mo_scoreOf 0 (.iconst 0) 1 1 := ⟨by decide +kernel, rfl⟩
theorem i_mo_scoreOf_1 : fe M_mo_scoreOf 1 (.istore 4) 2 3 := ⟨by decide +kernel, rfl⟩
theorem i_mo_scoreOf_3 : fe M_mo_scoreOf 3 (.iconst 0) 1 4 := ⟨by decide +kernel, rfl⟩
theorem i_mo_scoreOf_4 : fe M_mo_scoreOf 4 (.istore 5) 2 6 := ⟨by decide +kernel, rfl⟩
theorem i_mo_scoreOf_6 : fe M_mo_scoreOf 6 (.iconst 0) 1 7 := ⟨by decide +kernel, rfl⟩
theorem i_mo_scoreOf_7 : fe M_mo_scoreOf 7 (.istore 6) 2 9 := ⟨by decide +kernel, rfl⟩
theorem i_mo_scoreOf_9 : fe M_mo_scoreOf 9 (.iload 6) 2 11 := ⟨by decide +kernel, rfl⟩
theorem i_mo_scoreOf_11 : fe M_mo_scoreOf 11 (.bipush 64) 2 13 := ⟨by decide +kernel, rfl⟩
theorem i_mo_scoreOf_13 : fb M_mo_scoreOf 13 (.if_icmp .ge) 62 16 := ⟨49, by decide +kernel, by decide, rfl⟩
theorem i_mo_scoreOf_16 : fe M_mo_scoreOf 16 (.iload 4) 2 18 := ⟨by decide +kernel, rfl⟩
theorem i_mo_scoreOf_18 : fe M_mo_scoreOf 18 .i2l 1 19 := ⟨by decide +kernel, rfl⟩
theorem i_mo_scoreOf_19 : fe M_mo_scoreOf 19 (.lload_n 1) 1 20 := ⟨by decide +kernel, rfl⟩
theorem i_mo_scoreOf_20 : fe M_mo_scoreOf 20 (.aload_n 0) 1 21 := ⟨by decide +kernel, rfl⟩
theorem i_mo_scoreOf_21 : fe M_mo_scoreOf 21 (.getfield 7) 3 24 := ⟨by decide +kernel, rfl⟩
theorem i_mo_scoreOf_24 : fe M_mo_scoreOf 24 (.iload_n 3) 1 25 := ⟨by decide +kernel, rfl⟩
theorem i_mo_scoreOf_25 : fe M_mo_scoreOf 25 .laload 1 26 := ⟨by decide +kernel, rfl⟩
theorem i_mo_scoreOf_26 : fe M_mo_scoreOf 26 .land 1 27 := ⟨by decide +kernel, rfl⟩
theorem i_mo_scoreOf_27 : fe M_mo_scoreOf 27 (.iload 6) 2 29 := ⟨by decide +kernel, rfl⟩
theorem i_mo_scoreOf_29 : fe M_mo_scoreOf 29 .lshr 1 30 := ⟨by decide +kernel, rfl⟩
theorem i_mo_scoreOf_30 : fe M_mo_scoreOf 30 (.lconst 1) 1 31 := ⟨by decide +kernel, rfl⟩
theorem i_mo_scoreOf_31 : fe M_mo_scoreOf 31 .land 1 32 := ⟨by decide +kernel, rfl⟩
theorem i_mo_scoreOf_32 : fe M_mo_scoreOf 32 .ladd 1 33 := ⟨by decide +kernel, rfl⟩
theorem i_mo_scoreOf_33 : fe M_mo_scoreOf 33 .l2i 1 34 := ⟨by decide +kernel, rfl⟩
theorem i_mo_scoreOf_34 : fe M_mo_scoreOf 34 (.istore 4) 2 36 := ⟨by decide +kernel, rfl⟩
theorem i_mo_scoreOf_36 : fe M_mo_scoreOf 36 (.iload 5) 2 38 := ⟨by decide +kernel, rfl⟩
theorem i_mo_scoreOf_38 : fe M_mo_scoreOf 38 .i2l 1 39 := ⟨by decide +kernel, rfl⟩
theorem i_mo_scoreOf_39 : fe M_mo_scoreOf 39 (.lload_n 1) 1 40 := ⟨by decide +kernel, rfl⟩
theorem i_mo_scoreOf_40 : fe M_mo_scoreOf 40 (.aload_n 0) 1 41 := ⟨by decide +kernel, rfl⟩
theorem i_mo_scoreOf_41 : fe M_mo_scoreOf 41 (.getfield 7) 3 44 := ⟨by decide +kernel, rfl⟩
theorem i_mo_scoreOf_44 : fe M_mo_scoreOf 44 (.iload_n 3) 1 45 := ⟨by decide +kernel, rfl⟩
theorem i_mo_scoreOf_45 : fe M_mo_scoreOf 45 .laload 1 46 := ⟨by decide +kernel, rfl⟩
theorem i_mo_scoreOf_46 : fe M_mo_scoreOf 46 .lor 1 47 := ⟨by decide +kernel, rfl⟩
theorem i_mo_scoreOf_47 : fe M_mo_scoreOf 47 (.iload 6) 2 49 := ⟨by decide +kernel, rfl⟩
theorem i_mo_scoreOf_49 : fe M_mo_scoreOf 49 .lshr 1 50 := ⟨by decide +kernel, rfl⟩
theorem i_mo_scoreOf_50 : fe M_mo_scoreOf 50 (.lconst 1) 1 51 := ⟨by decide +kernel, rfl⟩
theorem i_mo_scoreOf_51 : fe M_mo_scoreOf 51 .land 1 52 := ⟨by decide +kernel, rfl⟩
theorem i_mo_scoreOf_52 : fe M_mo_scoreOf 52 .ladd 1 53 := ⟨by decide +kernel, rfl⟩
theorem i_mo_scoreOf_53 : fe M_mo_scoreOf 53 .l2i 1 54 := ⟨by decide +kernel, rfl⟩
theorem i_mo_scoreOf_54 : fe M_mo_scoreOf 54 (.istore 5) 2 56 := ⟨by decide +kernel, rfl⟩
theorem i_mo_scoreOf_56 : fe M_mo_scoreOf 56 (.iinc 6 1) 3 59 := ⟨by decide +kernel, rfl⟩
theorem i_mo_scoreOf_59 : fb M_mo_scoreOf 59 .goto 9 62 := ⟨-50, by decide +kernel, by decide, rfl⟩
theorem i_mo_scoreOf_62 : fe M_mo_scoreOf 62 (.iload 5) 2 64 := ⟨by decide +kernel, rfl⟩
theorem i_mo_scoreOf_64 : fb M_mo_scoreOf 64 (.ifCond .ne) 71 67 := ⟨7, by decide +kernel, by decide, rfl⟩
theorem i_mo_scoreOf_67 : fe M_mo_scoreOf 67 (.iconst 0) 1 68 := ⟨by decide +kernel, rfl⟩
theorem i_mo_scoreOf_68 : fb M_mo_scoreOf 68 .goto 79 71 := ⟨11, by decide +kernel, by decide, rfl⟩
theorem i_mo_scoreOf_71 : fe M_mo_scoreOf 71 (.bipush 100) 2 73 := ⟨by decide +kernel, rfl⟩
theorem i_mo_scoreOf_73 : fe M_mo_scoreOf 73 (.iload 4) 2 75 := ⟨by decide +kernel, rfl⟩
theorem i_mo_scoreOf_75 : fe M_mo_scoreOf 75 .imul 1 76 := ⟨by decide +kernel, rfl⟩
theorem i_mo_scoreOf_76 : fe M_mo_scoreOf 76 (.iload 5) 2 78 := ⟨by decide +kernel, rfl⟩
theorem i_mo_scoreOf_78 : fe M_mo_scoreOf 78 .idiv 1 79 := ⟨by decide +kernel, rfl⟩
theorem i_mo_scoreOf_79 : fe M_mo_scoreOf 79 .ireturn 1 80 := ⟨by decide +kernel, rfl⟩
theorem i_mo_score_0 : fe M_mo_score 0 (.aload_n 0) 1 1 := ⟨by decide +kernel, rfl⟩
theorem i_mo_score_1 : fe M_mo_score 1 (.iconst 0) 1 2 := ⟨by decide +kernel, rfl⟩
theorem i_mo_score_2 : fe M_mo_score 2 (.putfield 81) 3 5 := ⟨by decide +kernel, rfl⟩
theorem i_mo_score_5 : fe M_mo_score 5 (.aload_n 0) 1 6 := ⟨by decide +kernel, rfl⟩
theorem i_mo_score_6 : fe M_mo_score 6 (.iload_n 3) 1 7 := ⟨by decide +kernel, rfl⟩
theorem i_mo_score_7 : fe M_mo_score 7 (.invokevirtual 91) 3 10 := ⟨by decide +kernel, rfl⟩
theorem i_mo_score_10 : fb M_mo_score 10 (.ifCond .eq) 22 13 := ⟨12, by decide +kernel, by decide, rfl⟩
theorem i_mo_score_13 : fe M_mo_score 13 (.aload_n 0) 1 14 := ⟨by decide +kernel, rfl⟩
theorem i_mo_score_14 : fe M_mo_score 14 (.lload_n 1) 1 15 := ⟨by decide +kernel, rfl⟩
theorem i_mo_score_15 : fe M_mo_score 15 (.iload_n 3) 1 16 := ⟨by decide +kernel, rfl⟩
theorem i_mo_score_16 : fe M_mo_score 16 (.invokevirtual 176) 3 19 := ⟨by decide +kernel, rfl⟩
theorem i_mo_score_19 : fb M_mo_score 19 .goto 23 22 := ⟨4, by decide +kernel, by decide, rfl⟩
theorem i_mo_score_22 : fe M_mo_score 22 (.iconst (-1)) 1 23 := ⟨by decide +kernel, rfl⟩
theorem i_mo_score_23 : fe M_mo_score 23 .ireturn 1 24 := ⟨by decide +kernel, rfl⟩
theorem i_mo_found_0 : fe M_mo_found 0 (.aload_n 0) 1 1 := ⟨by decide +kernel, rfl⟩
theorem i_mo_found_1 : fe M_mo_found 1 (.iconst 0) 1 2 := ⟨by decide +kernel, rfl⟩
theorem i_mo_found_2 : fe M_mo_found 2 (.putfield 81) 3 5 := ⟨by decide +kernel, rfl⟩
theorem i_mo_found_5 : fe M_mo_found 5 (.bipush 60) 2 7 := ⟨by decide +kernel, rfl⟩
theorem i_mo_found_7 : fe M_mo_found 7 (.istore 4) 2 9 := ⟨by decide +kernel, rfl⟩
theorem i_mo_found_9 : fe M_mo_found 9 (.iconst 0) 1 10 := ⟨by decide +kernel, rfl⟩
theorem i_mo_found_10 : fe M_mo_found 10 (.istore 5) 2 12 := ⟨by decide +kernel, rfl⟩
theorem i_mo_found_12 : fe M_mo_found 12 (.iload 5) 2 14 := ⟨by decide +kernel, rfl⟩
theorem i_mo_found_14 : fe M_mo_found 14 (.aload_n 0) 1 15 := ⟨by decide +kernel, rfl⟩
theorem i_mo_found_15 : fe M_mo_found 15 (.getfield 85) 3 18 := ⟨by decide +kernel, rfl⟩
theorem i_mo_found_18 : fb M_mo_found 18 (.if_icmp .ge) 53 21 := ⟨35, by decide +kernel, by decide, rfl⟩
theorem i_mo_found_21 : fe M_mo_found 21 (.aload_n 0) 1 22 := ⟨by decide +kernel, rfl⟩
theorem i_mo_found_22 : fe M_mo_found 22 (.lload_n 1) 1 23 := ⟨by decide +kernel, rfl⟩
theorem i_mo_found_23 : fe M_mo_found 23 (.iload 5) 2 25 := ⟨by decide +kernel, rfl⟩
theorem i_mo_found_25 : fe M_mo_found 25 (.invokevirtual 176) 3 28 := ⟨by decide +kernel, rfl⟩
theorem i_mo_found_28 : fe M_mo_found 28 (.iload 4) 2 30 := ⟨by decide +kernel, rfl⟩
theorem i_mo_found_30 : fb M_mo_found 30 (.if_icmp .le) 43 33 := ⟨13, by decide +kernel, by decide, rfl⟩
theorem i_mo_found_33 : fe M_mo_found 33 (.aload_n 0) 1 34 := ⟨by decide +kernel, rfl⟩
theorem i_mo_found_34 : fe M_mo_found 34 (.lload_n 1) 1 35 := ⟨by decide +kernel, rfl⟩
theorem i_mo_found_35 : fe M_mo_found 35 (.iload 5) 2 37 := ⟨by decide +kernel, rfl⟩
theorem i_mo_found_37 : fe M_mo_found 37 (.invokevirtual 176) 3 40 := ⟨by decide +kernel, rfl⟩
theorem i_mo_found_40 : fb M_mo_found 40 .goto 45 43 := ⟨5, by decide +kernel, by decide, rfl⟩
theorem i_mo_found_43 : fe M_mo_found 43 (.iload 4) 2 45 := ⟨by decide +kernel, rfl⟩
theorem i_mo_found_45 : fe M_mo_found 45 (.istore 4) 2 47 := ⟨by decide +kernel, rfl⟩
theorem i_mo_found_47 : fe M_mo_found 47 (.iinc 5 1) 3 50 := ⟨by decide +kernel, rfl⟩
theorem i_mo_found_50 : fb M_mo_found 50 .goto 12 53 := ⟨-38, by decide +kernel, by decide, rfl⟩
theorem i_mo_found_53 : fe M_mo_found 53 (.iload_n 3) 1 54 := ⟨by decide +kernel, rfl⟩
theorem i_mo_found_54 : fe M_mo_found 54 (.istore 5) 2 56 := ⟨by decide +kernel, rfl⟩
theorem i_mo_found_56 : fe M_mo_found 56 (.iconst 0) 1 57 := ⟨by decide +kernel, rfl⟩
theorem i_mo_found_57 : fe M_mo_found 57 (.istore 6) 2 59 := ⟨by decide +kernel, rfl⟩
theorem i_mo_found_59 : fe M_mo_found 59 (.iload 6) 2 61 := ⟨by decide +kernel, rfl⟩
theorem i_mo_found_61 : fe M_mo_found 61 (.aload_n 0) 1 62 := ⟨by decide +kernel, rfl⟩
theorem i_mo_found_62 : fe M_mo_found 62 (.getfield 85) 3 65 := ⟨by decide +kernel, rfl⟩
theorem i_mo_found_65 : fb M_mo_found 65 (.if_icmp .ge) 109 68 := ⟨44, by decide +kernel, by decide, rfl⟩
theorem i_mo_found_68 : fe M_mo_found 68 (.iload_n 3) 1 69 := ⟨by decide +kernel, rfl⟩
theorem i_mo_found_69 : fb M_mo_found 69 (.ifCond .eq) 77 72 := ⟨8, by decide +kernel, by decide, rfl⟩
theorem i_mo_found_72 : fe M_mo_found 72 (.iload_n 3) 1 73 := ⟨by decide +kernel, rfl⟩
theorem i_mo_found_73 : fe M_mo_found 73 (.iconst 1) 1 74 := ⟨by decide +kernel, rfl⟩
theorem i_mo_found_74 : fb M_mo_found 74 (.if_icmp .ne) 109 77 := ⟨35, by decide +kernel, by decide, rfl⟩
theorem i_mo_found_77 : fe M_mo_found 77 (.aload_n 0) 1 78 := ⟨by decide +kernel, rfl⟩
theorem i_mo_found_78 : fe M_mo_found 78 (.lload_n 1) 1 79 := ⟨by decide +kernel, rfl⟩
theorem i_mo_found_79 : fe M_mo_found 79 (.iload 6) 2 81 := ⟨by decide +kernel, rfl⟩
theorem i_mo_found_81 : fe M_mo_found 81 (.invokevirtual 176) 3 84 := ⟨by decide +kernel, rfl⟩
theorem i_mo_found_84 : fe M_mo_found 84 (.iload 4) 2 86 := ⟨by decide +kernel, rfl⟩
theorem i_mo_found_86 : fb M_mo_found 86 (.if_icmp .eq) 92 89 := ⟨6, by decide +kernel, by decide, rfl⟩
theorem i_mo_found_89 : fb M_mo_found 89 .goto 103 92 := ⟨14, by decide +kernel, by decide, rfl⟩
theorem i_mo_found_92 : fe M_mo_found 92 (.iload 5) 2 94 := ⟨by decide +kernel, rfl⟩
theorem i_mo_found_94 : fb M_mo_found 94 (.ifCond .ne) 100 97 := ⟨6, by decide +kernel, by decide, rfl⟩
theorem i_mo_found_97 : fe M_mo_found 97 (.iload 6) 2 99 := ⟨by decide +kernel, rfl⟩
theorem i_mo_found_99 : fe M_mo_found 99 .ireturn 1 100 := ⟨by decide +kernel, rfl⟩
theorem i_mo_found_100 : fe M_mo_found 100 (.iinc 5 (-1)) 3 103 := ⟨by decide +kernel, rfl⟩
theorem i_mo_found_103 : fe M_mo_found 103 (.iinc 6 1) 3 106 := ⟨by decide +kernel, rfl⟩
theorem i_mo_found_106 : fb M_mo_found 106 .goto 59 109 := ⟨-47, by decide +kernel, by decide, rfl⟩
theorem i_mo_found_109 : fe M_mo_found 109 (.iconst (-1)) 1 110 := ⟨by decide +kernel, rfl⟩
theorem i_mo_found_110 : fe M_mo_found 110 .ireturn 1 111 := ⟨by decide +kernel, rfl⟩
end
section
theorem i_law_0 {X : ev_X} : fe (M_law X) 0 (.new 7) 3 3 := ⟨by show decode code 0 = _; decide +kernel, rfl⟩
theorem i_law_3 {X : ev_X} : fe (M_law X) 3 .dup 1 4 := ⟨by show decode code 3 = _; decide +kernel, rfl⟩
theorem i_law_4 {X : ev_X} : fe (M_law X) 4 (.invokespecial 9) 3 7 := ⟨by show decode code 4 = _; decide +kernel, rfl⟩
theorem i_law_7 {X : ev_X} : fe (M_law X) 7 (.astore_n 1) 1 8 := ⟨by show decode code 7 = _; decide +kernel, rfl⟩
theorem i_law_8 {X : ev_X} : fe (M_law X) 8 (.new 10) 3 11 := ⟨by show decode code 8 = _; decide +kernel, rfl⟩
theorem i_law_11 {X : ev_X} : fe (M_law X) 11 .dup 1 12 := ⟨by show decode code 11 = _; decide +kernel, rfl⟩
theorem i_law_12 {X : ev_X} : fe (M_law X) 12 (.invokespecial 12) 3 15 := ⟨by show decode code 12 = _; decide +kernel, rfl⟩
theorem i_law_15 {X : ev_X} : fe (M_law X) 15 (.astore_n 2) 1 16 := ⟨by show decode code 15 = _; decide +kernel, rfl⟩
theorem i_law_16 {X : ev_X} : fe (M_law X) 16 (.iconst 0) 1 17 := ⟨by show decode code 16 = _; decide +kernel, rfl⟩
theorem i_law_17 {X : ev_X} : fe (M_law X) 17 (.istore_n 3) 1 18 := ⟨by show decode code 17 = _; decide +kernel, rfl⟩
theorem i_law_18 {X : ev_X} : fe (M_law X) 18 (.iload_n 3) 1 19 := ⟨by show decode code 18 = _; decide +kernel, rfl⟩
theorem i_law_19 {X : ev_X} : fe (M_law X) 19 (.aload_n 0) 1 20 := ⟨by show decode code 19 = _; decide +kernel, rfl⟩
theorem i_law_20 {X : ev_X} : fe (M_law X) 20 .arraylength 1 21 := ⟨by show decode code 20 = _; decide +kernel, rfl⟩
theorem i_law_21 {X : ev_X} : fe (M_law X) 21 (.iconst 5) 1 22 := ⟨by show decode code 21 = _; decide +kernel, rfl⟩
theorem i_law_22 {X : ev_X} : fe (M_law X) 22 .isub 1 23 := ⟨by show decode code 22 = _; decide +kernel, rfl⟩
theorem i_law_23 {X : ev_X} : fb (M_law X) 23 (.if_icmp .gt) 815 26 := ⟨792, by show decode code 23 = _; decide +kernel, by decide, rfl⟩
theorem i_law_26 {X : ev_X} : fe (M_law X) 26 (.aload_n 0) 1 27 := ⟨by show decode code 26 = _; decide +kernel, rfl⟩
theorem i_law_27 {X : ev_X} : fe (M_law X) 27 (.iload_n 3) 1 28 := ⟨by show decode code 27 = _; decide +kernel, rfl⟩
theorem i_law_28 {X : ev_X} : fe (M_law X) 28 .iaload 1 29 := ⟨by show decode code 28 = _; decide +kernel, rfl⟩
theorem i_law_29 {X : ev_X} : fe (M_law X) 29 (.bipush 31) 2 31 := ⟨by show decode code 29 = _; decide +kernel, rfl⟩
theorem i_law_31 {X : ev_X} : fe (M_law X) 31 .iand 1 32 := ⟨by show decode code 31 = _; decide +kernel, rfl⟩
theorem i_law_32 {X : ev_X} : decode (M_law X).2.1 32 = .ok (.tableswitch 777 0 18 #[92, 145, 198, 257, 282, 295, 318, 341, 384, 417, 450, 493, 526, 549, 582, 615, 628, 651, 714], 92) := by show decode code 32 = _; decide +kernel
theorem i_law_124 {X : ev_X} : fe (M_law X) 124 (.aload_n 1) 1 125 := ⟨by show decode code 124 = _; decide +kernel, rfl⟩
theorem i_law_125 {X : ev_X} : fe (M_law X) 125 (.aload_n 0) 1 126 := ⟨by show decode code 125 = _; decide +kernel, rfl⟩
theorem i_law_126 {X : ev_X} : fe (M_law X) 126 (.iload_n 3) 1 127 := ⟨by show decode code 126 = _; decide +kernel, rfl⟩
theorem i_law_127 {X : ev_X} : fe (M_law X) 127 (.iconst 1) 1 128 := ⟨by show decode code 127 = _; decide +kernel, rfl⟩
theorem i_law_128 {X : ev_X} : fe (M_law X) 128 .iadd 1 129 := ⟨by show decode code 128 = _; decide +kernel, rfl⟩
theorem i_law_129 {X : ev_X} : fe (M_law X) 129 .iaload 1 130 := ⟨by show decode code 129 = _; decide +kernel, rfl⟩
theorem i_law_130 {X : ev_X} : fe (M_law X) 130 .i2l 1 131 := ⟨by show decode code 130 = _; decide +kernel, rfl⟩
theorem i_law_131 {X : ev_X} : fe (M_law X) 131 (.bipush 32) 2 133 := ⟨by show decode code 131 = _; decide +kernel, rfl⟩
theorem i_law_133 {X : ev_X} : fe (M_law X) 133 .lshl 1 134 := ⟨by show decode code 133 = _; decide +kernel, rfl⟩
theorem i_law_134 {X : ev_X} : fe (M_law X) 134 (.aload_n 0) 1 135 := ⟨by show decode code 134 = _; decide +kernel, rfl⟩
theorem i_law_135 {X : ev_X} : fe (M_law X) 135 (.iload_n 3) 1 136 := ⟨by show decode code 135 = _; decide +kernel, rfl⟩
theorem i_law_136 {X : ev_X} : fe (M_law X) 136 (.iconst 2) 1 137 := ⟨by show decode code 136 = _; decide +kernel, rfl⟩
theorem i_law_137 {X : ev_X} : fe (M_law X) 137 .iadd 1 138 := ⟨by show decode code 137 = _; decide +kernel, rfl⟩
theorem i_law_138 {X : ev_X} : fe (M_law X) 138 .iaload 1 139 := ⟨by show decode code 138 = _; decide +kernel, rfl⟩
theorem i_law_139 {X : ev_X} : fe (M_law X) 139 .i2l 1 140 := ⟨by show decode code 139 = _; decide +kernel, rfl⟩
theorem i_law_140 {X : ev_X} : fe (M_law X) 140 (.ldc2_w 13) 3 143 := ⟨by show decode code 140 = _; decide +kernel, rfl⟩
theorem i_law_143 {X : ev_X} : fe (M_law X) 143 .land 1 144 := ⟨by show decode code 143 = _; decide +kernel, rfl⟩
theorem i_law_144 {X : ev_X} : fe (M_law X) 144 .lor 1 145 := ⟨by show decode code 144 = _; decide +kernel, rfl⟩
theorem i_law_145 {X : ev_X} : fe (M_law X) 145 (.invokevirtual 15) 3 148 := ⟨by show decode code 145 = _; decide +kernel, rfl⟩
theorem i_law_148 {X : ev_X} : fe (M_law X) 148 (.aload_n 2) 1 149 := ⟨by show decode code 148 = _; decide +kernel, rfl⟩
theorem i_law_149 {X : ev_X} : fe (M_law X) 149 (.aload_n 0) 1 150 := ⟨by show decode code 149 = _; decide +kernel, rfl⟩
theorem i_law_150 {X : ev_X} : fe (M_law X) 150 (.iload_n 3) 1 151 := ⟨by show decode code 150 = _; decide +kernel, rfl⟩
theorem i_law_151 {X : ev_X} : fe (M_law X) 151 (.iconst 1) 1 152 := ⟨by show decode code 151 = _; decide +kernel, rfl⟩
theorem i_law_152 {X : ev_X} : fe (M_law X) 152 .iadd 1 153 := ⟨by show decode code 152 = _; decide +kernel, rfl⟩
theorem i_law_153 {X : ev_X} : fe (M_law X) 153 .iaload 1 154 := ⟨by show decode code 153 = _; decide +kernel, rfl⟩
theorem i_law_154 {X : ev_X} : fe (M_law X) 154 .i2l 1 155 := ⟨by show decode code 154 = _; decide +kernel, rfl⟩
theorem i_law_155 {X : ev_X} : fe (M_law X) 155 (.bipush 32) 2 157 := ⟨by show decode code 155 = _; decide +kernel, rfl⟩
theorem i_law_157 {X : ev_X} : fe (M_law X) 157 .lshl 1 158 := ⟨by show decode code 157 = _; decide +kernel, rfl⟩
theorem i_law_158 {X : ev_X} : fe (M_law X) 158 (.aload_n 0) 1 159 := ⟨by show decode code 158 = _; decide +kernel, rfl⟩
theorem i_law_159 {X : ev_X} : fe (M_law X) 159 (.iload_n 3) 1 160 := ⟨by show decode code 159 = _; decide +kernel, rfl⟩
theorem i_law_160 {X : ev_X} : fe (M_law X) 160 (.iconst 2) 1 161 := ⟨by show decode code 160 = _; decide +kernel, rfl⟩
theorem i_law_161 {X : ev_X} : fe (M_law X) 161 .iadd 1 162 := ⟨by show decode code 161 = _; decide +kernel, rfl⟩
theorem i_law_162 {X : ev_X} : fe (M_law X) 162 .iaload 1 163 := ⟨by show decode code 162 = _; decide +kernel, rfl⟩
theorem i_law_163 {X : ev_X} : fe (M_law X) 163 .i2l 1 164 := ⟨by show decode code 163 = _; decide +kernel, rfl⟩
theorem i_law_164 {X : ev_X} : fe (M_law X) 164 (.ldc2_w 13) 3 167 := ⟨by show decode code 164 = _; decide +kernel, rfl⟩
theorem i_law_167 {X : ev_X} : fe (M_law X) 167 .land 1 168 := ⟨by show decode code 167 = _; decide +kernel, rfl⟩
theorem i_law_168 {X : ev_X} : fe (M_law X) 168 .lor 1 169 := ⟨by show decode code 168 = _; decide +kernel, rfl⟩
theorem i_law_169 {X : ev_X} : fe (M_law X) 169 (.invokevirtual 19) 3 172 := ⟨by show decode code 169 = _; decide +kernel, rfl⟩
theorem i_law_172 {X : ev_X} : fb (M_law X) 172 (.if_icmp .eq) 809 175 := ⟨637, by show decode code 172 = _; decide +kernel, by decide, rfl⟩
theorem i_law_175 {X : ev_X} : fe (M_law X) 175 (.iconst 0) 1 176 := ⟨by show decode code 175 = _; decide +kernel, rfl⟩
theorem i_law_176 {X : ev_X} : fe (M_law X) 176 .ireturn 1 177 := ⟨by show decode code 176 = _; decide +kernel, rfl⟩
theorem i_law_177 {X : ev_X} : fe (M_law X) 177 (.aload_n 1) 1 178 := ⟨by show decode code 177 = _; decide +kernel, rfl⟩
theorem i_law_178 {X : ev_X} : fe (M_law X) 178 (.aload_n 0) 1 179 := ⟨by show decode code 178 = _; decide +kernel, rfl⟩
theorem i_law_179 {X : ev_X} : fe (M_law X) 179 (.iload_n 3) 1 180 := ⟨by show decode code 179 = _; decide +kernel, rfl⟩
theorem i_law_180 {X : ev_X} : fe (M_law X) 180 (.iconst 1) 1 181 := ⟨by show decode code 180 = _; decide +kernel, rfl⟩
theorem i_law_181 {X : ev_X} : fe (M_law X) 181 .iadd 1 182 := ⟨by show decode code 181 = _; decide +kernel, rfl⟩
theorem i_law_182 {X : ev_X} : fe (M_law X) 182 .iaload 1 183 := ⟨by show decode code 182 = _; decide +kernel, rfl⟩
theorem i_law_183 {X : ev_X} : fe (M_law X) 183 (.aload_n 0) 1 184 := ⟨by show decode code 183 = _; decide +kernel, rfl⟩
theorem i_law_184 {X : ev_X} : fe (M_law X) 184 (.iload_n 3) 1 185 := ⟨by show decode code 184 = _; decide +kernel, rfl⟩
theorem i_law_185 {X : ev_X} : fe (M_law X) 185 (.iconst 2) 1 186 := ⟨by show decode code 185 = _; decide +kernel, rfl⟩
theorem i_law_186 {X : ev_X} : fe (M_law X) 186 .iadd 1 187 := ⟨by show decode code 186 = _; decide +kernel, rfl⟩
theorem i_law_187 {X : ev_X} : fe (M_law X) 187 .iaload 1 188 := ⟨by show decode code 187 = _; decide +kernel, rfl⟩
theorem i_law_188 {X : ev_X} : fe (M_law X) 188 (.aload_n 0) 1 189 := ⟨by show decode code 188 = _; decide +kernel, rfl⟩
theorem i_law_189 {X : ev_X} : fe (M_law X) 189 (.iload_n 3) 1 190 := ⟨by show decode code 189 = _; decide +kernel, rfl⟩
theorem i_law_190 {X : ev_X} : fe (M_law X) 190 (.iconst 3) 1 191 := ⟨by show decode code 190 = _; decide +kernel, rfl⟩
theorem i_law_191 {X : ev_X} : fe (M_law X) 191 .iadd 1 192 := ⟨by show decode code 191 = _; decide +kernel, rfl⟩
theorem i_law_192 {X : ev_X} : fe (M_law X) 192 .iaload 1 193 := ⟨by show decode code 192 = _; decide +kernel, rfl⟩
theorem i_law_193 {X : ev_X} : fe (M_law X) 193 (.aload_n 0) 1 194 := ⟨by show decode code 193 = _; decide +kernel, rfl⟩
theorem i_law_194 {X : ev_X} : fe (M_law X) 194 (.iload_n 3) 1 195 := ⟨by show decode code 194 = _; decide +kernel, rfl⟩
theorem i_law_195 {X : ev_X} : fe (M_law X) 195 (.iconst 4) 1 196 := ⟨by show decode code 195 = _; decide +kernel, rfl⟩
theorem i_law_196 {X : ev_X} : fe (M_law X) 196 .iadd 1 197 := ⟨by show decode code 196 = _; decide +kernel, rfl⟩
theorem i_law_197 {X : ev_X} : fe (M_law X) 197 .iaload 1 198 := ⟨by show decode code 197 = _; decide +kernel, rfl⟩
theorem i_law_198 {X : ev_X} : fe (M_law X) 198 (.invokevirtual 20) 3 201 := ⟨by show decode code 198 = _; decide +kernel, rfl⟩
theorem i_law_201 {X : ev_X} : fe (M_law X) 201 (.aload_n 2) 1 202 := ⟨by show decode code 201 = _; decide +kernel, rfl⟩
theorem i_law_202 {X : ev_X} : fe (M_law X) 202 (.aload_n 0) 1 203 := ⟨by show decode code 202 = _; decide +kernel, rfl⟩
theorem i_law_203 {X : ev_X} : fe (M_law X) 203 (.iload_n 3) 1 204 := ⟨by show decode code 203 = _; decide +kernel, rfl⟩
theorem i_law_204 {X : ev_X} : fe (M_law X) 204 (.iconst 1) 1 205 := ⟨by show decode code 204 = _; decide +kernel, rfl⟩
theorem i_law_205 {X : ev_X} : fe (M_law X) 205 .iadd 1 206 := ⟨by show decode code 205 = _; decide +kernel, rfl⟩
theorem i_law_206 {X : ev_X} : fe (M_law X) 206 .iaload 1 207 := ⟨by show decode code 206 = _; decide +kernel, rfl⟩
theorem i_law_207 {X : ev_X} : fe (M_law X) 207 (.aload_n 0) 1 208 := ⟨by show decode code 207 = _; decide +kernel, rfl⟩
theorem i_law_208 {X : ev_X} : fe (M_law X) 208 (.iload_n 3) 1 209 := ⟨by show decode code 208 = _; decide +kernel, rfl⟩
theorem i_law_209 {X : ev_X} : fe (M_law X) 209 (.iconst 2) 1 210 := ⟨by show decode code 209 = _; decide +kernel, rfl⟩
theorem i_law_210 {X : ev_X} : fe (M_law X) 210 .iadd 1 211 := ⟨by show decode code 210 = _; decide +kernel, rfl⟩
theorem i_law_211 {X : ev_X} : fe (M_law X) 211 .iaload 1 212 := ⟨by show decode code 211 = _; decide +kernel, rfl⟩
theorem i_law_212 {X : ev_X} : fe (M_law X) 212 (.aload_n 0) 1 213 := ⟨by show decode code 212 = _; decide +kernel, rfl⟩
theorem i_law_213 {X : ev_X} : fe (M_law X) 213 (.iload_n 3) 1 214 := ⟨by show decode code 213 = _; decide +kernel, rfl⟩
theorem i_law_214 {X : ev_X} : fe (M_law X) 214 (.iconst 3) 1 215 := ⟨by show decode code 214 = _; decide +kernel, rfl⟩
theorem i_law_215 {X : ev_X} : fe (M_law X) 215 .iadd 1 216 := ⟨by show decode code 215 = _; decide +kernel, rfl⟩
theorem i_law_216 {X : ev_X} : fe (M_law X) 216 .iaload 1 217 := ⟨by show decode code 216 = _; decide +kernel, rfl⟩
theorem i_law_217 {X : ev_X} : fe (M_law X) 217 (.aload_n 0) 1 218 := ⟨by show decode code 217 = _; decide +kernel, rfl⟩
theorem i_law_218 {X : ev_X} : fe (M_law X) 218 (.iload_n 3) 1 219 := ⟨by show decode code 218 = _; decide +kernel, rfl⟩
theorem i_law_219 {X : ev_X} : fe (M_law X) 219 (.iconst 4) 1 220 := ⟨by show decode code 219 = _; decide +kernel, rfl⟩
theorem i_law_220 {X : ev_X} : fe (M_law X) 220 .iadd 1 221 := ⟨by show decode code 220 = _; decide +kernel, rfl⟩
theorem i_law_221 {X : ev_X} : fe (M_law X) 221 .iaload 1 222 := ⟨by show decode code 221 = _; decide +kernel, rfl⟩
theorem i_law_222 {X : ev_X} : fe (M_law X) 222 (.invokevirtual 24) 3 225 := ⟨by show decode code 222 = _; decide +kernel, rfl⟩
theorem i_law_225 {X : ev_X} : fb (M_law X) 225 (.if_icmp .eq) 809 228 := ⟨584, by show decode code 225 = _; decide +kernel, by decide, rfl⟩
theorem i_law_228 {X : ev_X} : fe (M_law X) 228 (.iconst 0) 1 229 := ⟨by show decode code 228 = _; decide +kernel, rfl⟩
theorem i_law_229 {X : ev_X} : fe (M_law X) 229 .ireturn 1 230 := ⟨by show decode code 229 = _; decide +kernel, rfl⟩
theorem i_law_230 {X : ev_X} : fe (M_law X) 230 (.aload_n 1) 1 231 := ⟨by show decode code 230 = _; decide +kernel, rfl⟩
theorem i_law_231 {X : ev_X} : fe (M_law X) 231 (.aload_n 0) 1 232 := ⟨by show decode code 231 = _; decide +kernel, rfl⟩
theorem i_law_232 {X : ev_X} : fe (M_law X) 232 (.iload_n 3) 1 233 := ⟨by show decode code 232 = _; decide +kernel, rfl⟩
theorem i_law_233 {X : ev_X} : fe (M_law X) 233 (.iconst 1) 1 234 := ⟨by show decode code 233 = _; decide +kernel, rfl⟩
theorem i_law_234 {X : ev_X} : fe (M_law X) 234 .iadd 1 235 := ⟨by show decode code 234 = _; decide +kernel, rfl⟩
theorem i_law_235 {X : ev_X} : fe (M_law X) 235 .iaload 1 236 := ⟨by show decode code 235 = _; decide +kernel, rfl⟩
theorem i_law_236 {X : ev_X} : fe (M_law X) 236 (.aload_n 0) 1 237 := ⟨by show decode code 236 = _; decide +kernel, rfl⟩
theorem i_law_237 {X : ev_X} : fe (M_law X) 237 (.iload_n 3) 1 238 := ⟨by show decode code 237 = _; decide +kernel, rfl⟩
theorem i_law_238 {X : ev_X} : fe (M_law X) 238 (.iconst 2) 1 239 := ⟨by show decode code 238 = _; decide +kernel, rfl⟩
theorem i_law_239 {X : ev_X} : fe (M_law X) 239 .iadd 1 240 := ⟨by show decode code 239 = _; decide +kernel, rfl⟩
theorem i_law_240 {X : ev_X} : fe (M_law X) 240 .iaload 1 241 := ⟨by show decode code 240 = _; decide +kernel, rfl⟩
theorem i_law_241 {X : ev_X} : fe (M_law X) 241 (.aload_n 0) 1 242 := ⟨by show decode code 241 = _; decide +kernel, rfl⟩
theorem i_law_242 {X : ev_X} : fe (M_law X) 242 (.iload_n 3) 1 243 := ⟨by show decode code 242 = _; decide +kernel, rfl⟩
theorem i_law_243 {X : ev_X} : fe (M_law X) 243 (.iconst 3) 1 244 := ⟨by show decode code 243 = _; decide +kernel, rfl⟩
theorem i_law_244 {X : ev_X} : fe (M_law X) 244 .iadd 1 245 := ⟨by show decode code 244 = _; decide +kernel, rfl⟩
theorem i_law_245 {X : ev_X} : fe (M_law X) 245 .iaload 1 246 := ⟨by show decode code 245 = _; decide +kernel, rfl⟩
theorem i_law_246 {X : ev_X} : fb (M_law X) 246 (.ifCond .eq) 253 249 := ⟨7, by show decode code 246 = _; decide +kernel, by decide, rfl⟩
theorem i_law_249 {X : ev_X} : fe (M_law X) 249 (.iconst 1) 1 250 := ⟨by show decode code 249 = _; decide +kernel, rfl⟩
theorem i_law_250 {X : ev_X} : fb (M_law X) 250 .goto 254 253 := ⟨4, by show decode code 250 = _; decide +kernel, by decide, rfl⟩
theorem i_law_253 {X : ev_X} : fe (M_law X) 253 (.iconst 0) 1 254 := ⟨by show decode code 253 = _; decide +kernel, rfl⟩
theorem i_law_254 {X : ev_X} : fe (M_law X) 254 (.invokevirtual 25) 3 257 := ⟨by show decode code 254 = _; decide +kernel, rfl⟩
theorem i_law_257 {X : ev_X} : fe (M_law X) 257 (.aload_n 2) 1 258 := ⟨by show decode code 257 = _; decide +kernel, rfl⟩
theorem i_law_258 {X : ev_X} : fe (M_law X) 258 (.aload_n 0) 1 259 := ⟨by show decode code 258 = _; decide +kernel, rfl⟩
theorem i_law_259 {X : ev_X} : fe (M_law X) 259 (.iload_n 3) 1 260 := ⟨by show decode code 259 = _; decide +kernel, rfl⟩
theorem i_law_260 {X : ev_X} : fe (M_law X) 260 (.iconst 1) 1 261 := ⟨by show decode code 260 = _; decide +kernel, rfl⟩
theorem i_law_261 {X : ev_X} : fe (M_law X) 261 .iadd 1 262 := ⟨by show decode code 261 = _; decide +kernel, rfl⟩
theorem i_law_262 {X : ev_X} : fe (M_law X) 262 .iaload 1 263 := ⟨by show decode code 262 = _; decide +kernel, rfl⟩
theorem i_law_263 {X : ev_X} : fe (M_law X) 263 (.aload_n 0) 1 264 := ⟨by show decode code 263 = _; decide +kernel, rfl⟩
theorem i_law_264 {X : ev_X} : fe (M_law X) 264 (.iload_n 3) 1 265 := ⟨by show decode code 264 = _; decide +kernel, rfl⟩
theorem i_law_265 {X : ev_X} : fe (M_law X) 265 (.iconst 2) 1 266 := ⟨by show decode code 265 = _; decide +kernel, rfl⟩
theorem i_law_266 {X : ev_X} : fe (M_law X) 266 .iadd 1 267 := ⟨by show decode code 266 = _; decide +kernel, rfl⟩
theorem i_law_267 {X : ev_X} : fe (M_law X) 267 .iaload 1 268 := ⟨by show decode code 267 = _; decide +kernel, rfl⟩
theorem i_law_268 {X : ev_X} : fe (M_law X) 268 (.aload_n 0) 1 269 := ⟨by show decode code 268 = _; decide +kernel, rfl⟩
theorem i_law_269 {X : ev_X} : fe (M_law X) 269 (.iload_n 3) 1 270 := ⟨by show decode code 269 = _; decide +kernel, rfl⟩
theorem i_law_270 {X : ev_X} : fe (M_law X) 270 (.iconst 3) 1 271 := ⟨by show decode code 270 = _; decide +kernel, rfl⟩
theorem i_law_271 {X : ev_X} : fe (M_law X) 271 .iadd 1 272 := ⟨by show decode code 271 = _; decide +kernel, rfl⟩
theorem i_law_272 {X : ev_X} : fe (M_law X) 272 .iaload 1 273 := ⟨by show decode code 272 = _; decide +kernel, rfl⟩
theorem i_law_273 {X : ev_X} : fb (M_law X) 273 (.ifCond .eq) 280 276 := ⟨7, by show decode code 273 = _; decide +kernel, by decide, rfl⟩
theorem i_law_276 {X : ev_X} : fe (M_law X) 276 (.iconst 1) 1 277 := ⟨by show decode code 276 = _; decide +kernel, rfl⟩
theorem i_law_277 {X : ev_X} : fb (M_law X) 277 .goto 281 280 := ⟨4, by show decode code 277 = _; decide +kernel, by decide, rfl⟩
theorem i_law_280 {X : ev_X} : fe (M_law X) 280 (.iconst 0) 1 281 := ⟨by show decode code 280 = _; decide +kernel, rfl⟩
theorem i_law_281 {X : ev_X} : fe (M_law X) 281 (.invokevirtual 29) 3 284 := ⟨by show decode code 281 = _; decide +kernel, rfl⟩
theorem i_law_284 {X : ev_X} : fb (M_law X) 284 (.if_icmp .eq) 809 287 := ⟨525, by show decode code 284 = _; decide +kernel, by decide, rfl⟩
theorem i_law_287 {X : ev_X} : fe (M_law X) 287 (.iconst 0) 1 288 := ⟨by show decode code 287 = _; decide +kernel, rfl⟩
theorem i_law_288 {X : ev_X} : fe (M_law X) 288 .ireturn 1 289 := ⟨by show decode code 288 = _; decide +kernel, rfl⟩
theorem i_law_289 {X : ev_X} : fe (M_law X) 289 (.aload_n 1) 1 290 := ⟨by show decode code 289 = _; decide +kernel, rfl⟩
theorem i_law_290 {X : ev_X} : fe (M_law X) 290 (.aload_n 0) 1 291 := ⟨by show decode code 290 = _; decide +kernel, rfl⟩
theorem i_law_291 {X : ev_X} : fe (M_law X) 291 (.iload_n 3) 1 292 := ⟨by show decode code 291 = _; decide +kernel, rfl⟩
theorem i_law_292 {X : ev_X} : fe (M_law X) 292 (.iconst 1) 1 293 := ⟨by show decode code 292 = _; decide +kernel, rfl⟩
theorem i_law_293 {X : ev_X} : fe (M_law X) 293 .iadd 1 294 := ⟨by show decode code 293 = _; decide +kernel, rfl⟩
theorem i_law_294 {X : ev_X} : fe (M_law X) 294 .iaload 1 295 := ⟨by show decode code 294 = _; decide +kernel, rfl⟩
theorem i_law_295 {X : ev_X} : fe (M_law X) 295 .i2c 1 296 := ⟨by show decode code 295 = _; decide +kernel, rfl⟩
theorem i_law_296 {X : ev_X} : fe (M_law X) 296 (.invokevirtual 30) 3 299 := ⟨by show decode code 296 = _; decide +kernel, rfl⟩
theorem i_law_299 {X : ev_X} : fe (M_law X) 299 (.aload_n 2) 1 300 := ⟨by show decode code 299 = _; decide +kernel, rfl⟩
theorem i_law_300 {X : ev_X} : fe (M_law X) 300 (.aload_n 0) 1 301 := ⟨by show decode code 300 = _; decide +kernel, rfl⟩
theorem i_law_301 {X : ev_X} : fe (M_law X) 301 (.iload_n 3) 1 302 := ⟨by show decode code 301 = _; decide +kernel, rfl⟩
theorem i_law_302 {X : ev_X} : fe (M_law X) 302 (.iconst 1) 1 303 := ⟨by show decode code 302 = _; decide +kernel, rfl⟩
theorem i_law_303 {X : ev_X} : fe (M_law X) 303 .iadd 1 304 := ⟨by show decode code 303 = _; decide +kernel, rfl⟩
theorem i_law_304 {X : ev_X} : fe (M_law X) 304 .iaload 1 305 := ⟨by show decode code 304 = _; decide +kernel, rfl⟩
theorem i_law_305 {X : ev_X} : fe (M_law X) 305 .i2c 1 306 := ⟨by show decode code 305 = _; decide +kernel, rfl⟩
theorem i_law_306 {X : ev_X} : fe (M_law X) 306 (.invokevirtual 34) 3 309 := ⟨by show decode code 306 = _; decide +kernel, rfl⟩
theorem i_law_309 {X : ev_X} : fb (M_law X) 309 (.if_icmp .eq) 809 312 := ⟨500, by show decode code 309 = _; decide +kernel, by decide, rfl⟩
theorem i_law_312 {X : ev_X} : fe (M_law X) 312 (.iconst 0) 1 313 := ⟨by show decode code 312 = _; decide +kernel, rfl⟩
theorem i_law_313 {X : ev_X} : fe (M_law X) 313 .ireturn 1 314 := ⟨by show decode code 313 = _; decide +kernel, rfl⟩
theorem i_law_314 {X : ev_X} : fe (M_law X) 314 (.aload_n 1) 1 315 := ⟨by show decode code 314 = _; decide +kernel, rfl⟩
theorem i_law_315 {X : ev_X} : fe (M_law X) 315 (.invokevirtual 35) 3 318 := ⟨by show decode code 315 = _; decide +kernel, rfl⟩
theorem i_law_318 {X : ev_X} : fe (M_law X) 318 (.aload_n 2) 1 319 := ⟨by show decode code 318 = _; decide +kernel, rfl⟩
theorem i_law_319 {X : ev_X} : fe (M_law X) 319 (.invokevirtual 39) 3 322 := ⟨by show decode code 319 = _; decide +kernel, rfl⟩
theorem i_law_322 {X : ev_X} : fb (M_law X) 322 (.if_icmp .eq) 809 325 := ⟨487, by show decode code 322 = _; decide +kernel, by decide, rfl⟩
theorem i_law_325 {X : ev_X} : fe (M_law X) 325 (.iconst 0) 1 326 := ⟨by show decode code 325 = _; decide +kernel, rfl⟩
theorem i_law_326 {X : ev_X} : fe (M_law X) 326 .ireturn 1 327 := ⟨by show decode code 326 = _; decide +kernel, rfl⟩
theorem i_law_327 {X : ev_X} : fe (M_law X) 327 (.aload_n 1) 1 328 := ⟨by show decode code 327 = _; decide +kernel, rfl⟩
theorem i_law_328 {X : ev_X} : fe (M_law X) 328 (.aload_n 0) 1 329 := ⟨by show decode code 328 = _; decide +kernel, rfl⟩
theorem i_law_329 {X : ev_X} : fe (M_law X) 329 (.iload_n 3) 1 330 := ⟨by show decode code 329 = _; decide +kernel, rfl⟩
theorem i_law_330 {X : ev_X} : fe (M_law X) 330 (.iconst 1) 1 331 := ⟨by show decode code 330 = _; decide +kernel, rfl⟩
theorem i_law_331 {X : ev_X} : fe (M_law X) 331 .iadd 1 332 := ⟨by show decode code 331 = _; decide +kernel, rfl⟩
theorem i_law_332 {X : ev_X} : fe (M_law X) 332 .iaload 1 333 := ⟨by show decode code 332 = _; decide +kernel, rfl⟩
theorem i_law_333 {X : ev_X} : fe (M_law X) 333 (.invokevirtual 40) 3 336 := ⟨by show decode code 333 = _; decide +kernel, rfl⟩
theorem i_law_336 {X : ev_X} : fe (M_law X) 336 (.aload_n 2) 1 337 := ⟨by show decode code 336 = _; decide +kernel, rfl⟩
theorem i_law_337 {X : ev_X} : fe (M_law X) 337 (.aload_n 0) 1 338 := ⟨by show decode code 337 = _; decide +kernel, rfl⟩
theorem i_law_338 {X : ev_X} : fe (M_law X) 338 (.iload_n 3) 1 339 := ⟨by show decode code 338 = _; decide +kernel, rfl⟩
theorem i_law_339 {X : ev_X} : fe (M_law X) 339 (.iconst 1) 1 340 := ⟨by show decode code 339 = _; decide +kernel, rfl⟩
theorem i_law_340 {X : ev_X} : fe (M_law X) 340 .iadd 1 341 := ⟨by show decode code 340 = _; decide +kernel, rfl⟩
theorem i_law_341 {X : ev_X} : fe (M_law X) 341 .iaload 1 342 := ⟨by show decode code 341 = _; decide +kernel, rfl⟩
theorem i_law_342 {X : ev_X} : fe (M_law X) 342 (.invokevirtual 44) 3 345 := ⟨by show decode code 342 = _; decide +kernel, rfl⟩
theorem i_law_345 {X : ev_X} : fb (M_law X) 345 (.if_icmp .eq) 809 348 := ⟨464, by show decode code 345 = _; decide +kernel, by decide, rfl⟩
theorem i_law_348 {X : ev_X} : fe (M_law X) 348 (.iconst 0) 1 349 := ⟨by show decode code 348 = _; decide +kernel, rfl⟩
theorem i_law_349 {X : ev_X} : fe (M_law X) 349 .ireturn 1 350 := ⟨by show decode code 349 = _; decide +kernel, rfl⟩
theorem i_law_350 {X : ev_X} : fe (M_law X) 350 (.aload_n 1) 1 351 := ⟨by show decode code 350 = _; decide +kernel, rfl⟩
theorem i_law_351 {X : ev_X} : fe (M_law X) 351 (.aload_n 0) 1 352 := ⟨by show decode code 351 = _; decide +kernel, rfl⟩
theorem i_law_352 {X : ev_X} : fe (M_law X) 352 (.iload_n 3) 1 353 := ⟨by show decode code 352 = _; decide +kernel, rfl⟩
theorem i_law_353 {X : ev_X} : fe (M_law X) 353 (.iconst 1) 1 354 := ⟨by show decode code 353 = _; decide +kernel, rfl⟩
theorem i_law_354 {X : ev_X} : fe (M_law X) 354 .iadd 1 355 := ⟨by show decode code 354 = _; decide +kernel, rfl⟩
theorem i_law_355 {X : ev_X} : fe (M_law X) 355 .iaload 1 356 := ⟨by show decode code 355 = _; decide +kernel, rfl⟩
theorem i_law_356 {X : ev_X} : fe (M_law X) 356 (.invokevirtual 45) 3 359 := ⟨by show decode code 356 = _; decide +kernel, rfl⟩
theorem i_law_359 {X : ev_X} : fe (M_law X) 359 (.aload_n 2) 1 360 := ⟨by show decode code 359 = _; decide +kernel, rfl⟩
theorem i_law_360 {X : ev_X} : fe (M_law X) 360 (.aload_n 0) 1 361 := ⟨by show decode code 360 = _; decide +kernel, rfl⟩
theorem i_law_361 {X : ev_X} : fe (M_law X) 361 (.iload_n 3) 1 362 := ⟨by show decode code 361 = _; decide +kernel, rfl⟩
theorem i_law_362 {X : ev_X} : fe (M_law X) 362 (.iconst 1) 1 363 := ⟨by show decode code 362 = _; decide +kernel, rfl⟩
theorem i_law_363 {X : ev_X} : fe (M_law X) 363 .iadd 1 364 := ⟨by show decode code 363 = _; decide +kernel, rfl⟩
theorem i_law_364 {X : ev_X} : fe (M_law X) 364 .iaload 1 365 := ⟨by show decode code 364 = _; decide +kernel, rfl⟩
theorem i_law_365 {X : ev_X} : fe (M_law X) 365 (.invokevirtual 48) 3 368 := ⟨by show decode code 365 = _; decide +kernel, rfl⟩
theorem i_law_368 {X : ev_X} : fb (M_law X) 368 (.if_icmp .eq) 809 371 := ⟨441, by show decode code 368 = _; decide +kernel, by decide, rfl⟩
theorem i_law_371 {X : ev_X} : fe (M_law X) 371 (.iconst 0) 1 372 := ⟨by show decode code 371 = _; decide +kernel, rfl⟩
theorem i_law_372 {X : ev_X} : fe (M_law X) 372 .ireturn 1 373 := ⟨by show decode code 372 = _; decide +kernel, rfl⟩
theorem i_law_373 {X : ev_X} : fe (M_law X) 373 (.aload_n 1) 1 374 := ⟨by show decode code 373 = _; decide +kernel, rfl⟩
theorem i_law_374 {X : ev_X} : fe (M_law X) 374 (.aload_n 0) 1 375 := ⟨by show decode code 374 = _; decide +kernel, rfl⟩
theorem i_law_375 {X : ev_X} : fe (M_law X) 375 (.iload_n 3) 1 376 := ⟨by show decode code 375 = _; decide +kernel, rfl⟩
theorem i_law_376 {X : ev_X} : fe (M_law X) 376 (.iconst 1) 1 377 := ⟨by show decode code 376 = _; decide +kernel, rfl⟩
theorem i_law_377 {X : ev_X} : fe (M_law X) 377 .iadd 1 378 := ⟨by show decode code 377 = _; decide +kernel, rfl⟩
theorem i_law_378 {X : ev_X} : fe (M_law X) 378 .iaload 1 379 := ⟨by show decode code 378 = _; decide +kernel, rfl⟩
theorem i_law_379 {X : ev_X} : fe (M_law X) 379 (.aload_n 0) 1 380 := ⟨by show decode code 379 = _; decide +kernel, rfl⟩
theorem i_law_380 {X : ev_X} : fe (M_law X) 380 (.iload_n 3) 1 381 := ⟨by show decode code 380 = _; decide +kernel, rfl⟩
theorem i_law_381 {X : ev_X} : fe (M_law X) 381 (.iconst 2) 1 382 := ⟨by show decode code 381 = _; decide +kernel, rfl⟩
theorem i_law_382 {X : ev_X} : fe (M_law X) 382 .iadd 1 383 := ⟨by show decode code 382 = _; decide +kernel, rfl⟩
theorem i_law_383 {X : ev_X} : fe (M_law X) 383 .iaload 1 384 := ⟨by show decode code 383 = _; decide +kernel, rfl⟩
theorem i_law_384 {X : ev_X} : fe (M_law X) 384 (.aload_n 0) 1 385 := ⟨by show decode code 384 = _; decide +kernel, rfl⟩
theorem i_law_385 {X : ev_X} : fe (M_law X) 385 (.iload_n 3) 1 386 := ⟨by show decode code 385 = _; decide +kernel, rfl⟩
theorem i_law_386 {X : ev_X} : fe (M_law X) 386 (.iconst 3) 1 387 := ⟨by show decode code 386 = _; decide +kernel, rfl⟩
theorem i_law_387 {X : ev_X} : fe (M_law X) 387 .iadd 1 388 := ⟨by show decode code 387 = _; decide +kernel, rfl⟩
theorem i_law_388 {X : ev_X} : fe (M_law X) 388 .iaload 1 389 := ⟨by show decode code 388 = _; decide +kernel, rfl⟩
theorem i_law_389 {X : ev_X} : fe (M_law X) 389 (.invokevirtual 49) 3 392 := ⟨by show decode code 389 = _; decide +kernel, rfl⟩
theorem i_law_392 {X : ev_X} : fe (M_law X) 392 (.aload_n 2) 1 393 := ⟨by show decode code 392 = _; decide +kernel, rfl⟩
theorem i_law_393 {X : ev_X} : fe (M_law X) 393 (.aload_n 0) 1 394 := ⟨by show decode code 393 = _; decide +kernel, rfl⟩
theorem i_law_394 {X : ev_X} : fe (M_law X) 394 (.iload_n 3) 1 395 := ⟨by show decode code 394 = _; decide +kernel, rfl⟩
theorem i_law_395 {X : ev_X} : fe (M_law X) 395 (.iconst 1) 1 396 := ⟨by show decode code 395 = _; decide +kernel, rfl⟩
theorem i_law_396 {X : ev_X} : fe (M_law X) 396 .iadd 1 397 := ⟨by show decode code 396 = _; decide +kernel, rfl⟩
theorem i_law_397 {X : ev_X} : fe (M_law X) 397 .iaload 1 398 := ⟨by show decode code 397 = _; decide +kernel, rfl⟩
theorem i_law_398 {X : ev_X} : fe (M_law X) 398 (.aload_n 0) 1 399 := ⟨by show decode code 398 = _; decide +kernel, rfl⟩
theorem i_law_399 {X : ev_X} : fe (M_law X) 399 (.iload_n 3) 1 400 := ⟨by show decode code 399 = _; decide +kernel, rfl⟩
theorem i_law_400 {X : ev_X} : fe (M_law X) 400 (.iconst 2) 1 401 := ⟨by show decode code 400 = _; decide +kernel, rfl⟩
theorem i_law_401 {X : ev_X} : fe (M_law X) 401 .iadd 1 402 := ⟨by show decode code 401 = _; decide +kernel, rfl⟩
theorem i_law_402 {X : ev_X} : fe (M_law X) 402 .iaload 1 403 := ⟨by show decode code 402 = _; decide +kernel, rfl⟩
theorem i_law_403 {X : ev_X} : fe (M_law X) 403 (.aload_n 0) 1 404 := ⟨by show decode code 403 = _; decide +kernel, rfl⟩
theorem i_law_404 {X : ev_X} : fe (M_law X) 404 (.iload_n 3) 1 405 := ⟨by show decode code 404 = _; decide +kernel, rfl⟩
theorem i_law_405 {X : ev_X} : fe (M_law X) 405 (.iconst 3) 1 406 := ⟨by show decode code 405 = _; decide +kernel, rfl⟩
theorem i_law_406 {X : ev_X} : fe (M_law X) 406 .iadd 1 407 := ⟨by show decode code 406 = _; decide +kernel, rfl⟩
theorem i_law_407 {X : ev_X} : fe (M_law X) 407 .iaload 1 408 := ⟨by show decode code 407 = _; decide +kernel, rfl⟩
theorem i_law_408 {X : ev_X} : fe (M_law X) 408 (.invokevirtual 53) 3 411 := ⟨by show decode code 408 = _; decide +kernel, rfl⟩
theorem i_law_411 {X : ev_X} : fb (M_law X) 411 (.if_icmp .eq) 809 414 := ⟨398, by show decode code 411 = _; decide +kernel, by decide, rfl⟩
theorem i_law_414 {X : ev_X} : fe (M_law X) 414 (.iconst 0) 1 415 := ⟨by show decode code 414 = _; decide +kernel, rfl⟩
theorem i_law_415 {X : ev_X} : fe (M_law X) 415 .ireturn 1 416 := ⟨by show decode code 415 = _; decide +kernel, rfl⟩
theorem i_law_416 {X : ev_X} : fe (M_law X) 416 (.aload_n 1) 1 417 := ⟨by show decode code 416 = _; decide +kernel, rfl⟩
theorem i_law_417 {X : ev_X} : fe (M_law X) 417 (.aload_n 0) 1 418 := ⟨by show decode code 417 = _; decide +kernel, rfl⟩
theorem i_law_418 {X : ev_X} : fe (M_law X) 418 (.iload_n 3) 1 419 := ⟨by show decode code 418 = _; decide +kernel, rfl⟩
theorem i_law_419 {X : ev_X} : fe (M_law X) 419 (.iconst 1) 1 420 := ⟨by show decode code 419 = _; decide +kernel, rfl⟩
theorem i_law_420 {X : ev_X} : fe (M_law X) 420 .iadd 1 421 := ⟨by show decode code 420 = _; decide +kernel, rfl⟩
theorem i_law_421 {X : ev_X} : fe (M_law X) 421 .iaload 1 422 := ⟨by show decode code 421 = _; decide +kernel, rfl⟩
theorem i_law_422 {X : ev_X} : fe (M_law X) 422 (.aload_n 0) 1 423 := ⟨by show decode code 422 = _; decide +kernel, rfl⟩
theorem i_law_423 {X : ev_X} : fe (M_law X) 423 (.iload_n 3) 1 424 := ⟨by show decode code 423 = _; decide +kernel, rfl⟩
theorem i_law_424 {X : ev_X} : fe (M_law X) 424 (.iconst 2) 1 425 := ⟨by show decode code 424 = _; decide +kernel, rfl⟩
theorem i_law_425 {X : ev_X} : fe (M_law X) 425 .iadd 1 426 := ⟨by show decode code 425 = _; decide +kernel, rfl⟩
theorem i_law_426 {X : ev_X} : fe (M_law X) 426 .iaload 1 427 := ⟨by show decode code 426 = _; decide +kernel, rfl⟩
theorem i_law_427 {X : ev_X} : fe (M_law X) 427 (.invokevirtual 54) 3 430 := ⟨by show decode code 427 = _; decide +kernel, rfl⟩
theorem i_law_430 {X : ev_X} : fe (M_law X) 430 (.aload_n 2) 1 431 := ⟨by show decode code 430 = _; decide +kernel, rfl⟩
theorem i_law_431 {X : ev_X} : fe (M_law X) 431 (.aload_n 0) 1 432 := ⟨by show decode code 431 = _; decide +kernel, rfl⟩
theorem i_law_432 {X : ev_X} : fe (M_law X) 432 (.iload_n 3) 1 433 := ⟨by show decode code 432 = _; decide +kernel, rfl⟩
theorem i_law_433 {X : ev_X} : fe (M_law X) 433 (.iconst 1) 1 434 := ⟨by show decode code 433 = _; decide +kernel, rfl⟩
theorem i_law_434 {X : ev_X} : fe (M_law X) 434 .iadd 1 435 := ⟨by show decode code 434 = _; decide +kernel, rfl⟩
theorem i_law_435 {X : ev_X} : fe (M_law X) 435 .iaload 1 436 := ⟨by show decode code 435 = _; decide +kernel, rfl⟩
theorem i_law_436 {X : ev_X} : fe (M_law X) 436 (.aload_n 0) 1 437 := ⟨by show decode code 436 = _; decide +kernel, rfl⟩
theorem i_law_437 {X : ev_X} : fe (M_law X) 437 (.iload_n 3) 1 438 := ⟨by show decode code 437 = _; decide +kernel, rfl⟩
theorem i_law_438 {X : ev_X} : fe (M_law X) 438 (.iconst 2) 1 439 := ⟨by show decode code 438 = _; decide +kernel, rfl⟩
theorem i_law_439 {X : ev_X} : fe (M_law X) 439 .iadd 1 440 := ⟨by show decode code 439 = _; decide +kernel, rfl⟩
theorem i_law_440 {X : ev_X} : fe (M_law X) 440 .iaload 1 441 := ⟨by show decode code 440 = _; decide +kernel, rfl⟩
theorem i_law_441 {X : ev_X} : fe (M_law X) 441 (.invokevirtual 58) 3 444 := ⟨by show decode code 441 = _; decide +kernel, rfl⟩
theorem i_law_444 {X : ev_X} : fb (M_law X) 444 (.if_icmp .eq) 809 447 := ⟨365, by show decode code 444 = _; decide +kernel, by decide, rfl⟩
theorem i_law_447 {X : ev_X} : fe (M_law X) 447 (.iconst 0) 1 448 := ⟨by show decode code 447 = _; decide +kernel, rfl⟩
theorem i_law_448 {X : ev_X} : fe (M_law X) 448 .ireturn 1 449 := ⟨by show decode code 448 = _; decide +kernel, rfl⟩
theorem i_law_449 {X : ev_X} : fe (M_law X) 449 (.aload_n 1) 1 450 := ⟨by show decode code 449 = _; decide +kernel, rfl⟩
theorem i_law_450 {X : ev_X} : fe (M_law X) 450 (.aload_n 0) 1 451 := ⟨by show decode code 450 = _; decide +kernel, rfl⟩
theorem i_law_451 {X : ev_X} : fe (M_law X) 451 (.iload_n 3) 1 452 := ⟨by show decode code 451 = _; decide +kernel, rfl⟩
theorem i_law_452 {X : ev_X} : fe (M_law X) 452 (.iconst 1) 1 453 := ⟨by show decode code 452 = _; decide +kernel, rfl⟩
theorem i_law_453 {X : ev_X} : fe (M_law X) 453 .iadd 1 454 := ⟨by show decode code 453 = _; decide +kernel, rfl⟩
theorem i_law_454 {X : ev_X} : fe (M_law X) 454 .iaload 1 455 := ⟨by show decode code 454 = _; decide +kernel, rfl⟩
theorem i_law_455 {X : ev_X} : fe (M_law X) 455 (.aload_n 0) 1 456 := ⟨by show decode code 455 = _; decide +kernel, rfl⟩
theorem i_law_456 {X : ev_X} : fe (M_law X) 456 (.iload_n 3) 1 457 := ⟨by show decode code 456 = _; decide +kernel, rfl⟩
theorem i_law_457 {X : ev_X} : fe (M_law X) 457 (.iconst 2) 1 458 := ⟨by show decode code 457 = _; decide +kernel, rfl⟩
theorem i_law_458 {X : ev_X} : fe (M_law X) 458 .iadd 1 459 := ⟨by show decode code 458 = _; decide +kernel, rfl⟩
theorem i_law_459 {X : ev_X} : fe (M_law X) 459 .iaload 1 460 := ⟨by show decode code 459 = _; decide +kernel, rfl⟩
theorem i_law_460 {X : ev_X} : fe (M_law X) 460 (.invokevirtual 59) 3 463 := ⟨by show decode code 460 = _; decide +kernel, rfl⟩
theorem i_law_463 {X : ev_X} : fe (M_law X) 463 (.aload_n 2) 1 464 := ⟨by show decode code 463 = _; decide +kernel, rfl⟩
theorem i_law_464 {X : ev_X} : fe (M_law X) 464 (.aload_n 0) 1 465 := ⟨by show decode code 464 = _; decide +kernel, rfl⟩
theorem i_law_465 {X : ev_X} : fe (M_law X) 465 (.iload_n 3) 1 466 := ⟨by show decode code 465 = _; decide +kernel, rfl⟩
theorem i_law_466 {X : ev_X} : fe (M_law X) 466 (.iconst 1) 1 467 := ⟨by show decode code 466 = _; decide +kernel, rfl⟩
theorem i_law_467 {X : ev_X} : fe (M_law X) 467 .iadd 1 468 := ⟨by show decode code 467 = _; decide +kernel, rfl⟩
theorem i_law_468 {X : ev_X} : fe (M_law X) 468 .iaload 1 469 := ⟨by show decode code 468 = _; decide +kernel, rfl⟩
theorem i_law_469 {X : ev_X} : fe (M_law X) 469 (.aload_n 0) 1 470 := ⟨by show decode code 469 = _; decide +kernel, rfl⟩
theorem i_law_470 {X : ev_X} : fe (M_law X) 470 (.iload_n 3) 1 471 := ⟨by show decode code 470 = _; decide +kernel, rfl⟩
theorem i_law_471 {X : ev_X} : fe (M_law X) 471 (.iconst 2) 1 472 := ⟨by show decode code 471 = _; decide +kernel, rfl⟩
theorem i_law_472 {X : ev_X} : fe (M_law X) 472 .iadd 1 473 := ⟨by show decode code 472 = _; decide +kernel, rfl⟩
theorem i_law_473 {X : ev_X} : fe (M_law X) 473 .iaload 1 474 := ⟨by show decode code 473 = _; decide +kernel, rfl⟩
theorem i_law_474 {X : ev_X} : fe (M_law X) 474 (.invokevirtual 62) 3 477 := ⟨by show decode code 474 = _; decide +kernel, rfl⟩
theorem i_law_477 {X : ev_X} : fb (M_law X) 477 (.if_icmp .eq) 809 480 := ⟨332, by show decode code 477 = _; decide +kernel, by decide, rfl⟩
theorem i_law_480 {X : ev_X} : fe (M_law X) 480 (.iconst 0) 1 481 := ⟨by show decode code 480 = _; decide +kernel, rfl⟩
theorem i_law_481 {X : ev_X} : fe (M_law X) 481 .ireturn 1 482 := ⟨by show decode code 481 = _; decide +kernel, rfl⟩
theorem i_law_482 {X : ev_X} : fe (M_law X) 482 (.aload_n 1) 1 483 := ⟨by show decode code 482 = _; decide +kernel, rfl⟩
theorem i_law_483 {X : ev_X} : fe (M_law X) 483 (.aload_n 0) 1 484 := ⟨by show decode code 483 = _; decide +kernel, rfl⟩
theorem i_law_484 {X : ev_X} : fe (M_law X) 484 (.iload_n 3) 1 485 := ⟨by show decode code 484 = _; decide +kernel, rfl⟩
theorem i_law_485 {X : ev_X} : fe (M_law X) 485 (.iconst 1) 1 486 := ⟨by show decode code 485 = _; decide +kernel, rfl⟩
theorem i_law_486 {X : ev_X} : fe (M_law X) 486 .iadd 1 487 := ⟨by show decode code 486 = _; decide +kernel, rfl⟩
theorem i_law_487 {X : ev_X} : fe (M_law X) 487 .iaload 1 488 := ⟨by show decode code 487 = _; decide +kernel, rfl⟩
theorem i_law_488 {X : ev_X} : fe (M_law X) 488 (.aload_n 0) 1 489 := ⟨by show decode code 488 = _; decide +kernel, rfl⟩
theorem i_law_489 {X : ev_X} : fe (M_law X) 489 (.iload_n 3) 1 490 := ⟨by show decode code 489 = _; decide +kernel, rfl⟩
theorem i_law_490 {X : ev_X} : fe (M_law X) 490 (.iconst 2) 1 491 := ⟨by show decode code 490 = _; decide +kernel, rfl⟩
theorem i_law_491 {X : ev_X} : fe (M_law X) 491 .iadd 1 492 := ⟨by show decode code 491 = _; decide +kernel, rfl⟩
theorem i_law_492 {X : ev_X} : fe (M_law X) 492 .iaload 1 493 := ⟨by show decode code 492 = _; decide +kernel, rfl⟩
theorem i_law_493 {X : ev_X} : fe (M_law X) 493 (.aload_n 0) 1 494 := ⟨by show decode code 493 = _; decide +kernel, rfl⟩
theorem i_law_494 {X : ev_X} : fe (M_law X) 494 (.iload_n 3) 1 495 := ⟨by show decode code 494 = _; decide +kernel, rfl⟩
theorem i_law_495 {X : ev_X} : fe (M_law X) 495 (.iconst 3) 1 496 := ⟨by show decode code 495 = _; decide +kernel, rfl⟩
theorem i_law_496 {X : ev_X} : fe (M_law X) 496 .iadd 1 497 := ⟨by show decode code 496 = _; decide +kernel, rfl⟩
theorem i_law_497 {X : ev_X} : fe (M_law X) 497 .iaload 1 498 := ⟨by show decode code 497 = _; decide +kernel, rfl⟩
theorem i_law_498 {X : ev_X} : fe (M_law X) 498 (.invokevirtual 63) 3 501 := ⟨by show decode code 498 = _; decide +kernel, rfl⟩
theorem i_law_501 {X : ev_X} : fe (M_law X) 501 (.aload_n 2) 1 502 := ⟨by show decode code 501 = _; decide +kernel, rfl⟩
theorem i_law_502 {X : ev_X} : fe (M_law X) 502 (.aload_n 0) 1 503 := ⟨by show decode code 502 = _; decide +kernel, rfl⟩
theorem i_law_503 {X : ev_X} : fe (M_law X) 503 (.iload_n 3) 1 504 := ⟨by show decode code 503 = _; decide +kernel, rfl⟩
theorem i_law_504 {X : ev_X} : fe (M_law X) 504 (.iconst 1) 1 505 := ⟨by show decode code 504 = _; decide +kernel, rfl⟩
theorem i_law_505 {X : ev_X} : fe (M_law X) 505 .iadd 1 506 := ⟨by show decode code 505 = _; decide +kernel, rfl⟩
theorem i_law_506 {X : ev_X} : fe (M_law X) 506 .iaload 1 507 := ⟨by show decode code 506 = _; decide +kernel, rfl⟩
theorem i_law_507 {X : ev_X} : fe (M_law X) 507 (.aload_n 0) 1 508 := ⟨by show decode code 507 = _; decide +kernel, rfl⟩
theorem i_law_508 {X : ev_X} : fe (M_law X) 508 (.iload_n 3) 1 509 := ⟨by show decode code 508 = _; decide +kernel, rfl⟩
theorem i_law_509 {X : ev_X} : fe (M_law X) 509 (.iconst 2) 1 510 := ⟨by show decode code 509 = _; decide +kernel, rfl⟩
theorem i_law_510 {X : ev_X} : fe (M_law X) 510 .iadd 1 511 := ⟨by show decode code 510 = _; decide +kernel, rfl⟩
theorem i_law_511 {X : ev_X} : fe (M_law X) 511 .iaload 1 512 := ⟨by show decode code 511 = _; decide +kernel, rfl⟩
theorem i_law_512 {X : ev_X} : fe (M_law X) 512 (.aload_n 0) 1 513 := ⟨by show decode code 512 = _; decide +kernel, rfl⟩
theorem i_law_513 {X : ev_X} : fe (M_law X) 513 (.iload_n 3) 1 514 := ⟨by show decode code 513 = _; decide +kernel, rfl⟩
theorem i_law_514 {X : ev_X} : fe (M_law X) 514 (.iconst 3) 1 515 := ⟨by show decode code 514 = _; decide +kernel, rfl⟩
theorem i_law_515 {X : ev_X} : fe (M_law X) 515 .iadd 1 516 := ⟨by show decode code 515 = _; decide +kernel, rfl⟩
theorem i_law_516 {X : ev_X} : fe (M_law X) 516 .iaload 1 517 := ⟨by show decode code 516 = _; decide +kernel, rfl⟩
theorem i_law_517 {X : ev_X} : fe (M_law X) 517 (.invokevirtual 67) 3 520 := ⟨by show decode code 517 = _; decide +kernel, rfl⟩
theorem i_law_520 {X : ev_X} : fb (M_law X) 520 (.if_icmp .eq) 809 523 := ⟨289, by show decode code 520 = _; decide +kernel, by decide, rfl⟩
theorem i_law_523 {X : ev_X} : fe (M_law X) 523 (.iconst 0) 1 524 := ⟨by show decode code 523 = _; decide +kernel, rfl⟩
theorem i_law_524 {X : ev_X} : fe (M_law X) 524 .ireturn 1 525 := ⟨by show decode code 524 = _; decide +kernel, rfl⟩
theorem i_law_525 {X : ev_X} : fe (M_law X) 525 (.aload_n 1) 1 526 := ⟨by show decode code 525 = _; decide +kernel, rfl⟩
theorem i_law_526 {X : ev_X} : fe (M_law X) 526 (.aload_n 0) 1 527 := ⟨by show decode code 526 = _; decide +kernel, rfl⟩
theorem i_law_527 {X : ev_X} : fe (M_law X) 527 (.iload_n 3) 1 528 := ⟨by show decode code 527 = _; decide +kernel, rfl⟩
theorem i_law_528 {X : ev_X} : fe (M_law X) 528 (.iconst 1) 1 529 := ⟨by show decode code 528 = _; decide +kernel, rfl⟩
theorem i_law_529 {X : ev_X} : fe (M_law X) 529 .iadd 1 530 := ⟨by show decode code 529 = _; decide +kernel, rfl⟩
theorem i_law_530 {X : ev_X} : fe (M_law X) 530 .iaload 1 531 := ⟨by show decode code 530 = _; decide +kernel, rfl⟩
theorem i_law_531 {X : ev_X} : fe (M_law X) 531 (.aload_n 0) 1 532 := ⟨by show decode code 531 = _; decide +kernel, rfl⟩
theorem i_law_532 {X : ev_X} : fe (M_law X) 532 (.iload_n 3) 1 533 := ⟨by show decode code 532 = _; decide +kernel, rfl⟩
theorem i_law_533 {X : ev_X} : fe (M_law X) 533 (.iconst 2) 1 534 := ⟨by show decode code 533 = _; decide +kernel, rfl⟩
theorem i_law_534 {X : ev_X} : fe (M_law X) 534 .iadd 1 535 := ⟨by show decode code 534 = _; decide +kernel, rfl⟩
theorem i_law_535 {X : ev_X} : fe (M_law X) 535 .iaload 1 536 := ⟨by show decode code 535 = _; decide +kernel, rfl⟩
theorem i_law_536 {X : ev_X} : fe (M_law X) 536 (.invokevirtual 68) 3 539 := ⟨by show decode code 536 = _; decide +kernel, rfl⟩
theorem i_law_539 {X : ev_X} : fe (M_law X) 539 (.aload_n 2) 1 540 := ⟨by show decode code 539 = _; decide +kernel, rfl⟩
theorem i_law_540 {X : ev_X} : fe (M_law X) 540 (.aload_n 0) 1 541 := ⟨by show decode code 540 = _; decide +kernel, rfl⟩
theorem i_law_541 {X : ev_X} : fe (M_law X) 541 (.iload_n 3) 1 542 := ⟨by show decode code 541 = _; decide +kernel, rfl⟩
theorem i_law_542 {X : ev_X} : fe (M_law X) 542 (.iconst 1) 1 543 := ⟨by show decode code 542 = _; decide +kernel, rfl⟩
theorem i_law_543 {X : ev_X} : fe (M_law X) 543 .iadd 1 544 := ⟨by show decode code 543 = _; decide +kernel, rfl⟩
theorem i_law_544 {X : ev_X} : fe (M_law X) 544 .iaload 1 545 := ⟨by show decode code 544 = _; decide +kernel, rfl⟩
theorem i_law_545 {X : ev_X} : fe (M_law X) 545 (.aload_n 0) 1 546 := ⟨by show decode code 545 = _; decide +kernel, rfl⟩
theorem i_law_546 {X : ev_X} : fe (M_law X) 546 (.iload_n 3) 1 547 := ⟨by show decode code 546 = _; decide +kernel, rfl⟩
theorem i_law_547 {X : ev_X} : fe (M_law X) 547 (.iconst 2) 1 548 := ⟨by show decode code 547 = _; decide +kernel, rfl⟩
theorem i_law_548 {X : ev_X} : fe (M_law X) 548 .iadd 1 549 := ⟨by show decode code 548 = _; decide +kernel, rfl⟩
theorem i_law_549 {X : ev_X} : fe (M_law X) 549 .iaload 1 550 := ⟨by show decode code 549 = _; decide +kernel, rfl⟩
theorem i_law_550 {X : ev_X} : fe (M_law X) 550 (.invokevirtual 72) 3 553 := ⟨by show decode code 550 = _; decide +kernel, rfl⟩
theorem i_law_553 {X : ev_X} : fb (M_law X) 553 (.if_icmp .eq) 809 556 := ⟨256, by show decode code 553 = _; decide +kernel, by decide, rfl⟩
theorem i_law_556 {X : ev_X} : fe (M_law X) 556 (.iconst 0) 1 557 := ⟨by show decode code 556 = _; decide +kernel, rfl⟩
theorem i_law_557 {X : ev_X} : fe (M_law X) 557 .ireturn 1 558 := ⟨by show decode code 557 = _; decide +kernel, rfl⟩
theorem i_law_558 {X : ev_X} : fe (M_law X) 558 (.aload_n 1) 1 559 := ⟨by show decode code 558 = _; decide +kernel, rfl⟩
theorem i_law_559 {X : ev_X} : fe (M_law X) 559 (.aload_n 0) 1 560 := ⟨by show decode code 559 = _; decide +kernel, rfl⟩
theorem i_law_560 {X : ev_X} : fe (M_law X) 560 (.iload_n 3) 1 561 := ⟨by show decode code 560 = _; decide +kernel, rfl⟩
theorem i_law_561 {X : ev_X} : fe (M_law X) 561 (.iconst 1) 1 562 := ⟨by show decode code 561 = _; decide +kernel, rfl⟩
theorem i_law_562 {X : ev_X} : fe (M_law X) 562 .iadd 1 563 := ⟨by show decode code 562 = _; decide +kernel, rfl⟩
theorem i_law_563 {X : ev_X} : fe (M_law X) 563 .iaload 1 564 := ⟨by show decode code 563 = _; decide +kernel, rfl⟩
theorem i_law_564 {X : ev_X} : fe (M_law X) 564 (.invokevirtual 73) 3 567 := ⟨by show decode code 564 = _; decide +kernel, rfl⟩
theorem i_law_567 {X : ev_X} : fe (M_law X) 567 (.aload_n 2) 1 568 := ⟨by show decode code 567 = _; decide +kernel, rfl⟩
theorem i_law_568 {X : ev_X} : fe (M_law X) 568 (.aload_n 0) 1 569 := ⟨by show decode code 568 = _; decide +kernel, rfl⟩
theorem i_law_569 {X : ev_X} : fe (M_law X) 569 (.iload_n 3) 1 570 := ⟨by show decode code 569 = _; decide +kernel, rfl⟩
theorem i_law_570 {X : ev_X} : fe (M_law X) 570 (.iconst 1) 1 571 := ⟨by show decode code 570 = _; decide +kernel, rfl⟩
theorem i_law_571 {X : ev_X} : fe (M_law X) 571 .iadd 1 572 := ⟨by show decode code 571 = _; decide +kernel, rfl⟩
theorem i_law_572 {X : ev_X} : fe (M_law X) 572 .iaload 1 573 := ⟨by show decode code 572 = _; decide +kernel, rfl⟩
theorem i_law_573 {X : ev_X} : fe (M_law X) 573 (.invokevirtual 76) 3 576 := ⟨by show decode code 573 = _; decide +kernel, rfl⟩
theorem i_law_576 {X : ev_X} : fb (M_law X) 576 (.if_icmp .eq) 809 579 := ⟨233, by show decode code 576 = _; decide +kernel, by decide, rfl⟩
theorem i_law_579 {X : ev_X} : fe (M_law X) 579 (.iconst 0) 1 580 := ⟨by show decode code 579 = _; decide +kernel, rfl⟩
theorem i_law_580 {X : ev_X} : fe (M_law X) 580 .ireturn 1 581 := ⟨by show decode code 580 = _; decide +kernel, rfl⟩
theorem i_law_581 {X : ev_X} : fe (M_law X) 581 (.aload_n 1) 1 582 := ⟨by show decode code 581 = _; decide +kernel, rfl⟩
theorem i_law_582 {X : ev_X} : fe (M_law X) 582 (.aload_n 0) 1 583 := ⟨by show decode code 582 = _; decide +kernel, rfl⟩
theorem i_law_583 {X : ev_X} : fe (M_law X) 583 (.iload_n 3) 1 584 := ⟨by show decode code 583 = _; decide +kernel, rfl⟩
theorem i_law_584 {X : ev_X} : fe (M_law X) 584 (.iconst 1) 1 585 := ⟨by show decode code 584 = _; decide +kernel, rfl⟩
theorem i_law_585 {X : ev_X} : fe (M_law X) 585 .iadd 1 586 := ⟨by show decode code 585 = _; decide +kernel, rfl⟩
theorem i_law_586 {X : ev_X} : fe (M_law X) 586 .iaload 1 587 := ⟨by show decode code 586 = _; decide +kernel, rfl⟩
theorem i_law_587 {X : ev_X} : fe (M_law X) 587 (.aload_n 0) 1 588 := ⟨by show decode code 587 = _; decide +kernel, rfl⟩
theorem i_law_588 {X : ev_X} : fe (M_law X) 588 (.iload_n 3) 1 589 := ⟨by show decode code 588 = _; decide +kernel, rfl⟩
theorem i_law_589 {X : ev_X} : fe (M_law X) 589 (.iconst 2) 1 590 := ⟨by show decode code 589 = _; decide +kernel, rfl⟩
theorem i_law_590 {X : ev_X} : fe (M_law X) 590 .iadd 1 591 := ⟨by show decode code 590 = _; decide +kernel, rfl⟩
theorem i_law_591 {X : ev_X} : fe (M_law X) 591 .iaload 1 592 := ⟨by show decode code 591 = _; decide +kernel, rfl⟩
theorem i_law_592 {X : ev_X} : fe (M_law X) 592 (.invokevirtual 77) 3 595 := ⟨by show decode code 592 = _; decide +kernel, rfl⟩
theorem i_law_595 {X : ev_X} : fe (M_law X) 595 (.aload_n 2) 1 596 := ⟨by show decode code 595 = _; decide +kernel, rfl⟩
theorem i_law_596 {X : ev_X} : fe (M_law X) 596 (.aload_n 0) 1 597 := ⟨by show decode code 596 = _; decide +kernel, rfl⟩
theorem i_law_597 {X : ev_X} : fe (M_law X) 597 (.iload_n 3) 1 598 := ⟨by show decode code 597 = _; decide +kernel, rfl⟩
theorem i_law_598 {X : ev_X} : fe (M_law X) 598 (.iconst 1) 1 599 := ⟨by show decode code 598 = _; decide +kernel, rfl⟩
theorem i_law_599 {X : ev_X} : fe (M_law X) 599 .iadd 1 600 := ⟨by show decode code 599 = _; decide +kernel, rfl⟩
theorem i_law_600 {X : ev_X} : fe (M_law X) 600 .iaload 1 601 := ⟨by show decode code 600 = _; decide +kernel, rfl⟩
theorem i_law_601 {X : ev_X} : fe (M_law X) 601 (.aload_n 0) 1 602 := ⟨by show decode code 601 = _; decide +kernel, rfl⟩
theorem i_law_602 {X : ev_X} : fe (M_law X) 602 (.iload_n 3) 1 603 := ⟨by show decode code 602 = _; decide +kernel, rfl⟩
theorem i_law_603 {X : ev_X} : fe (M_law X) 603 (.iconst 2) 1 604 := ⟨by show decode code 603 = _; decide +kernel, rfl⟩
theorem i_law_604 {X : ev_X} : fe (M_law X) 604 .iadd 1 605 := ⟨by show decode code 604 = _; decide +kernel, rfl⟩
theorem i_law_605 {X : ev_X} : fe (M_law X) 605 .iaload 1 606 := ⟨by show decode code 605 = _; decide +kernel, rfl⟩
theorem i_law_606 {X : ev_X} : fe (M_law X) 606 (.invokevirtual 80) 3 609 := ⟨by show decode code 606 = _; decide +kernel, rfl⟩
theorem i_law_609 {X : ev_X} : fb (M_law X) 609 (.if_icmp .eq) 809 612 := ⟨200, by show decode code 609 = _; decide +kernel, by decide, rfl⟩
theorem i_law_612 {X : ev_X} : fe (M_law X) 612 (.iconst 0) 1 613 := ⟨by show decode code 612 = _; decide +kernel, rfl⟩
theorem i_law_613 {X : ev_X} : fe (M_law X) 613 .ireturn 1 614 := ⟨by show decode code 613 = _; decide +kernel, rfl⟩
theorem i_law_614 {X : ev_X} : fe (M_law X) 614 (.aload_n 1) 1 615 := ⟨by show decode code 614 = _; decide +kernel, rfl⟩
theorem i_law_615 {X : ev_X} : fe (M_law X) 615 (.aload_n 0) 1 616 := ⟨by show decode code 615 = _; decide +kernel, rfl⟩
theorem i_law_616 {X : ev_X} : fe (M_law X) 616 (.iload_n 3) 1 617 := ⟨by show decode code 616 = _; decide +kernel, rfl⟩
theorem i_law_617 {X : ev_X} : fe (M_law X) 617 (.iconst 1) 1 618 := ⟨by show decode code 617 = _; decide +kernel, rfl⟩
theorem i_law_618 {X : ev_X} : fe (M_law X) 618 .iadd 1 619 := ⟨by show decode code 618 = _; decide +kernel, rfl⟩
theorem i_law_619 {X : ev_X} : fe (M_law X) 619 .iaload 1 620 := ⟨by show decode code 619 = _; decide +kernel, rfl⟩
theorem i_law_620 {X : ev_X} : fe (M_law X) 620 (.aload_n 0) 1 621 := ⟨by show decode code 620 = _; decide +kernel, rfl⟩
theorem i_law_621 {X : ev_X} : fe (M_law X) 621 (.iload_n 3) 1 622 := ⟨by show decode code 621 = _; decide +kernel, rfl⟩
theorem i_law_622 {X : ev_X} : fe (M_law X) 622 (.iconst 2) 1 623 := ⟨by show decode code 622 = _; decide +kernel, rfl⟩
theorem i_law_623 {X : ev_X} : fe (M_law X) 623 .iadd 1 624 := ⟨by show decode code 623 = _; decide +kernel, rfl⟩
theorem i_law_624 {X : ev_X} : fe (M_law X) 624 .iaload 1 625 := ⟨by show decode code 624 = _; decide +kernel, rfl⟩
theorem i_law_625 {X : ev_X} : fe (M_law X) 625 (.invokevirtual 81) 3 628 := ⟨by show decode code 625 = _; decide +kernel, rfl⟩
theorem i_law_628 {X : ev_X} : fe (M_law X) 628 (.aload_n 2) 1 629 := ⟨by show decode code 628 = _; decide +kernel, rfl⟩
theorem i_law_629 {X : ev_X} : fe (M_law X) 629 (.aload_n 0) 1 630 := ⟨by show decode code 629 = _; decide +kernel, rfl⟩
theorem i_law_630 {X : ev_X} : fe (M_law X) 630 (.iload_n 3) 1 631 := ⟨by show decode code 630 = _; decide +kernel, rfl⟩
theorem i_law_631 {X : ev_X} : fe (M_law X) 631 (.iconst 1) 1 632 := ⟨by show decode code 631 = _; decide +kernel, rfl⟩
theorem i_law_632 {X : ev_X} : fe (M_law X) 632 .iadd 1 633 := ⟨by show decode code 632 = _; decide +kernel, rfl⟩
theorem i_law_633 {X : ev_X} : fe (M_law X) 633 .iaload 1 634 := ⟨by show decode code 633 = _; decide +kernel, rfl⟩
theorem i_law_634 {X : ev_X} : fe (M_law X) 634 (.aload_n 0) 1 635 := ⟨by show decode code 634 = _; decide +kernel, rfl⟩
theorem i_law_635 {X : ev_X} : fe (M_law X) 635 (.iload_n 3) 1 636 := ⟨by show decode code 635 = _; decide +kernel, rfl⟩
theorem i_law_636 {X : ev_X} : fe (M_law X) 636 (.iconst 2) 1 637 := ⟨by show decode code 636 = _; decide +kernel, rfl⟩
theorem i_law_637 {X : ev_X} : fe (M_law X) 637 .iadd 1 638 := ⟨by show decode code 637 = _; decide +kernel, rfl⟩
theorem i_law_638 {X : ev_X} : fe (M_law X) 638 .iaload 1 639 := ⟨by show decode code 638 = _; decide +kernel, rfl⟩
theorem i_law_639 {X : ev_X} : fe (M_law X) 639 (.invokevirtual 84) 3 642 := ⟨by show decode code 639 = _; decide +kernel, rfl⟩
theorem i_law_642 {X : ev_X} : fb (M_law X) 642 (.if_icmp .eq) 809 645 := ⟨167, by show decode code 642 = _; decide +kernel, by decide, rfl⟩
theorem i_law_645 {X : ev_X} : fe (M_law X) 645 (.iconst 0) 1 646 := ⟨by show decode code 645 = _; decide +kernel, rfl⟩
theorem i_law_646 {X : ev_X} : fe (M_law X) 646 .ireturn 1 647 := ⟨by show decode code 646 = _; decide +kernel, rfl⟩
theorem i_law_647 {X : ev_X} : fe (M_law X) 647 (.aload_n 1) 1 648 := ⟨by show decode code 647 = _; decide +kernel, rfl⟩
theorem i_law_648 {X : ev_X} : fe (M_law X) 648 (.invokevirtual 85) 3 651 := ⟨by show decode code 648 = _; decide +kernel, rfl⟩
theorem i_law_651 {X : ev_X} : fe (M_law X) 651 (.aload_n 2) 1 652 := ⟨by show decode code 651 = _; decide +kernel, rfl⟩
theorem i_law_652 {X : ev_X} : fe (M_law X) 652 (.invokevirtual 88) 3 655 := ⟨by show decode code 652 = _; decide +kernel, rfl⟩
theorem i_law_655 {X : ev_X} : fb (M_law X) 655 (.if_icmp .eq) 809 658 := ⟨154, by show decode code 655 = _; decide +kernel, by decide, rfl⟩
theorem i_law_658 {X : ev_X} : fe (M_law X) 658 (.iconst 0) 1 659 := ⟨by show decode code 658 = _; decide +kernel, rfl⟩
theorem i_law_659 {X : ev_X} : fe (M_law X) 659 .ireturn 1 660 := ⟨by show decode code 659 = _; decide +kernel, rfl⟩
theorem i_law_660 {X : ev_X} : fe (M_law X) 660 (.aload_n 1) 1 661 := ⟨by show decode code 660 = _; decide +kernel, rfl⟩
theorem i_law_661 {X : ev_X} : fe (M_law X) 661 (.aload_n 0) 1 662 := ⟨by show decode code 661 = _; decide +kernel, rfl⟩
theorem i_law_662 {X : ev_X} : fe (M_law X) 662 (.iload_n 3) 1 663 := ⟨by show decode code 662 = _; decide +kernel, rfl⟩
theorem i_law_663 {X : ev_X} : fe (M_law X) 663 (.iconst 1) 1 664 := ⟨by show decode code 663 = _; decide +kernel, rfl⟩
theorem i_law_664 {X : ev_X} : fe (M_law X) 664 .iadd 1 665 := ⟨by show decode code 664 = _; decide +kernel, rfl⟩
theorem i_law_665 {X : ev_X} : fe (M_law X) 665 .iaload 1 666 := ⟨by show decode code 665 = _; decide +kernel, rfl⟩
theorem i_law_666 {X : ev_X} : fe (M_law X) 666 (.invokevirtual 89) 3 669 := ⟨by show decode code 666 = _; decide +kernel, rfl⟩
theorem i_law_669 {X : ev_X} : fe (M_law X) 669 (.aload_n 2) 1 670 := ⟨by show decode code 669 = _; decide +kernel, rfl⟩
theorem i_law_670 {X : ev_X} : fe (M_law X) 670 (.aload_n 0) 1 671 := ⟨by show decode code 670 = _; decide +kernel, rfl⟩
theorem i_law_671 {X : ev_X} : fe (M_law X) 671 (.iload_n 3) 1 672 := ⟨by show decode code 671 = _; decide +kernel, rfl⟩
theorem i_law_672 {X : ev_X} : fe (M_law X) 672 (.iconst 1) 1 673 := ⟨by show decode code 672 = _; decide +kernel, rfl⟩
theorem i_law_673 {X : ev_X} : fe (M_law X) 673 .iadd 1 674 := ⟨by show decode code 673 = _; decide +kernel, rfl⟩
theorem i_law_674 {X : ev_X} : fe (M_law X) 674 .iaload 1 675 := ⟨by show decode code 674 = _; decide +kernel, rfl⟩
theorem i_law_675 {X : ev_X} : fe (M_law X) 675 (.invokevirtual 92) 3 678 := ⟨by show decode code 675 = _; decide +kernel, rfl⟩
theorem i_law_678 {X : ev_X} : fb (M_law X) 678 (.if_icmp .eq) 809 681 := ⟨131, by show decode code 678 = _; decide +kernel, by decide, rfl⟩
theorem i_law_681 {X : ev_X} : fe (M_law X) 681 (.iconst 0) 1 682 := ⟨by show decode code 681 = _; decide +kernel, rfl⟩
theorem i_law_682 {X : ev_X} : fe (M_law X) 682 .ireturn 1 683 := ⟨by show decode code 682 = _; decide +kernel, rfl⟩
theorem i_law_683 {X : ev_X} : fe (M_law X) 683 (.aload_n 1) 1 684 := ⟨by show decode code 683 = _; decide +kernel, rfl⟩
theorem i_law_684 {X : ev_X} : fe (M_law X) 684 (.aload_n 0) 1 685 := ⟨by show decode code 684 = _; decide +kernel, rfl⟩
theorem i_law_685 {X : ev_X} : fe (M_law X) 685 (.iload_n 3) 1 686 := ⟨by show decode code 685 = _; decide +kernel, rfl⟩
theorem i_law_686 {X : ev_X} : fe (M_law X) 686 (.iconst 1) 1 687 := ⟨by show decode code 686 = _; decide +kernel, rfl⟩
theorem i_law_687 {X : ev_X} : fe (M_law X) 687 .iadd 1 688 := ⟨by show decode code 687 = _; decide +kernel, rfl⟩
theorem i_law_688 {X : ev_X} : fe (M_law X) 688 .iaload 1 689 := ⟨by show decode code 688 = _; decide +kernel, rfl⟩
theorem i_law_689 {X : ev_X} : fe (M_law X) 689 .i2l 1 690 := ⟨by show decode code 689 = _; decide +kernel, rfl⟩
theorem i_law_690 {X : ev_X} : fe (M_law X) 690 (.bipush 32) 2 692 := ⟨by show decode code 690 = _; decide +kernel, rfl⟩
theorem i_law_692 {X : ev_X} : fe (M_law X) 692 .lshl 1 693 := ⟨by show decode code 692 = _; decide +kernel, rfl⟩
theorem i_law_693 {X : ev_X} : fe (M_law X) 693 (.aload_n 0) 1 694 := ⟨by show decode code 693 = _; decide +kernel, rfl⟩
theorem i_law_694 {X : ev_X} : fe (M_law X) 694 (.iload_n 3) 1 695 := ⟨by show decode code 694 = _; decide +kernel, rfl⟩
theorem i_law_695 {X : ev_X} : fe (M_law X) 695 (.iconst 2) 1 696 := ⟨by show decode code 695 = _; decide +kernel, rfl⟩
theorem i_law_696 {X : ev_X} : fe (M_law X) 696 .iadd 1 697 := ⟨by show decode code 696 = _; decide +kernel, rfl⟩
theorem i_law_697 {X : ev_X} : fe (M_law X) 697 .iaload 1 698 := ⟨by show decode code 697 = _; decide +kernel, rfl⟩
theorem i_law_698 {X : ev_X} : fe (M_law X) 698 .i2l 1 699 := ⟨by show decode code 698 = _; decide +kernel, rfl⟩
theorem i_law_699 {X : ev_X} : fe (M_law X) 699 (.ldc2_w 13) 3 702 := ⟨by show decode code 699 = _; decide +kernel, rfl⟩
theorem i_law_702 {X : ev_X} : fe (M_law X) 702 .land 1 703 := ⟨by show decode code 702 = _; decide +kernel, rfl⟩
theorem i_law_703 {X : ev_X} : fe (M_law X) 703 .lor 1 704 := ⟨by show decode code 703 = _; decide +kernel, rfl⟩
theorem i_law_704 {X : ev_X} : fe (M_law X) 704 (.aload_n 0) 1 705 := ⟨by show decode code 704 = _; decide +kernel, rfl⟩
theorem i_law_705 {X : ev_X} : fe (M_law X) 705 (.iload_n 3) 1 706 := ⟨by show decode code 705 = _; decide +kernel, rfl⟩
theorem i_law_706 {X : ev_X} : fe (M_law X) 706 (.iconst 3) 1 707 := ⟨by show decode code 706 = _; decide +kernel, rfl⟩
theorem i_law_707 {X : ev_X} : fe (M_law X) 707 .iadd 1 708 := ⟨by show decode code 707 = _; decide +kernel, rfl⟩
theorem i_law_708 {X : ev_X} : fe (M_law X) 708 .iaload 1 709 := ⟨by show decode code 708 = _; decide +kernel, rfl⟩
theorem i_law_709 {X : ev_X} : fe (M_law X) 709 (.invokevirtual 93) 3 712 := ⟨by show decode code 709 = _; decide +kernel, rfl⟩
theorem i_law_712 {X : ev_X} : fe (M_law X) 712 (.aload_n 2) 1 713 := ⟨by show decode code 712 = _; decide +kernel, rfl⟩
theorem i_law_713 {X : ev_X} : fe (M_law X) 713 (.aload_n 0) 1 714 := ⟨by show decode code 713 = _; decide +kernel, rfl⟩
theorem i_law_714 {X : ev_X} : fe (M_law X) 714 (.iload_n 3) 1 715 := ⟨by show decode code 714 = _; decide +kernel, rfl⟩
theorem i_law_715 {X : ev_X} : fe (M_law X) 715 (.iconst 1) 1 716 := ⟨by show decode code 715 = _; decide +kernel, rfl⟩
theorem i_law_716 {X : ev_X} : fe (M_law X) 716 .iadd 1 717 := ⟨by show decode code 716 = _; decide +kernel, rfl⟩
theorem i_law_717 {X : ev_X} : fe (M_law X) 717 .iaload 1 718 := ⟨by show decode code 717 = _; decide +kernel, rfl⟩
theorem i_law_718 {X : ev_X} : fe (M_law X) 718 .i2l 1 719 := ⟨by show decode code 718 = _; decide +kernel, rfl⟩
theorem i_law_719 {X : ev_X} : fe (M_law X) 719 (.bipush 32) 2 721 := ⟨by show decode code 719 = _; decide +kernel, rfl⟩
theorem i_law_721 {X : ev_X} : fe (M_law X) 721 .lshl 1 722 := ⟨by show decode code 721 = _; decide +kernel, rfl⟩
theorem i_law_722 {X : ev_X} : fe (M_law X) 722 (.aload_n 0) 1 723 := ⟨by show decode code 722 = _; decide +kernel, rfl⟩
theorem i_law_723 {X : ev_X} : fe (M_law X) 723 (.iload_n 3) 1 724 := ⟨by show decode code 723 = _; decide +kernel, rfl⟩
theorem i_law_724 {X : ev_X} : fe (M_law X) 724 (.iconst 2) 1 725 := ⟨by show decode code 724 = _; decide +kernel, rfl⟩
theorem i_law_725 {X : ev_X} : fe (M_law X) 725 .iadd 1 726 := ⟨by show decode code 725 = _; decide +kernel, rfl⟩
theorem i_law_726 {X : ev_X} : fe (M_law X) 726 .iaload 1 727 := ⟨by show decode code 726 = _; decide +kernel, rfl⟩
theorem i_law_727 {X : ev_X} : fe (M_law X) 727 .i2l 1 728 := ⟨by show decode code 727 = _; decide +kernel, rfl⟩
theorem i_law_728 {X : ev_X} : fe (M_law X) 728 (.ldc2_w 13) 3 731 := ⟨by show decode code 728 = _; decide +kernel, rfl⟩
theorem i_law_731 {X : ev_X} : fe (M_law X) 731 .land 1 732 := ⟨by show decode code 731 = _; decide +kernel, rfl⟩
theorem i_law_732 {X : ev_X} : fe (M_law X) 732 .lor 1 733 := ⟨by show decode code 732 = _; decide +kernel, rfl⟩
theorem i_law_733 {X : ev_X} : fe (M_law X) 733 (.aload_n 0) 1 734 := ⟨by show decode code 733 = _; decide +kernel, rfl⟩
theorem i_law_734 {X : ev_X} : fe (M_law X) 734 (.iload_n 3) 1 735 := ⟨by show decode code 734 = _; decide +kernel, rfl⟩
theorem i_law_735 {X : ev_X} : fe (M_law X) 735 (.iconst 3) 1 736 := ⟨by show decode code 735 = _; decide +kernel, rfl⟩
theorem i_law_736 {X : ev_X} : fe (M_law X) 736 .iadd 1 737 := ⟨by show decode code 736 = _; decide +kernel, rfl⟩
theorem i_law_737 {X : ev_X} : fe (M_law X) 737 .iaload 1 738 := ⟨by show decode code 737 = _; decide +kernel, rfl⟩
theorem i_law_738 {X : ev_X} : fe (M_law X) 738 (.invokevirtual 97) 3 741 := ⟨by show decode code 738 = _; decide +kernel, rfl⟩
theorem i_law_741 {X : ev_X} : fb (M_law X) 741 (.if_icmp .eq) 809 744 := ⟨68, by show decode code 741 = _; decide +kernel, by decide, rfl⟩
theorem i_law_744 {X : ev_X} : fe (M_law X) 744 (.iconst 0) 1 745 := ⟨by show decode code 744 = _; decide +kernel, rfl⟩
theorem i_law_745 {X : ev_X} : fe (M_law X) 745 .ireturn 1 746 := ⟨by show decode code 745 = _; decide +kernel, rfl⟩
theorem i_law_746 {X : ev_X} : fe (M_law X) 746 (.aload_n 1) 1 747 := ⟨by show decode code 746 = _; decide +kernel, rfl⟩
theorem i_law_747 {X : ev_X} : fe (M_law X) 747 (.aload_n 0) 1 748 := ⟨by show decode code 747 = _; decide +kernel, rfl⟩
theorem i_law_748 {X : ev_X} : fe (M_law X) 748 (.iload_n 3) 1 749 := ⟨by show decode code 748 = _; decide +kernel, rfl⟩
theorem i_law_749 {X : ev_X} : fe (M_law X) 749 (.iconst 1) 1 750 := ⟨by show decode code 749 = _; decide +kernel, rfl⟩
theorem i_law_750 {X : ev_X} : fe (M_law X) 750 .iadd 1 751 := ⟨by show decode code 750 = _; decide +kernel, rfl⟩
theorem i_law_751 {X : ev_X} : fe (M_law X) 751 .iaload 1 752 := ⟨by show decode code 751 = _; decide +kernel, rfl⟩
theorem i_law_752 {X : ev_X} : fe (M_law X) 752 .i2l 1 753 := ⟨by show decode code 752 = _; decide +kernel, rfl⟩
theorem i_law_753 {X : ev_X} : fe (M_law X) 753 (.bipush 32) 2 755 := ⟨by show decode code 753 = _; decide +kernel, rfl⟩
theorem i_law_755 {X : ev_X} : fe (M_law X) 755 .lshl 1 756 := ⟨by show decode code 755 = _; decide +kernel, rfl⟩
theorem i_law_756 {X : ev_X} : fe (M_law X) 756 (.aload_n 0) 1 757 := ⟨by show decode code 756 = _; decide +kernel, rfl⟩
theorem i_law_757 {X : ev_X} : fe (M_law X) 757 (.iload_n 3) 1 758 := ⟨by show decode code 757 = _; decide +kernel, rfl⟩
theorem i_law_758 {X : ev_X} : fe (M_law X) 758 (.iconst 2) 1 759 := ⟨by show decode code 758 = _; decide +kernel, rfl⟩
theorem i_law_759 {X : ev_X} : fe (M_law X) 759 .iadd 1 760 := ⟨by show decode code 759 = _; decide +kernel, rfl⟩
theorem i_law_760 {X : ev_X} : fe (M_law X) 760 .iaload 1 761 := ⟨by show decode code 760 = _; decide +kernel, rfl⟩
theorem i_law_761 {X : ev_X} : fe (M_law X) 761 .i2l 1 762 := ⟨by show decode code 761 = _; decide +kernel, rfl⟩
theorem i_law_762 {X : ev_X} : fe (M_law X) 762 (.ldc2_w 13) 3 765 := ⟨by show decode code 762 = _; decide +kernel, rfl⟩
theorem i_law_765 {X : ev_X} : fe (M_law X) 765 .land 1 766 := ⟨by show decode code 765 = _; decide +kernel, rfl⟩
theorem i_law_766 {X : ev_X} : fe (M_law X) 766 .lor 1 767 := ⟨by show decode code 766 = _; decide +kernel, rfl⟩
theorem i_law_767 {X : ev_X} : fe (M_law X) 767 (.aload_n 0) 1 768 := ⟨by show decode code 767 = _; decide +kernel, rfl⟩
theorem i_law_768 {X : ev_X} : fe (M_law X) 768 (.iload_n 3) 1 769 := ⟨by show decode code 768 = _; decide +kernel, rfl⟩
theorem i_law_769 {X : ev_X} : fe (M_law X) 769 (.iconst 3) 1 770 := ⟨by show decode code 769 = _; decide +kernel, rfl⟩
theorem i_law_770 {X : ev_X} : fe (M_law X) 770 .iadd 1 771 := ⟨by show decode code 770 = _; decide +kernel, rfl⟩
theorem i_law_771 {X : ev_X} : fe (M_law X) 771 .iaload 1 772 := ⟨by show decode code 771 = _; decide +kernel, rfl⟩
theorem i_law_772 {X : ev_X} : fe (M_law X) 772 (.invokevirtual 98) 3 775 := ⟨by show decode code 772 = _; decide +kernel, rfl⟩
theorem i_law_775 {X : ev_X} : fe (M_law X) 775 (.aload_n 2) 1 776 := ⟨by show decode code 775 = _; decide +kernel, rfl⟩
theorem i_law_776 {X : ev_X} : fe (M_law X) 776 (.aload_n 0) 1 777 := ⟨by show decode code 776 = _; decide +kernel, rfl⟩
theorem i_law_777 {X : ev_X} : fe (M_law X) 777 (.iload_n 3) 1 778 := ⟨by show decode code 777 = _; decide +kernel, rfl⟩
theorem i_law_778 {X : ev_X} : fe (M_law X) 778 (.iconst 1) 1 779 := ⟨by show decode code 778 = _; decide +kernel, rfl⟩
theorem i_law_779 {X : ev_X} : fe (M_law X) 779 .iadd 1 780 := ⟨by show decode code 779 = _; decide +kernel, rfl⟩
theorem i_law_780 {X : ev_X} : fe (M_law X) 780 .iaload 1 781 := ⟨by show decode code 780 = _; decide +kernel, rfl⟩
theorem i_law_781 {X : ev_X} : fe (M_law X) 781 .i2l 1 782 := ⟨by show decode code 781 = _; decide +kernel, rfl⟩
theorem i_law_782 {X : ev_X} : fe (M_law X) 782 (.bipush 32) 2 784 := ⟨by show decode code 782 = _; decide +kernel, rfl⟩
theorem i_law_784 {X : ev_X} : fe (M_law X) 784 .lshl 1 785 := ⟨by show decode code 784 = _; decide +kernel, rfl⟩
theorem i_law_785 {X : ev_X} : fe (M_law X) 785 (.aload_n 0) 1 786 := ⟨by show decode code 785 = _; decide +kernel, rfl⟩
theorem i_law_786 {X : ev_X} : fe (M_law X) 786 (.iload_n 3) 1 787 := ⟨by show decode code 786 = _; decide +kernel, rfl⟩
theorem i_law_787 {X : ev_X} : fe (M_law X) 787 (.iconst 2) 1 788 := ⟨by show decode code 787 = _; decide +kernel, rfl⟩
theorem i_law_788 {X : ev_X} : fe (M_law X) 788 .iadd 1 789 := ⟨by show decode code 788 = _; decide +kernel, rfl⟩
theorem i_law_789 {X : ev_X} : fe (M_law X) 789 .iaload 1 790 := ⟨by show decode code 789 = _; decide +kernel, rfl⟩
theorem i_law_790 {X : ev_X} : fe (M_law X) 790 .i2l 1 791 := ⟨by show decode code 790 = _; decide +kernel, rfl⟩
theorem i_law_791 {X : ev_X} : fe (M_law X) 791 (.ldc2_w 13) 3 794 := ⟨by show decode code 791 = _; decide +kernel, rfl⟩
theorem i_law_794 {X : ev_X} : fe (M_law X) 794 .land 1 795 := ⟨by show decode code 794 = _; decide +kernel, rfl⟩
theorem i_law_795 {X : ev_X} : fe (M_law X) 795 .lor 1 796 := ⟨by show decode code 795 = _; decide +kernel, rfl⟩
theorem i_law_796 {X : ev_X} : fe (M_law X) 796 (.aload_n 0) 1 797 := ⟨by show decode code 796 = _; decide +kernel, rfl⟩
theorem i_law_797 {X : ev_X} : fe (M_law X) 797 (.iload_n 3) 1 798 := ⟨by show decode code 797 = _; decide +kernel, rfl⟩
theorem i_law_798 {X : ev_X} : fe (M_law X) 798 (.iconst 3) 1 799 := ⟨by show decode code 798 = _; decide +kernel, rfl⟩
theorem i_law_799 {X : ev_X} : fe (M_law X) 799 .iadd 1 800 := ⟨by show decode code 799 = _; decide +kernel, rfl⟩
theorem i_law_800 {X : ev_X} : fe (M_law X) 800 .iaload 1 801 := ⟨by show decode code 800 = _; decide +kernel, rfl⟩
theorem i_law_801 {X : ev_X} : fe (M_law X) 801 (.invokevirtual 101) 3 804 := ⟨by show decode code 801 = _; decide +kernel, rfl⟩
theorem i_law_804 {X : ev_X} : fb (M_law X) 804 (.if_icmp .eq) 809 807 := ⟨5, by show decode code 804 = _; decide +kernel, by decide, rfl⟩
theorem i_law_807 {X : ev_X} : fe (M_law X) 807 (.iconst 0) 1 808 := ⟨by show decode code 807 = _; decide +kernel, rfl⟩
theorem i_law_808 {X : ev_X} : fe (M_law X) 808 .ireturn 1 809 := ⟨by show decode code 808 = _; decide +kernel, rfl⟩
theorem i_law_809 {X : ev_X} : fe (M_law X) 809 (.iinc 3 5) 3 812 := ⟨by show decode code 809 = _; decide +kernel, rfl⟩
theorem i_law_812 {X : ev_X} : fb (M_law X) 812 .goto 18 815 := ⟨-794, by show decode code 812 = _; decide +kernel, by decide, rfl⟩
theorem i_law_815 {X : ev_X} : fe (M_law X) 815 (.iconst 1) 1 816 := ⟨by show decode code 815 = _; decide +kernel, rfl⟩
theorem i_law_816 {X : ev_X} : fe (M_law X) 816 .ireturn 1 817 := ⟨by show decode code 816 = _; decide +kernel, rfl⟩
end
section
theorem hu_ne {α : Type} {f : Nat → α} {a b : Nat} {v x : α} (hn : b ≠ a) (h : f b = x) : va_up f a v b = x := by rw [va_up_ne _ _ hn]; exact h
theorem hu_uu {α : Type} {f : Nat → α} {a : Nat} {v w : α} : va_up (va_up f a v) a w = va_up f a w := by
  funext j
  by_cases e : j = a
  · subst e; rw [va_up_self, va_up_self]
  · rw [va_up_ne _ _ e, va_up_ne _ _ e, va_up_ne _ _ e]
theorem hu_self {α : Type} {f : Nat → α} {a : Nat} {v : α} (h : f a = v) : va_up f a v = f := by
  funext j
  by_cases e : j = a
  · subst e; rw [va_up_self, h]
  · rw [va_up_ne _ _ e]
theorem hu_comm {α : Type} {f : Nat → α} {a b : Nat} {v w : α} (hn : a ≠ b) : va_up (va_up f a v) b w = va_up (va_up f b w) a v := by
  funext j
  by_cases e : j = a
  · subst e; rw [va_up_ne _ _ hn, va_up_self, va_up_self]
  · by_cases e2 : j = b
    · subst e2; rw [va_up_self, va_up_ne _ _ e, va_up_self]
    · rw [va_up_ne _ _ e2, va_up_ne _ _ e, va_up_ne _ _ e, va_up_ne _ _ e2]
/-- bits of a long -/
def lb (x : Int64) (i : Nat) : Bool := x.toBitVec.getLsbD i
theorem lb_ext {x y : Int64} (h : ∀ i, i < 64 → lb x i = lb y i) : x = y := Int64.toBitVec_inj.mp (BitVec.eq_of_getLsbD_eq (fun i hi => h i hi))
theorem lb_or (x y : Int64) (i : Nat) : lb (x ||| y) i = (lb x i || lb y i) := by unfold lb; rw [Int64.toBitVec_or, BitVec.getLsbD_or]
theorem lb_and (x y : Int64) (i : Nat) : lb (x &&& y) i = (lb x i && lb y i) := by unfold lb; rw [Int64.toBitVec_and, BitVec.getLsbD_and]
theorem lb_xor (x y : Int64) (i : Nat) : lb (x ^^^ y) i = (lb x i ^^ lb y i) := by unfold lb; rw [Int64.toBitVec_xor, BitVec.getLsbD_xor]
theorem lb_big {x : Int64} {i : Nat} (h : 64 ≤ i) : lb x i = false := BitVec.getLsbD_of_ge _ _ h
theorem lb_0 (i : Nat) : lb 0 i = false := BitVec.getLsbD_zero
theorem lb_m1 : ∀ i, i < 64 → lb (-1) i = true := by decide +kernel
theorem sh_cu : ∀ k, k < 64 → ((nI k).toInt64.toUInt64 &&& Int64.toUInt64 63) = UInt64.ofNat k := by decide +kernel
theorem sh_c : ∀ k, k < 64 → (((nI k).toInt64 &&& 63).toBitVec.smod 64).toNat = k := by decide +kernel
theorem lb_ush {k : Nat} (hk : k < 64) (x : Int64) (i : Nat) : lb ((x.toUInt64 >>> ((nI k).toInt64.toUInt64 &&& Int64.toUInt64 63)).toInt64) i = lb x (k + i) := by
  rw [sh_cu k hk]
  show (x.toUInt64 >>> UInt64.ofNat k).toBitVec.getLsbD i = x.toUInt64.toBitVec.getLsbD (k + i)
  rw [UInt64.toBitVec_shiftRight]
  have e : ((UInt64.ofNat k).toBitVec % 64).toNat = k := by
    rw [BitVec.toNat_umod]
    show (BitVec.ofNat 64 k).toNat % 64 = k
    rw [BitVec.toNat_ofNat]
    omega
  show (x.toUInt64.toBitVec >>> ((UInt64.ofNat k).toBitVec % 64).toNat).getLsbD i = _
  rw [e, BitVec.getLsbD_ushiftRight]
theorem lb_1 (i : Nat) : lb 1 i = decide (i = 0) := by
  rcases Nat.lt_or_ge i 64 with h | h
  · exact (by decide +kernel : ∀ i, i < 64 → lb 1 i = decide (i = 0)) i h
  · rw [lb_big h, decide_eq_false (by omega)]
theorem lb_tst {k : Nat} (hk : k < 64) (x : Int64) : ((x.toUInt64 >>> ((nI k).toInt64.toUInt64 &&& Int64.toUInt64 63)).toInt64 &&& 1) = 0 ↔ lb x k = false := by
  constructor
  · intro e
    have t := congrArg (fun z => lb z 0) e
    simp only [lb_and, lb_ush hk, lb_1, lb_0] at t
    simpa using t
  · intro e
    apply lb_ext
    intro i hi
    rw [lb_and, lb_ush hk, lb_1, lb_0]
    by_cases z : i = 0
    · subst z; simp [e]
    · simp [z]
theorem lb_shl1 {k : Nat} (hk : k < 64) (i : Nat) : lb ((1 : Int64) <<< ((nI k).toInt64 &&& 63)) i = decide (i = k) := by
  unfold lb
  rw [Int64.toBitVec_shiftLeft]
  show ((1 : Int64).toBitVec <<< (((nI k).toInt64 &&& 63).toBitVec.smod 64).toNat).getLsbD i = _
  rw [sh_c k hk, BitVec.getLsbD_shiftLeft]
  rcases Nat.lt_or_ge i 64 with h | h
  · by_cases e : i = k
    · subst e
      simp [h]
    · rcases Nat.lt_or_ge i k with h2 | h2
      · simp [h2, e]
      · have : lb 1 (i - k) = false := by rw [lb_1, decide_eq_false (by omega)]
        unfold lb at this
        simp [e, this]
        intro _ _
        omega
  · simp [Nat.not_lt.mpr h]
    omega
theorem lg_cmp0 {x y : Int64} : lg_cmp x y = 0 ↔ x = y := by
  unfold lg_cmp
  constructor
  · intro e
    by_cases h1 : x > y
    · rw [if_pos h1] at e; exact absurd e (by decide)
    · rw [if_neg h1] at e
      by_cases h2 : x = y
      · exact h2
      · rw [if_neg h2] at e; exact absurd e (by decide)
  · intro e
    subst e
    rw [if_neg (by simp), if_pos rfl]
theorem lb_sub {x y : Int64} : (x &&& (y ^^^ (-1))) = 0 ↔ ∀ i, i < 64 → lb x i = true → lb y i = true := by
  constructor
  · intro e i hi hx
    have t := congrArg (fun z => lb z i) e
    simp only [lb_and, lb_xor, lb_m1 i hi, lb_0, hx] at t
    simpa using t
  · intro e
    apply lb_ext
    intro i hi
    rw [lb_and, lb_xor, lb_m1 i hi, lb_0]
    cases hx : lb x i with
    | false => simp
    | true => simp [e i hi hx]
/-- arithmetic on numbered ints -/
theorem nI_3 : (3 : Int32) = nI 3 := rfl
theorem nI_shr6 {c : Nat} (h : c < 2 ^ 31) : nI c >>> ((6 : Int32) &&& 31) = nI (c / 64) := pk_shrN h _ 6 (by decide)
theorem nI_and63 {c : Nat} (h : c < 2 ^ 31) : nI c &&& 63 = nI (c % 64) := by
  have := pk_andN (n := c) (by omega) (m := 63) 6 (by decide)
  exact this
theorem nI_lt_iff {a b : Nat} (ha : a < 2 ^ 31) (hb : b < 2 ^ 31) : nI a < nI b ↔ a < b := nI_ltI ha hb
theorem bn_t {x : Bool} (h : ¬ x = false) : x = true := by cases x <;> first | rfl | exact absurd rfl h
theorem bn_f {x : Bool} (h : ¬ x = true) : x = false := by cases x <;> first | rfl | exact absurd rfl h
end
section
section FO
variable {G : ev_G} {h : ev_H}
abbrev fo_c (b r n : Nat) : va_E := .inr (0, [.int (nI r), .ref b, .int (nI n)])
abbrev fo_b (G : ev_G) (r : Nat) (B : Nat → Int64) : va_E := .inl (G.2 1, 3 * r, .inr (.inl B))
/-- the i-th choice, as a set of codes -/
def cs (B : Nat → Int64) (i c : Nat) : Bool := lb (B (3 * i + c / 64)) (c % 64)
theorem r_fo_size {a b r n : Nat} (ha : h a = some (fo_c b r n)) : Rn G M_fo_size 0 0 0 [.ref a] h (ev_qi fun x h' => x = nI n ∧ h' = h) := by
  refine Rn_of (ls := [some (.ref a)]) rfl rfl (Nat.le_of_ble_eq_true rfl) rfl ?_
  refine ev_aload_0 i_fo_size_0 ?_
  refine ev_get i_fo_size_1 fl_fo_9 (by repeat (first | assumption | exact va_up_self _ _ _ | refine hu_ne (by first | assumption | exact Ne.symm (by assumption)) ?_)) rfl ?_
  refine ev_ireturn i_fo_size_4 rfl rfl ?_
  exact ⟨_, rfl, rfl, rfl⟩
theorem r_fo_clear {a b r n : Nat} (ha : h a = some (fo_c b r n)) : Rn G M_fo_clear 0 0 0 [.ref a] h (ev_qv fun h' => h' = va_up h a (some (fo_c b r 0))) := by
  refine Rn_of (ls := [some (.ref a)]) rfl rfl (Nat.le_of_ble_eq_true rfl) rfl ?_
  refine ev_aload_0 i_fo_clear_0 ?_
  refine ev_iconst (v := 0) i_fo_clear_1 (by decide) ?_
  refine ev_put i_fo_clear_2 pl_fo_clear_9 (by repeat (first | assumption | exact va_up_self _ _ _ | refine hu_ne (by first | assumption | exact Ne.symm (by assumption)) ?_)) rfl rfl (Nat.le_of_ble_eq_true rfl) rfl ?_
  refine ev_return i_fo_clear_5 rfl ?_
  exact ⟨rfl, rfl⟩
theorem r_fo_holds {a b r n p c : Nat} {B : Nat → Int64} (ha : h a = some (fo_c b r n)) (hb : h b = some (fo_b G r B)) (hr : r < 2 ^ 20) (hn : n ≤ r) (hp : p < n) (hc : c < 144) :
    Rn G M_fo_holds 0 0 0 [.ref a, .int (nI p), .int (nI c)] h (ev_qi fun x h' => x = (if cs B p c then 1 else 0) ∧ h' = h) := by
  refine Rn_of (ls := [some (.ref a), some (.int (nI p)), some (.int (nI c))]) rfl rfl (Nat.le_of_ble_eq_true rfl) rfl ?_
  refine ev_iload_1 i_fo_holds_0 ?_
  refine ev_if_lt i_fo_holds_1 (fun c_1 => ?_) (fun c_1 => ?_)
  · exact absurd c_1 (nI_pos (by omega))
  refine ev_iload_1 i_fo_holds_4 ?_
  refine ev_aload_0 i_fo_holds_5 ?_
  refine ev_get i_fo_holds_6 fl_fo_9 (by repeat (first | assumption | exact va_up_self _ _ _ | refine hu_ne (by first | assumption | exact Ne.symm (by assumption)) ?_)) rfl ?_
  refine ev_icmp_ge i_fo_holds_9 (fun c_9 => ?_) (fun c_9 => ?_)
  · exact absurd c_9 (nI_ge hp (by omega))
  refine ev_iload_2 i_fo_holds_12 ?_
  refine ev_if_lt i_fo_holds_13 (fun c_13 => ?_) (fun c_13 => ?_)
  · exact absurd c_13 (nI_pos (by omega))
  refine ev_iload_2 i_fo_holds_16 ?_
  refine ev_sipush (v := 144) i_fo_holds_17 (by decide) ?_
  refine ev_icmp_lt i_fo_holds_20 (fun c_20 => ?_) (fun c_20 => ?_)
  rotate_left
  · exact absurd (show nI c < nI 144 from nI_lt hc (by omega)) c_20
  refine ev_aload_0 i_fo_holds_25 ?_
  refine ev_get i_fo_holds_26 fl_fo_24 (by repeat (first | assumption | exact va_up_self _ _ _ | refine hu_ne (by first | assumption | exact Ne.symm (by assumption)) ?_)) rfl ?_
  refine ev_iload_1 i_fo_holds_29 ?_
  refine ev_iconst (v := 3) i_fo_holds_30 (by decide) ?_
  refine ev_imul i_fo_holds_31 ?_
  refine ev_iload_2 i_fo_holds_32 ?_
  refine ev_bipush (v := 6) i_fo_holds_33 (by decide) ?_
  refine ev_ishr i_fo_holds_35 ?_
  refine ev_iadd i_fo_holds_36 ?_
  refine ev_laload i_fo_holds_37 ty_long (by repeat (first | assumption | exact va_up_self _ _ _ | refine hu_ne (by first | assumption | exact Ne.symm (by assumption)) ?_)) (j := 3 * p + c / 64) (by rw [nI_shr6 (by omega), nI_3, pk_mul, nI_add, Nat.mul_comm]) (by omega) (by omega) ?_
  refine ev_iload_2 i_fo_holds_38 ?_
  refine ev_bipush (v := 63) i_fo_holds_39 (by decide) ?_
  refine ev_iand i_fo_holds_41 ?_
  refine ev_lushr i_fo_holds_42 ?_
  refine ev_lconst (v := 1) i_fo_holds_43 (by decide) ?_
  refine ev_land i_fo_holds_44 ?_
  refine ev_lconst (v := 0) i_fo_holds_45 (by decide) ?_
  refine ev_lcmp i_fo_holds_46 ?_
  refine ev_if_eq i_fo_holds_47 (fun c_47 => ?_) (fun c_47 => ?_)
  · rw [lg_cmp0, nI_and63 (by omega), lb_tst (by omega)] at c_47
    refine ev_iconst (v := 0) i_fo_holds_54 (by decide) ?_
    refine ev_ireturn i_fo_holds_55 rfl rfl ?_
    exact ⟨_, rfl, by unfold cs; rw [c_47]; rfl, rfl⟩
  · rw [lg_cmp0, nI_and63 (by omega), lb_tst (by omega)] at c_47
    refine ev_iconst (v := 1) i_fo_holds_50 (by decide) ?_
    refine ev_goto i_fo_holds_51 ?_
    refine ev_ireturn i_fo_holds_55 rfl rfl ?_
    exact ⟨_, rfl, by unfold cs; rw [bn_t c_47]; rfl, rfl⟩
theorem r_fo_holds_out {a b r n : Nat} {place code : Int32} (ha : h a = some (fo_c b r n)) (hn : n < 2 ^ 31) (hp : place < 0 ∨ nI n ≤ place) :
    Rn G M_fo_holds 0 0 0 [.ref a, .int place, .int code] h (ev_qi fun x h' => x = 0 ∧ h' = h) := by
  refine Rn_of (ls := [some (.ref a), some (.int place), some (.int code)]) rfl rfl (Nat.le_of_ble_eq_true rfl) rfl ?_
  refine ev_iload_1 i_fo_holds_0 ?_
  refine ev_if_lt i_fo_holds_1 (fun c_1 => ?_) (fun c_1 => ?_)
  · refine ev_iconst (v := 0) i_fo_holds_23 (by decide) ?_
    refine ev_ireturn i_fo_holds_24 rfl rfl ?_
    exact ⟨_, rfl, rfl, rfl⟩
  refine ev_iload_1 i_fo_holds_4 ?_
  refine ev_aload_0 i_fo_holds_5 ?_
  refine ev_get i_fo_holds_6 fl_fo_9 (by repeat (first | assumption | exact va_up_self _ _ _ | refine hu_ne (by first | assumption | exact Ne.symm (by assumption)) ?_)) rfl ?_
  refine ev_icmp_ge i_fo_holds_9 (fun c_9 => ?_) (fun c_9 => ?_)
  · refine ev_iconst (v := 0) i_fo_holds_23 (by decide) ?_
    refine ev_ireturn i_fo_holds_24 rfl rfl ?_
    exact ⟨_, rfl, rfl, rfl⟩
  · exact absurd hp (by rintro (q | q); exact c_1 q; exact c_9 q)
/-- a choice as three longs; a row of choices; one within another; both joined -/
abbrev T3 : Type := Int64 × Int64 × Int64
def c3 (B : Nat → Int64) (i : Nat) : T3 := (B (3 * i), B (3 * i + 1), B (3 * i + 2))
def li (n : Nat) (B : Nat → Int64) : List T3 := (List.range n).map (c3 B)
def t3le (x y : T3) : Bool := decide ((x.1 &&& (y.1 ^^^ (-1))) = 0) && (decide ((x.2.1 &&& (y.2.1 ^^^ (-1))) = 0) && decide ((x.2.2 &&& (y.2.2 ^^^ (-1))) = 0))
def t3or (x y : T3) : T3 := (x.1 ||| y.1, x.2.1 ||| y.2.1, x.2.2 ||| y.2.2)
theorem t3le_1 {x y : T3} (h : ¬ (x.1 &&& (y.1 ^^^ (-1))) = 0) : t3le x y = false := by unfold t3le; rw [decide_eq_false h]; rfl
theorem t3le_2 {x y : T3} (h : ¬ (x.2.1 &&& (y.2.1 ^^^ (-1))) = 0) : t3le x y = false := by unfold t3le; rw [decide_eq_false h]; simp only [Bool.false_and, Bool.and_false]
theorem t3le_3 {x y : T3} (h : ¬ (x.2.2 &&& (y.2.2 ^^^ (-1))) = 0) : t3le x y = false := by unfold t3le; rw [decide_eq_false h]; simp only [Bool.and_false]
theorem t3le_t {x y : T3} (h1 : (x.1 &&& (y.1 ^^^ (-1))) = 0) (h2 : (x.2.1 &&& (y.2.1 ^^^ (-1))) = 0) (h3 : (x.2.2 &&& (y.2.2 ^^^ (-1))) = 0) : t3le x y = true := by unfold t3le; rw [decide_eq_true h1, decide_eq_true h2, decide_eq_true h3]; rfl
theorem li_succ (n : Nat) (B : Nat → Int64) : li (n + 1) B = li n B ++ [c3 B n] := by unfold li; rw [List.range_succ, List.map_append]; rfl
theorem li_len (n : Nat) (B : Nat → Int64) : (li n B).length = n := by unfold li; simp
theorem li_congr {n : Nat} {B C : Nat → Int64} (h : ∀ i, i < n → c3 B i = c3 C i) : li n B = li n C := by
  unfold li
  apply List.map_congr_left
  intro i hi
  exact h i (List.mem_range.mp hi)
theorem r_fo_hasOneWithin {a b r n : Nat} {B : Nat → Int64} {x y z : Int64} (ha : h a = some (fo_c b r n)) (hb : h b = some (fo_b G r B)) (hr : r < 2 ^ 20) (hn : n ≤ r) :
    Rn G M_fo_hasOneWithin 0 0 0 [.ref a, .long x, .long y, .long z] h (ev_qi fun v h' => v = (if (li n B).any (fun q => t3le q (x, y, z)) then 1 else 0) ∧ h' = h) := by
  refine Rn_of (ls := [some (.ref a), some (.long x), none, some (.long y), none, some (.long z), none, none]) rfl rfl (Nat.le_of_ble_eq_true rfl) rfl ?_
  refine ev_iconst (v := 0) i_fo_hasOneWithin_0 (by decide) ?_
  refine ev_istore_7 i_fo_hasOneWithin_1 rfl ?_
  have loop : ∀ k j : Nat, j + k = n → (li j B).any (fun q => t3le q (x, y, z)) = false → Ev G M_fo_hasOneWithin 0 0 0 (ev_qi fun v h' => v = (if (li n B).any (fun q => t3le q (x, y, z)) then 1 else 0) ∧ h' = h) 3 [some (.ref a), some (.long x), none, some (.long y), none, some (.long z), none, some (.int (nI j))] [] h := by
    intro k
    induction k with
    | zero =>
      intro j hj hi
      refine ev_iload_7 i_fo_hasOneWithin_3 ?_
      refine ev_aload_0 i_fo_hasOneWithin_5 ?_
      refine ev_get i_fo_hasOneWithin_6 fl_fo_9 (by repeat (first | assumption | exact va_up_self _ _ _ | refine hu_ne (by first | assumption | exact Ne.symm (by assumption)) ?_)) rfl ?_
      refine ev_icmp_ge i_fo_hasOneWithin_9 (fun c_9 => ?_) (fun c_9 => ?_)
      · refine ev_iconst (v := 0) i_fo_hasOneWithin_85 (by decide) ?_
        refine ev_ireturn i_fo_hasOneWithin_86 rfl rfl ?_
        obtain rfl : j = n := by omega
        exact ⟨_, rfl, by rw [hi]; rfl, rfl⟩
      · exact absurd (nI_le (by omega) (by omega)) c_9
    | succ k ih =>
      intro j hj hi
      have hany : (li n B).any (fun q => t3le q (x, y, z)) = false → t3le (c3 B j) (x, y, z) = false := by
        intro hh
        exact bn_f (fun ht => by
          have := List.any_eq_false.mp hh (c3 B j) (List.mem_map.mpr ⟨j, List.mem_range.mpr (by omega), rfl⟩)
          exact this ht)
      have step : t3le (c3 B j) (x, y, z) = false → Ev G M_fo_hasOneWithin 0 0 0 (ev_qi fun v h' => v = (if (li n B).any (fun q => t3le q (x, y, z)) then 1 else 0) ∧ h' = h) 79 [some (.ref a), some (.long x), none, some (.long y), none, some (.long z), none, some (.int (nI j))] [] h := by
        intro hf
        refine ev_iinc_7 i_fo_hasOneWithin_79 (nI_1 j) rfl ?_
        refine ev_goto i_fo_hasOneWithin_82 ?_
        exact ih (j + 1) (by omega) (by rw [li_succ, List.any_append, hi]; simp [hf])
      refine ev_iload_7 i_fo_hasOneWithin_3 ?_
      refine ev_aload_0 i_fo_hasOneWithin_5 ?_
      refine ev_get i_fo_hasOneWithin_6 fl_fo_9 (by repeat (first | assumption | exact va_up_self _ _ _ | refine hu_ne (by first | assumption | exact Ne.symm (by assumption)) ?_)) rfl ?_
      refine ev_icmp_ge i_fo_hasOneWithin_9 (fun c_9 => ?_) (fun c_9 => ?_)
      · exact absurd c_9 (nI_ge (by omega) (by omega))
      refine ev_aload_0 i_fo_hasOneWithin_12 ?_
      refine ev_get i_fo_hasOneWithin_13 fl_fo_24 (by repeat (first | assumption | exact va_up_self _ _ _ | refine hu_ne (by first | assumption | exact Ne.symm (by assumption)) ?_)) rfl ?_
      refine ev_iload_7 i_fo_hasOneWithin_16 ?_
      refine ev_iconst (v := 3) i_fo_hasOneWithin_18 (by decide) ?_
      refine ev_imul i_fo_hasOneWithin_19 ?_
      refine ev_laload i_fo_hasOneWithin_20 ty_long (by repeat (first | assumption | exact va_up_self _ _ _ | refine hu_ne (by first | assumption | exact Ne.symm (by assumption)) ?_)) (j := 3 * j) (by rw [nI_3, pk_mul, Nat.mul_comm]) (by omega) (by omega) ?_
      refine ev_lload_1 i_fo_hasOneWithin_21 ?_
      refine ev_ldc2 i_fo_hasOneWithin_22 kc_fo_55 ?_
      refine ev_lxor i_fo_hasOneWithin_25 ?_
      refine ev_land i_fo_hasOneWithin_26 ?_
      refine ev_lconst (v := 0) i_fo_hasOneWithin_27 (by decide) ?_
      refine ev_lcmp i_fo_hasOneWithin_28 ?_
      refine ev_if_ne i_fo_hasOneWithin_29 (fun c_29 => ?_) (fun c_29 => ?_)
      · exact step (t3le_1 (by rw [lg_cmp0] at c_29; exact c_29))
      refine ev_aload_0 i_fo_hasOneWithin_32 ?_
      refine ev_get i_fo_hasOneWithin_33 fl_fo_24 (by repeat (first | assumption | exact va_up_self _ _ _ | refine hu_ne (by first | assumption | exact Ne.symm (by assumption)) ?_)) rfl ?_
      refine ev_iload_7 i_fo_hasOneWithin_36 ?_
      refine ev_iconst (v := 3) i_fo_hasOneWithin_38 (by decide) ?_
      refine ev_imul i_fo_hasOneWithin_39 ?_
      refine ev_iconst (v := 1) i_fo_hasOneWithin_40 (by decide) ?_
      refine ev_iadd i_fo_hasOneWithin_41 ?_
      refine ev_laload i_fo_hasOneWithin_42 ty_long (by repeat (first | assumption | exact va_up_self _ _ _ | refine hu_ne (by first | assumption | exact Ne.symm (by assumption)) ?_)) (j := 3 * j + 1) (by rw [nI_3, pk_mul, Nat.mul_comm, nI_1]) (by omega) (by omega) ?_
      refine ev_lload_3 i_fo_hasOneWithin_43 ?_
      refine ev_ldc2 i_fo_hasOneWithin_44 kc_fo_55 ?_
      refine ev_lxor i_fo_hasOneWithin_47 ?_
      refine ev_land i_fo_hasOneWithin_48 ?_
      refine ev_lconst (v := 0) i_fo_hasOneWithin_49 (by decide) ?_
      refine ev_lcmp i_fo_hasOneWithin_50 ?_
      refine ev_if_ne i_fo_hasOneWithin_51 (fun c_51 => ?_) (fun c_51 => ?_)
      · exact step (t3le_2 (by rw [lg_cmp0] at c_51; exact c_51))
      refine ev_aload_0 i_fo_hasOneWithin_54 ?_
      refine ev_get i_fo_hasOneWithin_55 fl_fo_24 (by repeat (first | assumption | exact va_up_self _ _ _ | refine hu_ne (by first | assumption | exact Ne.symm (by assumption)) ?_)) rfl ?_
      refine ev_iload_7 i_fo_hasOneWithin_58 ?_
      refine ev_iconst (v := 3) i_fo_hasOneWithin_60 (by decide) ?_
      refine ev_imul i_fo_hasOneWithin_61 ?_
      refine ev_iconst (v := 2) i_fo_hasOneWithin_62 (by decide) ?_
      refine ev_iadd i_fo_hasOneWithin_63 ?_
      refine ev_laload i_fo_hasOneWithin_64 ty_long (by repeat (first | assumption | exact va_up_self _ _ _ | refine hu_ne (by first | assumption | exact Ne.symm (by assumption)) ?_)) (j := 3 * j + 2) (by rw [nI_3, pk_mul, Nat.mul_comm]; exact nI_add _ 2) (by omega) (by omega) ?_
      refine ev_lload_5 i_fo_hasOneWithin_65 ?_
      refine ev_ldc2 i_fo_hasOneWithin_67 kc_fo_55 ?_
      refine ev_lxor i_fo_hasOneWithin_70 ?_
      refine ev_land i_fo_hasOneWithin_71 ?_
      refine ev_lconst (v := 0) i_fo_hasOneWithin_72 (by decide) ?_
      refine ev_lcmp i_fo_hasOneWithin_73 ?_
      refine ev_if_ne i_fo_hasOneWithin_74 (fun c_74 => ?_) (fun c_74 => ?_)
      · exact step (t3le_3 (by rw [lg_cmp0] at c_74; exact c_74))
      refine ev_iconst (v := 1) i_fo_hasOneWithin_77 (by decide) ?_
      refine ev_ireturn i_fo_hasOneWithin_78 rfl rfl ?_
      rw [lg_cmp0] at c_29 c_51 c_74
      have ht : (li n B).any (fun q => t3le q (x, y, z)) = true := List.any_eq_true.mpr ⟨c3 B j, List.mem_map.mpr ⟨j, List.mem_range.mpr (by omega), rfl⟩, t3le_t c_29 c_51 c_74⟩
      exact ⟨_, rfl, by rw [ht]; rfl, rfl⟩
  exact loop n 0 (by omega) rfl
theorem dc_move {C : Nat → Int64} {q j : Nat} (hq : q ≤ j) (i : Nat) (hi : i < q ∨ i = q ∨ j < i) :
    c3 (vp_updL (vp_updL (vp_updL C (3 * q) (C (3 * j))) (3 * q + 1) (vp_updL C (3 * q) (C (3 * j)) (3 * j + 1))) (3 * q + 2) (vp_updL (vp_updL C (3 * q) (C (3 * j))) (3 * q + 1) (vp_updL C (3 * q) (C (3 * j)) (3 * j + 1)) (3 * j + 2))) i = if i = q then c3 C j else c3 C i := by
  by_cases e : i = q
  · subst e
    rw [if_pos rfl]
    unfold c3 vp_updL
    by_cases e2 : i = j
    · subst e2; simp
    · simp
      refine ⟨?_, ?_⟩
      · intro z; omega
      · rw [if_neg (by omega), if_neg (by omega)]
  · rw [if_neg e]
    unfold c3 vp_updL
    rw [if_neg (by omega), if_neg (by omega), if_neg (by omega), if_neg (by omega), if_neg (by omega), if_neg (by omega), if_neg (by omega), if_neg (by omega), if_neg (by omega)]
theorem r_fo_dropThoseWith {a b r n : Nat} {B : Nat → Int64} {x y z : Int64} (ha : h a = some (fo_c b r n)) (hb : h b = some (fo_b G r B)) (hr : r < 2 ^ 20) (hn : n ≤ r) :
    Rn G M_fo_dropThoseWith 0 0 0 [.ref a, .long x, .long y, .long z] h (ev_qv fun h' => ∃ (C : Nat → Int64) (q : Nat), h' = va_up (va_up h b (some (fo_b G r C))) a (some (fo_c b r q)) ∧ q ≤ n ∧ li q C = (li n B).filter (fun s => !t3le (x, y, z) s)) := by
  have hab : a ≠ b := by intro e; subst e; rw [ha] at hb; cases hb
  refine Rn_of (ls := [some (.ref a), some (.long x), none, some (.long y), none, some (.long z), none, none, none, none, none]) rfl rfl (Nat.le_of_ble_eq_true rfl) rfl ?_
  refine ev_iconst (v := 0) i_fo_dropThoseWith_0 (by decide) ?_
  refine ev_istore_7 i_fo_dropThoseWith_1 rfl ?_
  refine ev_iconst (v := 0) i_fo_dropThoseWith_3 (by decide) ?_
  refine ev_istore_8 i_fo_dropThoseWith_4 rfl ?_
  have loop : ∀ (k j q : Nat) (C : Nat → Int64) (w9 w10 : Option Value), ev_nl w9 = true → ev_nl w10 = true → j + k = n → q ≤ j → li q C = (li j B).filter (fun s => !t3le (x, y, z) s) → (∀ i, j ≤ i → c3 C i = c3 B i) → Ev G M_fo_dropThoseWith 0 0 0 (ev_qv fun h' => ∃ (C : Nat → Int64) (q : Nat), h' = va_up (va_up h b (some (fo_b G r C))) a (some (fo_c b r q)) ∧ q ≤ n ∧ li q C = (li n B).filter (fun s => !t3le (x, y, z) s)) 6 [some (.ref a), some (.long x), none, some (.long y), none, some (.long z), none, some (.int (nI q)), some (.int (nI j)), w9, w10] [] (va_up h b (some (fo_b G r C))) := by
    intro k
    induction k with
    | zero =>
      intro j q C w9 w10 hw9 hw10 hj hq hl hC
      refine ev_iload_8 i_fo_dropThoseWith_6 ?_
      refine ev_aload_0 i_fo_dropThoseWith_8 ?_
      refine ev_get i_fo_dropThoseWith_9 fl_fo_9 (by repeat (first | assumption | exact va_up_self _ _ _ | refine hu_ne (by first | assumption | exact Ne.symm (by assumption)) ?_)) rfl ?_
      refine ev_icmp_ge i_fo_dropThoseWith_12 (fun c_12 => ?_) (fun c_12 => ?_)
      · refine ev_aload_0 i_fo_dropThoseWith_140 ?_
        refine ev_iload_7 i_fo_dropThoseWith_141 ?_
        refine ev_put i_fo_dropThoseWith_143 pl_fo_dropThoseWith_9 (by repeat (first | assumption | exact va_up_self _ _ _ | refine hu_ne (by first | assumption | exact Ne.symm (by assumption)) ?_)) rfl rfl (Nat.le_of_ble_eq_true rfl) rfl ?_
        refine ev_return i_fo_dropThoseWith_146 rfl ?_
        obtain rfl : j = n := by omega
        exact ⟨rfl, C, q, rfl, hq, hl⟩
      · exact absurd (nI_le (by omega) (by omega)) c_12
    | succ k ih =>
      intro j q C w9 w10 hw9 hw10 hj hq hl hC
      have e0 : c3 C j = c3 B j := hC j (Nat.le_refl j)
      have keep : t3le (x, y, z) (c3 B j) = false → Ev G M_fo_dropThoseWith 0 0 0 (ev_qv fun h' => ∃ (C : Nat → Int64) (q : Nat), h' = va_up (va_up h b (some (fo_b G r C))) a (some (fo_c b r q)) ∧ q ≤ n ∧ li q C = (li n B).filter (fun s => !t3le (x, y, z) s)) 84 [some (.ref a), some (.long x), none, some (.long y), none, some (.long z), none, some (.int (nI q)), some (.int (nI j)), w9, w10] [] (va_up h b (some (fo_b G r C))) := by
        intro hf
        refine ev_iconst (v := 0) i_fo_dropThoseWith_84 (by decide) ?_
        refine ev_istore_9 i_fo_dropThoseWith_85 rfl ?_
        refine ev_iload_9 i_fo_dropThoseWith_87 ?_
        refine ev_if_ne i_fo_dropThoseWith_89 (fun c_89 => ?_) (fun c_89 => ?_)
        · exact absurd rfl c_89
        refine ev_iconst (v := 0) i_fo_dropThoseWith_92 (by decide) ?_
        refine ev_istore_10 i_fo_dropThoseWith_93 rfl ?_
        refine ev_iload_10 i_fo_dropThoseWith_95 ?_
        refine ev_iconst (v := 3) i_fo_dropThoseWith_97 (by decide) ?_
        refine ev_icmp_ge i_fo_dropThoseWith_98 (fun c_98 => ?_) (fun c_98 => ?_)
        · exact absurd c_98 (by decide)
        refine ev_aload_0 i_fo_dropThoseWith_101 ?_
        refine ev_get i_fo_dropThoseWith_102 fl_fo_24 (by repeat (first | assumption | exact va_up_self _ _ _ | refine hu_ne (by first | assumption | exact Ne.symm (by assumption)) ?_)) rfl ?_
        refine ev_iload_7 i_fo_dropThoseWith_105 ?_
        refine ev_iconst (v := 3) i_fo_dropThoseWith_107 (by decide) ?_
        refine ev_imul i_fo_dropThoseWith_108 ?_
        refine ev_iload_10 i_fo_dropThoseWith_109 ?_
        refine ev_iadd i_fo_dropThoseWith_111 ?_
        refine ev_aload_0 i_fo_dropThoseWith_112 ?_
        refine ev_get i_fo_dropThoseWith_113 fl_fo_24 (by repeat (first | assumption | exact va_up_self _ _ _ | refine hu_ne (by first | assumption | exact Ne.symm (by assumption)) ?_)) rfl ?_
        refine ev_iload_8 i_fo_dropThoseWith_116 ?_
        refine ev_iconst (v := 3) i_fo_dropThoseWith_118 (by decide) ?_
        refine ev_imul i_fo_dropThoseWith_119 ?_
        refine ev_iload_10 i_fo_dropThoseWith_120 ?_
        refine ev_iadd i_fo_dropThoseWith_122 ?_
        refine ev_laload i_fo_dropThoseWith_123 ty_long (by repeat (first | assumption | exact va_up_self _ _ _ | refine hu_ne (by first | assumption | exact Ne.symm (by assumption)) ?_)) (j := 3 * j) (by rw [nI_3, pk_mul, Nat.mul_comm]; exact nI_add _ 0) (by omega) (by omega) ?_
        refine ev_lastore i_fo_dropThoseWith_124 ty_long (by repeat (first | assumption | exact va_up_self _ _ _ | refine hu_ne (by first | assumption | exact Ne.symm (by assumption)) ?_)) (j := 3 * q) (by rw [nI_3, pk_mul, Nat.mul_comm]; exact nI_add _ 0) (by omega) (by omega) ?_
        rw [hu_uu]
        refine ev_iinc_10 i_fo_dropThoseWith_125 rfl rfl ?_
        refine ev_goto i_fo_dropThoseWith_128 ?_
        refine ev_iload_10 i_fo_dropThoseWith_95 ?_
        refine ev_iconst (v := 3) i_fo_dropThoseWith_97 (by decide) ?_
        refine ev_icmp_ge i_fo_dropThoseWith_98 (fun c_98 => ?_) (fun c_98 => ?_)
        · exact absurd c_98 (by decide)
        refine ev_aload_0 i_fo_dropThoseWith_101 ?_
        refine ev_get i_fo_dropThoseWith_102 fl_fo_24 (by repeat (first | assumption | exact va_up_self _ _ _ | refine hu_ne (by first | assumption | exact Ne.symm (by assumption)) ?_)) rfl ?_
        refine ev_iload_7 i_fo_dropThoseWith_105 ?_
        refine ev_iconst (v := 3) i_fo_dropThoseWith_107 (by decide) ?_
        refine ev_imul i_fo_dropThoseWith_108 ?_
        refine ev_iload_10 i_fo_dropThoseWith_109 ?_
        refine ev_iadd i_fo_dropThoseWith_111 ?_
        refine ev_aload_0 i_fo_dropThoseWith_112 ?_
        refine ev_get i_fo_dropThoseWith_113 fl_fo_24 (by repeat (first | assumption | exact va_up_self _ _ _ | refine hu_ne (by first | assumption | exact Ne.symm (by assumption)) ?_)) rfl ?_
        refine ev_iload_8 i_fo_dropThoseWith_116 ?_
        refine ev_iconst (v := 3) i_fo_dropThoseWith_118 (by decide) ?_
        refine ev_imul i_fo_dropThoseWith_119 ?_
        refine ev_iload_10 i_fo_dropThoseWith_120 ?_
        refine ev_iadd i_fo_dropThoseWith_122 ?_
        refine ev_laload i_fo_dropThoseWith_123 ty_long (by repeat (first | assumption | exact va_up_self _ _ _ | refine hu_ne (by first | assumption | exact Ne.symm (by assumption)) ?_)) (j := 3 * j + 1) (by rw [nI_3, pk_mul, Nat.mul_comm]; exact nI_add _ 1) (by omega) (by omega) ?_
        refine ev_lastore i_fo_dropThoseWith_124 ty_long (by repeat (first | assumption | exact va_up_self _ _ _ | refine hu_ne (by first | assumption | exact Ne.symm (by assumption)) ?_)) (j := 3 * q + 1) (by rw [nI_3, pk_mul, Nat.mul_comm]; exact nI_add _ 1) (by omega) (by omega) ?_
        rw [hu_uu]
        refine ev_iinc_10 i_fo_dropThoseWith_125 rfl rfl ?_
        refine ev_goto i_fo_dropThoseWith_128 ?_
        refine ev_iload_10 i_fo_dropThoseWith_95 ?_
        refine ev_iconst (v := 3) i_fo_dropThoseWith_97 (by decide) ?_
        refine ev_icmp_ge i_fo_dropThoseWith_98 (fun c_98 => ?_) (fun c_98 => ?_)
        · exact absurd c_98 (by decide)
        refine ev_aload_0 i_fo_dropThoseWith_101 ?_
        refine ev_get i_fo_dropThoseWith_102 fl_fo_24 (by repeat (first | assumption | exact va_up_self _ _ _ | refine hu_ne (by first | assumption | exact Ne.symm (by assumption)) ?_)) rfl ?_
        refine ev_iload_7 i_fo_dropThoseWith_105 ?_
        refine ev_iconst (v := 3) i_fo_dropThoseWith_107 (by decide) ?_
        refine ev_imul i_fo_dropThoseWith_108 ?_
        refine ev_iload_10 i_fo_dropThoseWith_109 ?_
        refine ev_iadd i_fo_dropThoseWith_111 ?_
        refine ev_aload_0 i_fo_dropThoseWith_112 ?_
        refine ev_get i_fo_dropThoseWith_113 fl_fo_24 (by repeat (first | assumption | exact va_up_self _ _ _ | refine hu_ne (by first | assumption | exact Ne.symm (by assumption)) ?_)) rfl ?_
        refine ev_iload_8 i_fo_dropThoseWith_116 ?_
        refine ev_iconst (v := 3) i_fo_dropThoseWith_118 (by decide) ?_
        refine ev_imul i_fo_dropThoseWith_119 ?_
        refine ev_iload_10 i_fo_dropThoseWith_120 ?_
        refine ev_iadd i_fo_dropThoseWith_122 ?_
        refine ev_laload i_fo_dropThoseWith_123 ty_long (by repeat (first | assumption | exact va_up_self _ _ _ | refine hu_ne (by first | assumption | exact Ne.symm (by assumption)) ?_)) (j := 3 * j + 2) (by rw [nI_3, pk_mul, Nat.mul_comm]; exact nI_add _ 2) (by omega) (by omega) ?_
        refine ev_lastore i_fo_dropThoseWith_124 ty_long (by repeat (first | assumption | exact va_up_self _ _ _ | refine hu_ne (by first | assumption | exact Ne.symm (by assumption)) ?_)) (j := 3 * q + 2) (by rw [nI_3, pk_mul, Nat.mul_comm]; exact nI_add _ 2) (by omega) (by omega) ?_
        rw [hu_uu]
        refine ev_iinc_10 i_fo_dropThoseWith_125 rfl rfl ?_
        refine ev_goto i_fo_dropThoseWith_128 ?_
        refine ev_iload_10 i_fo_dropThoseWith_95 ?_
        refine ev_iconst (v := 3) i_fo_dropThoseWith_97 (by decide) ?_
        refine ev_icmp_ge i_fo_dropThoseWith_98 (fun c_98 => ?_) (fun c_98 => ?_)
        rotate_left
        · exact absurd (by decide) c_98
        refine ev_iinc_7 i_fo_dropThoseWith_131 (nI_1 q) rfl ?_
        refine ev_iinc_8 i_fo_dropThoseWith_134 (nI_1 j) rfl ?_
        refine ev_goto i_fo_dropThoseWith_137 ?_
        refine ih (j + 1) (q + 1) _ _ _ rfl rfl (by omega) (by omega) ?_ ?_
        · rw [li_succ, li_succ, List.filter_append, ← hl]
          have f1 : (List.filter (fun s => !t3le (x, y, z) s) [c3 B j]) = [c3 B j] := by simp [hf]
          rw [f1, dc_move hq q (Or.inr (Or.inl rfl)), if_pos rfl, e0]
          congr 1
          refine li_congr (fun i hi => ?_)
          rw [dc_move hq i (Or.inl hi), if_neg (by omega)]
        · intro i hi
          rw [dc_move hq i (Or.inr (Or.inr (by omega))), if_neg (by omega)]
          exact hC i (by omega)
      refine ev_iload_8 i_fo_dropThoseWith_6 ?_
      refine ev_aload_0 i_fo_dropThoseWith_8 ?_
      refine ev_get i_fo_dropThoseWith_9 fl_fo_9 (by repeat (first | assumption | exact va_up_self _ _ _ | refine hu_ne (by first | assumption | exact Ne.symm (by assumption)) ?_)) rfl ?_
      refine ev_icmp_ge i_fo_dropThoseWith_12 (fun c_12 => ?_) (fun c_12 => ?_)
      · exact absurd c_12 (nI_ge (by omega) (by omega))
      refine ev_lload_1 i_fo_dropThoseWith_15 ?_
      refine ev_aload_0 i_fo_dropThoseWith_16 ?_
      refine ev_get i_fo_dropThoseWith_17 fl_fo_24 (by repeat (first | assumption | exact va_up_self _ _ _ | refine hu_ne (by first | assumption | exact Ne.symm (by assumption)) ?_)) rfl ?_
      refine ev_iload_8 i_fo_dropThoseWith_20 ?_
      refine ev_iconst (v := 3) i_fo_dropThoseWith_22 (by decide) ?_
      refine ev_imul i_fo_dropThoseWith_23 ?_
      refine ev_laload i_fo_dropThoseWith_24 ty_long (by repeat (first | assumption | exact va_up_self _ _ _ | refine hu_ne (by first | assumption | exact Ne.symm (by assumption)) ?_)) (j := 3 * j) (by rw [nI_3, pk_mul, Nat.mul_comm]) (by omega) (by omega) ?_
      refine ev_ldc2 i_fo_dropThoseWith_25 kc_fo_55 ?_
      refine ev_lxor i_fo_dropThoseWith_28 ?_
      refine ev_land i_fo_dropThoseWith_29 ?_
      refine ev_lconst (v := 0) i_fo_dropThoseWith_30 (by decide) ?_
      refine ev_lcmp i_fo_dropThoseWith_31 ?_
      refine ev_if_ne i_fo_dropThoseWith_32 (fun c_32 => ?_) (fun c_32 => ?_)
      · exact keep (by rw [← e0]; exact t3le_1 (by rw [lg_cmp0] at c_32; exact c_32))
      refine ev_lload_3 i_fo_dropThoseWith_35 ?_
      refine ev_aload_0 i_fo_dropThoseWith_36 ?_
      refine ev_get i_fo_dropThoseWith_37 fl_fo_24 (by repeat (first | assumption | exact va_up_self _ _ _ | refine hu_ne (by first | assumption | exact Ne.symm (by assumption)) ?_)) rfl ?_
      refine ev_iload_8 i_fo_dropThoseWith_40 ?_
      refine ev_iconst (v := 3) i_fo_dropThoseWith_42 (by decide) ?_
      refine ev_imul i_fo_dropThoseWith_43 ?_
      refine ev_iconst (v := 1) i_fo_dropThoseWith_44 (by decide) ?_
      refine ev_iadd i_fo_dropThoseWith_45 ?_
      refine ev_laload i_fo_dropThoseWith_46 ty_long (by repeat (first | assumption | exact va_up_self _ _ _ | refine hu_ne (by first | assumption | exact Ne.symm (by assumption)) ?_)) (j := 3 * j + 1) (by rw [nI_3, pk_mul, Nat.mul_comm, nI_1]) (by omega) (by omega) ?_
      refine ev_ldc2 i_fo_dropThoseWith_47 kc_fo_55 ?_
      refine ev_lxor i_fo_dropThoseWith_50 ?_
      refine ev_land i_fo_dropThoseWith_51 ?_
      refine ev_lconst (v := 0) i_fo_dropThoseWith_52 (by decide) ?_
      refine ev_lcmp i_fo_dropThoseWith_53 ?_
      refine ev_if_ne i_fo_dropThoseWith_54 (fun c_54 => ?_) (fun c_54 => ?_)
      · exact keep (by rw [← e0]; exact t3le_2 (by rw [lg_cmp0] at c_54; exact c_54))
      refine ev_lload_5 i_fo_dropThoseWith_57 ?_
      refine ev_aload_0 i_fo_dropThoseWith_59 ?_
      refine ev_get i_fo_dropThoseWith_60 fl_fo_24 (by repeat (first | assumption | exact va_up_self _ _ _ | refine hu_ne (by first | assumption | exact Ne.symm (by assumption)) ?_)) rfl ?_
      refine ev_iload_8 i_fo_dropThoseWith_63 ?_
      refine ev_iconst (v := 3) i_fo_dropThoseWith_65 (by decide) ?_
      refine ev_imul i_fo_dropThoseWith_66 ?_
      refine ev_iconst (v := 2) i_fo_dropThoseWith_67 (by decide) ?_
      refine ev_iadd i_fo_dropThoseWith_68 ?_
      refine ev_laload i_fo_dropThoseWith_69 ty_long (by repeat (first | assumption | exact va_up_self _ _ _ | refine hu_ne (by first | assumption | exact Ne.symm (by assumption)) ?_)) (j := 3 * j + 2) (by rw [nI_3, pk_mul, Nat.mul_comm]; exact nI_add _ 2) (by omega) (by omega) ?_
      refine ev_ldc2 i_fo_dropThoseWith_70 kc_fo_55 ?_
      refine ev_lxor i_fo_dropThoseWith_73 ?_
      refine ev_land i_fo_dropThoseWith_74 ?_
      refine ev_lconst (v := 0) i_fo_dropThoseWith_75 (by decide) ?_
      refine ev_lcmp i_fo_dropThoseWith_76 ?_
      refine ev_if_ne i_fo_dropThoseWith_77 (fun c_77 => ?_) (fun c_77 => ?_)
      · exact keep (by rw [← e0]; exact t3le_3 (by rw [lg_cmp0] at c_77; exact c_77))
      refine ev_iconst (v := 1) i_fo_dropThoseWith_80 (by decide) ?_
      refine ev_goto i_fo_dropThoseWith_81 ?_
      refine ev_istore_9 i_fo_dropThoseWith_85 rfl ?_
      refine ev_iload_9 i_fo_dropThoseWith_87 ?_
      refine ev_if_ne i_fo_dropThoseWith_89 (fun c_89 => ?_) (fun c_89 => ?_)
      rotate_left
      · exact absurd c_89 (by decide)
      rw [lg_cmp0] at c_32 c_54 c_77
      have ht : t3le (x, y, z) (c3 B j) = true := by rw [← e0]; exact t3le_t c_32 c_54 c_77
      refine ev_iinc_8 i_fo_dropThoseWith_134 (nI_1 j) rfl ?_
      refine ev_goto i_fo_dropThoseWith_137 ?_
      refine ih (j + 1) q C _ _ rfl hw10 (by omega) (by omega) ?_ (fun i hi => hC i (by omega))
      rw [li_succ, List.filter_append, ← hl]
      simp [ht]
  have := loop n 0 0 B none none rfl rfl (by omega) (Nat.le_refl 0) rfl (fun _ _ => rfl)
  rw [hu_self hb] at this
  exact this
/-- a choice comes to a row: not if one of the row lies within it; else those go in which it lies -/
def ins3 (r : Nat) (X : List T3) (x : T3) : List T3 := if X.any (fun q => t3le q x) then X else if (X.filter (fun s => !t3le x s)).length < r then X.filter (fun s => !t3le x s) ++ [x] else X.filter (fun s => !t3le x s)
theorem li_push {C : Nat → Int64} {q : Nat} {x y z : Int64} : li (q + 1) (vp_updL (vp_updL (vp_updL C (3 * q) x) (3 * q + 1) y) (3 * q + 2) z) = li q C ++ [(x, y, z)] := by
  rw [li_succ]
  congr 1
  · refine li_congr (fun i hi => ?_)
    unfold c3 vp_updL
    rw [if_neg (by omega), if_neg (by omega), if_neg (by omega), if_neg (by omega), if_neg (by omega), if_neg (by omega), if_neg (by omega), if_neg (by omega), if_neg (by omega)]
  · unfold c3 vp_updL
    simp
theorem if_10 {c : Prop} [Decidable c] (h : (if c then (1 : Int32) else 0) = 0) : ¬ c := fun hc => by rw [if_pos hc] at h; exact absurd h (by decide)
theorem if_11 {c : Prop} [Decidable c] (h : ¬ (if c then (1 : Int32) else 0) = 0) : c := Decidable.byContradiction (fun hc => h (by rw [if_neg hc]))
theorem r_fo_addJoined {a b r n a1 b1 r1 n1 a2 b2 r2 n2 i k : Nat} {B B1 B2 : Nat → Int64} (ha : h a = some (fo_c b r n)) (hb : h b = some (fo_b G r B)) (hr : r < 2 ^ 20) (hn : n ≤ r)
    (ha1 : h a1 = some (fo_c b1 r1 n1)) (hb1 : h b1 = some (fo_b G r1 B1)) (hr1 : r1 < 2 ^ 20) (hn1 : n1 ≤ r1) (hi : i < n1) (ha2 : h a2 = some (fo_c b2 r2 n2)) (hb2 : h b2 = some (fo_b G r2 B2)) (hr2 : r2 < 2 ^ 20) (hn2 : n2 ≤ r2) (hk : k < n2) :
    Rn G M_fo_addJoined 1 0 0 [.ref a, .ref a1, .int (nI i), .ref a2, .int (nI k)] h (ev_qv fun h' => ∃ (C : Nat → Int64) (q : Nat), h' = va_up (va_up h b (some (fo_b G r C))) a (some (fo_c b r q)) ∧ q ≤ r ∧ li q C = ins3 r (li n B) (t3or (c3 B1 i) (c3 B2 k))) := by
  have hab : a ≠ b := by intro e; subst e; rw [ha] at hb; cases hb
  refine Rn_of (ls := [some (.ref a), some (.ref a1), some (.int (nI i)), some (.ref a2), some (.int (nI k)), none, none, none, none, none, none]) rfl rfl (Nat.le_of_ble_eq_true rfl) rfl ?_
  refine ev_aload_1 i_fo_addJoined_0 ?_
  refine ev_get i_fo_addJoined_1 fl_fo_24 (by repeat (first | assumption | exact va_up_self _ _ _ | refine hu_ne (by first | assumption | exact Ne.symm (by assumption)) ?_)) rfl ?_
  refine ev_iload_2 i_fo_addJoined_4 ?_
  refine ev_iconst (v := 3) i_fo_addJoined_5 (by decide) ?_
  refine ev_imul i_fo_addJoined_6 ?_
  refine ev_laload i_fo_addJoined_7 ty_long (by repeat (first | assumption | exact va_up_self _ _ _ | refine hu_ne (by first | assumption | exact Ne.symm (by assumption)) ?_)) (j := 3 * i) (by rw [nI_3, pk_mul, Nat.mul_comm]) (by omega) (by omega) ?_
  refine ev_aload_3 i_fo_addJoined_8 ?_
  refine ev_get i_fo_addJoined_9 fl_fo_24 (by repeat (first | assumption | exact va_up_self _ _ _ | refine hu_ne (by first | assumption | exact Ne.symm (by assumption)) ?_)) rfl ?_
  refine ev_iload_4 i_fo_addJoined_12 ?_
  refine ev_iconst (v := 3) i_fo_addJoined_14 (by decide) ?_
  refine ev_imul i_fo_addJoined_15 ?_
  refine ev_laload i_fo_addJoined_16 ty_long (by repeat (first | assumption | exact va_up_self _ _ _ | refine hu_ne (by first | assumption | exact Ne.symm (by assumption)) ?_)) (j := 3 * k) (by rw [nI_3, pk_mul, Nat.mul_comm]) (by omega) (by omega) ?_
  refine ev_lor i_fo_addJoined_17 ?_
  refine ev_lstore_5 i_fo_addJoined_18 rfl ?_
  refine ev_aload_1 i_fo_addJoined_20 ?_
  refine ev_get i_fo_addJoined_21 fl_fo_24 (by repeat (first | assumption | exact va_up_self _ _ _ | refine hu_ne (by first | assumption | exact Ne.symm (by assumption)) ?_)) rfl ?_
  refine ev_iload_2 i_fo_addJoined_24 ?_
  refine ev_iconst (v := 3) i_fo_addJoined_25 (by decide) ?_
  refine ev_imul i_fo_addJoined_26 ?_
  refine ev_iconst (v := 1) i_fo_addJoined_27 (by decide) ?_
  refine ev_iadd i_fo_addJoined_28 ?_
  refine ev_laload i_fo_addJoined_29 ty_long (by repeat (first | assumption | exact va_up_self _ _ _ | refine hu_ne (by first | assumption | exact Ne.symm (by assumption)) ?_)) (j := 3 * i + 1) (by rw [nI_3, pk_mul, Nat.mul_comm, nI_1]) (by omega) (by omega) ?_
  refine ev_aload_3 i_fo_addJoined_30 ?_
  refine ev_get i_fo_addJoined_31 fl_fo_24 (by repeat (first | assumption | exact va_up_self _ _ _ | refine hu_ne (by first | assumption | exact Ne.symm (by assumption)) ?_)) rfl ?_
  refine ev_iload_4 i_fo_addJoined_34 ?_
  refine ev_iconst (v := 3) i_fo_addJoined_36 (by decide) ?_
  refine ev_imul i_fo_addJoined_37 ?_
  refine ev_iconst (v := 1) i_fo_addJoined_38 (by decide) ?_
  refine ev_iadd i_fo_addJoined_39 ?_
  refine ev_laload i_fo_addJoined_40 ty_long (by repeat (first | assumption | exact va_up_self _ _ _ | refine hu_ne (by first | assumption | exact Ne.symm (by assumption)) ?_)) (j := 3 * k + 1) (by rw [nI_3, pk_mul, Nat.mul_comm, nI_1]) (by omega) (by omega) ?_
  refine ev_lor i_fo_addJoined_41 ?_
  refine ev_lstore_7 i_fo_addJoined_42 rfl ?_
  refine ev_aload_1 i_fo_addJoined_44 ?_
  refine ev_get i_fo_addJoined_45 fl_fo_24 (by repeat (first | assumption | exact va_up_self _ _ _ | refine hu_ne (by first | assumption | exact Ne.symm (by assumption)) ?_)) rfl ?_
  refine ev_iload_2 i_fo_addJoined_48 ?_
  refine ev_iconst (v := 3) i_fo_addJoined_49 (by decide) ?_
  refine ev_imul i_fo_addJoined_50 ?_
  refine ev_iconst (v := 2) i_fo_addJoined_51 (by decide) ?_
  refine ev_iadd i_fo_addJoined_52 ?_
  refine ev_laload i_fo_addJoined_53 ty_long (by repeat (first | assumption | exact va_up_self _ _ _ | refine hu_ne (by first | assumption | exact Ne.symm (by assumption)) ?_)) (j := 3 * i + 2) (by rw [nI_3, pk_mul, Nat.mul_comm]; exact nI_add _ 2) (by omega) (by omega) ?_
  refine ev_aload_3 i_fo_addJoined_54 ?_
  refine ev_get i_fo_addJoined_55 fl_fo_24 (by repeat (first | assumption | exact va_up_self _ _ _ | refine hu_ne (by first | assumption | exact Ne.symm (by assumption)) ?_)) rfl ?_
  refine ev_iload_4 i_fo_addJoined_58 ?_
  refine ev_iconst (v := 3) i_fo_addJoined_60 (by decide) ?_
  refine ev_imul i_fo_addJoined_61 ?_
  refine ev_iconst (v := 2) i_fo_addJoined_62 (by decide) ?_
  refine ev_iadd i_fo_addJoined_63 ?_
  refine ev_laload i_fo_addJoined_64 ty_long (by repeat (first | assumption | exact va_up_self _ _ _ | refine hu_ne (by first | assumption | exact Ne.symm (by assumption)) ?_)) (j := 3 * k + 2) (by rw [nI_3, pk_mul, Nat.mul_comm]; exact nI_add _ 2) (by omega) (by omega) ?_
  refine ev_lor i_fo_addJoined_65 ?_
  refine ev_lstore_9 i_fo_addJoined_66 rfl ?_
  refine ev_aload_0 i_fo_addJoined_68 ?_
  refine ev_lload_5 i_fo_addJoined_69 ?_
  refine ev_lload_7 i_fo_addJoined_71 ?_
  refine ev_lload_9 i_fo_addJoined_73 ?_
  refine ev_vi3 i_fo_addJoined_75 lk_fo_47 cb_fo_hasOneWithin iv_fo_hasOneWithin (r_fo_hasOneWithin ha hb hr hn) (by repeat (first | assumption | exact va_up_self _ _ _ | refine hu_ne (by first | assumption | exact Ne.symm (by assumption)) ?_)) rfl (by decide) (Nat.le_of_ble_eq_true rfl) rfl rfl (fun v h1 hp => ?_)
  obtain ⟨rfl, rfl⟩ := hp
  refine ev_if_eq i_fo_addJoined_78 (fun c_78 => ?_) (fun c_78 => ?_)
  rotate_left
  · have ht := if_11 c_78
    refine ev_return i_fo_addJoined_81 rfl ?_
    refine ⟨rfl, B, n, ?_, hn, ?_⟩
    · rw [hu_self hb, hu_self ha]
    · unfold ins3
      rw [if_pos]
      exact ht
  have hf : ¬ ((li n B).any (fun q => t3le q (t3or (c3 B1 i) (c3 B2 k))) = true) := if_10 c_78
  refine ev_aload_0 i_fo_addJoined_82 ?_
  refine ev_lload_5 i_fo_addJoined_83 ?_
  refine ev_lload_7 i_fo_addJoined_85 ?_
  refine ev_lload_9 i_fo_addJoined_87 ?_
  refine ev_vv3 i_fo_addJoined_89 lk_fo_51 cb_fo_dropThoseWith iv_fo_dropThoseWith (r_fo_dropThoseWith ha hb hr hn) (by repeat (first | assumption | exact va_up_self _ _ _ | refine hu_ne (by first | assumption | exact Ne.symm (by assumption)) ?_)) rfl (by decide) (Nat.le_of_ble_eq_true rfl) rfl rfl (fun h2 hp => ?_)
  obtain ⟨C, q, rfl, hq, hl⟩ := hp
  have hlen : q = ((li n B).filter (fun s => !t3le (t3or (c3 B1 i) (c3 B2 k)) s)).length := by
    have := congrArg List.length hl
    rw [li_len] at this
    exact this
  refine ev_aload_0 i_fo_addJoined_92 ?_
  refine ev_get i_fo_addJoined_93 fl_fo_9 (by repeat (first | assumption | exact va_up_self _ _ _ | refine hu_ne (by first | assumption | exact Ne.symm (by assumption)) ?_)) rfl ?_
  refine ev_aload_0 i_fo_addJoined_96 ?_
  refine ev_get i_fo_addJoined_97 fl_fo_21 (by repeat (first | assumption | exact va_up_self _ _ _ | refine hu_ne (by first | assumption | exact Ne.symm (by assumption)) ?_)) rfl ?_
  refine ev_icmp_ge i_fo_addJoined_100 (fun c_100 => ?_) (fun c_100 => ?_)
  · have hge : ¬ q < r := fun z => absurd c_100 (nI_ge z (by omega))
    refine ev_return i_fo_addJoined_156 rfl ?_
    refine ⟨rfl, C, q, rfl, by omega, ?_⟩
    unfold ins3
    rw [if_neg hf, if_neg (by rw [← hlen]; exact hge)]
    exact hl
  · have hlt : q < r := by
      rcases Nat.lt_or_ge q r with z | z
      · exact z
      · exact absurd (nI_le z (by omega)) c_100
    refine ev_aload_0 i_fo_addJoined_103 ?_
    refine ev_get i_fo_addJoined_104 fl_fo_24 (by repeat (first | assumption | exact va_up_self _ _ _ | refine hu_ne (by first | assumption | exact Ne.symm (by assumption)) ?_)) rfl ?_
    refine ev_aload_0 i_fo_addJoined_107 ?_
    refine ev_get i_fo_addJoined_108 fl_fo_9 (by repeat (first | assumption | exact va_up_self _ _ _ | refine hu_ne (by first | assumption | exact Ne.symm (by assumption)) ?_)) rfl ?_
    refine ev_iconst (v := 3) i_fo_addJoined_111 (by decide) ?_
    refine ev_imul i_fo_addJoined_112 ?_
    refine ev_lload_5 i_fo_addJoined_113 ?_
    refine ev_lastore i_fo_addJoined_115 ty_long (by repeat (first | assumption | exact va_up_self _ _ _ | refine hu_ne (by first | assumption | exact Ne.symm (by assumption)) ?_)) (j := 3 * q) (by rw [nI_3, pk_mul, Nat.mul_comm]) (by omega) (by omega) ?_
    refine ev_aload_0 i_fo_addJoined_116 ?_
    refine ev_get i_fo_addJoined_117 fl_fo_24 (by repeat (first | assumption | exact va_up_self _ _ _ | refine hu_ne (by first | assumption | exact Ne.symm (by assumption)) ?_)) rfl ?_
    refine ev_aload_0 i_fo_addJoined_120 ?_
    refine ev_get i_fo_addJoined_121 fl_fo_9 (by repeat (first | assumption | exact va_up_self _ _ _ | refine hu_ne (by first | assumption | exact Ne.symm (by assumption)) ?_)) rfl ?_
    refine ev_iconst (v := 3) i_fo_addJoined_124 (by decide) ?_
    refine ev_imul i_fo_addJoined_125 ?_
    refine ev_iconst (v := 1) i_fo_addJoined_126 (by decide) ?_
    refine ev_iadd i_fo_addJoined_127 ?_
    refine ev_lload_7 i_fo_addJoined_128 ?_
    refine ev_lastore i_fo_addJoined_130 ty_long (by repeat (first | assumption | exact va_up_self _ _ _ | refine hu_ne (by first | assumption | exact Ne.symm (by assumption)) ?_)) (j := 3 * q + 1) (by rw [nI_3, pk_mul, Nat.mul_comm, nI_1]) (by omega) (by omega) ?_
    refine ev_aload_0 i_fo_addJoined_131 ?_
    refine ev_get i_fo_addJoined_132 fl_fo_24 (by repeat (first | assumption | exact va_up_self _ _ _ | refine hu_ne (by first | assumption | exact Ne.symm (by assumption)) ?_)) rfl ?_
    refine ev_aload_0 i_fo_addJoined_135 ?_
    refine ev_get i_fo_addJoined_136 fl_fo_9 (by repeat (first | assumption | exact va_up_self _ _ _ | refine hu_ne (by first | assumption | exact Ne.symm (by assumption)) ?_)) rfl ?_
    refine ev_iconst (v := 3) i_fo_addJoined_139 (by decide) ?_
    refine ev_imul i_fo_addJoined_140 ?_
    refine ev_iconst (v := 2) i_fo_addJoined_141 (by decide) ?_
    refine ev_iadd i_fo_addJoined_142 ?_
    refine ev_lload_9 i_fo_addJoined_143 ?_
    refine ev_lastore i_fo_addJoined_145 ty_long (by repeat (first | assumption | exact va_up_self _ _ _ | refine hu_ne (by first | assumption | exact Ne.symm (by assumption)) ?_)) (j := 3 * q + 2) (by rw [nI_3, pk_mul, Nat.mul_comm]; exact nI_add _ 2) (by omega) (by omega) ?_
    refine ev_aload_0 i_fo_addJoined_146 ?_
    refine ev_dup i_fo_addJoined_147 rfl ?_
    refine ev_get i_fo_addJoined_148 fl_fo_9 (by repeat (first | assumption | exact va_up_self _ _ _ | refine hu_ne (by first | assumption | exact Ne.symm (by assumption)) ?_)) rfl ?_
    refine ev_iconst (v := 1) i_fo_addJoined_151 (by decide) ?_
    refine ev_iadd i_fo_addJoined_152 ?_
    refine ev_top (nI_1 q) ?_
    refine ev_put i_fo_addJoined_153 pl_fo_addJoined_9 (by repeat (first | assumption | exact va_up_self _ _ _ | refine hu_ne (by first | assumption | exact Ne.symm (by assumption)) ?_)) rfl rfl (Nat.le_of_ble_eq_true rfl) rfl ?_
    refine ev_return i_fo_addJoined_156 rfl ?_
    refine ⟨rfl, vp_updL (vp_updL (vp_updL C (3 * q) (t3or (c3 B1 i) (c3 B2 k)).1) (3 * q + 1) (t3or (c3 B1 i) (c3 B2 k)).2.1) (3 * q + 2) (t3or (c3 B1 i) (c3 B2 k)).2.2, q + 1, ?_, by omega, ?_⟩
    rotate_left
    · rw [li_push, hl]
      unfold ins3
      rw [if_neg hf, if_pos (by rw [← hlen]; exact hlt)]
      rfl
    · simp only [hu_uu]
      rw [hu_comm hab]
      simp only [hu_uu]
      rfl
theorem cpy_c3 {f g : Nat → Int64} {n i : Nat} (hi : i < n) : c3 (va_cpy f g 0 0 (3 * n)) i = c3 f i := by
  unfold c3
  rw [pk_cpy_in (by omega) (by omega), pk_cpy_in (by omega) (by omega), pk_cpy_in (by omega) (by omega)]
  simp
theorem li_take {k n : Nat} {B : Nat → Int64} (hk : k ≤ n) : li k B = (li n B).take k := by
  unfold li
  rw [← List.map_take, List.take_range, Nat.min_eq_left hk]
/-- copyFrom: the first ones that there is room for -/
theorem r_fo_copyFrom {a b r n a1 b1 r1 n1 : Nat} {B B1 : Nat → Int64} (ha : h a = some (fo_c b r n)) (hb : h b = some (fo_b G r B)) (hr : r < 2 ^ 20) (ha1 : h a1 = some (fo_c b1 r1 n1)) (hb1 : h b1 = some (fo_b G r1 B1)) (hr1 : r1 < 2 ^ 20) (hn1 : n1 ≤ r1) (hne : a1 ≠ a) :
    Rn G M_fo_copyFrom 1 0 0 [.ref a, .ref a1] h (ev_qv fun h' => ∃ (C : Nat → Int64), h' = va_up (va_up h b (some (fo_b G r C))) a (some (fo_c b r (min n1 r))) ∧ li (min n1 r) C = (li n1 B1).take r) := by
  have hab : a ≠ b := by intro e; subst e; rw [ha] at hb; cases hb
  have hab1 : a ≠ b1 := by intro e; subst e; rw [ha] at hb1; cases hb1
  have hmin : (if nI r < nI n1 then nI r else nI n1) = nI (min n1 r) := by
    rcases Nat.lt_or_ge r n1 with z | z
    · rw [if_pos (nI_lt z (by omega)), Nat.min_eq_right (by omega)]
    · rw [if_neg (nI_nlt z (by omega)), Nat.min_eq_left z]
  refine Rn_of (ls := [some (.ref a), some (.ref a1)]) rfl rfl (Nat.le_of_ble_eq_true rfl) rfl ?_
  refine ev_aload_0 i_fo_copyFrom_0 ?_
  refine ev_aload_1 i_fo_copyFrom_1 ?_
  refine ev_get i_fo_copyFrom_2 fl_fo_9 (by repeat (first | assumption | exact va_up_self _ _ _ | refine hu_ne (by first | assumption | exact Ne.symm (by assumption)) ?_)) rfl ?_
  refine ev_aload_0 i_fo_copyFrom_5 ?_
  refine ev_get i_fo_copyFrom_6 fl_fo_21 (by repeat (first | assumption | exact va_up_self _ _ _ | refine hu_ne (by first | assumption | exact Ne.symm (by assumption)) ?_)) rfl ?_
  refine ev_mmin i_fo_copyFrom_9 ma_fo_28 (by decide) (Nat.le_of_ble_eq_true rfl) ?_
  refine ev_top hmin ?_
  refine ev_put i_fo_copyFrom_12 pl_fo_copyFrom_9 (by repeat (first | assumption | exact va_up_self _ _ _ | refine hu_ne (by first | assumption | exact Ne.symm (by assumption)) ?_)) rfl rfl (Nat.le_of_ble_eq_true rfl) rfl ?_
  refine ev_aload_1 i_fo_copyFrom_15 ?_
  refine ev_get i_fo_copyFrom_16 fl_fo_24 (by repeat (first | assumption | exact va_up_self _ _ _ | refine hu_ne (by first | assumption | exact Ne.symm (by assumption)) ?_)) rfl ?_
  refine ev_iconst (v := 0) i_fo_copyFrom_19 (by decide) ?_
  refine ev_aload_0 i_fo_copyFrom_20 ?_
  refine ev_get i_fo_copyFrom_21 fl_fo_24 (by repeat (first | assumption | exact va_up_self _ _ _ | refine hu_ne (by first | assumption | exact Ne.symm (by assumption)) ?_)) rfl ?_
  refine ev_iconst (v := 0) i_fo_copyFrom_24 (by decide) ?_
  refine ev_aload_0 i_fo_copyFrom_25 ?_
  refine ev_get i_fo_copyFrom_26 fl_fo_9 (by repeat (first | assumption | exact va_up_self _ _ _ | refine hu_ne (by first | assumption | exact Ne.symm (by assumption)) ?_)) rfl ?_
  refine ev_iconst (v := 3) i_fo_copyFrom_29 (by decide) ?_
  refine ev_imul i_fo_copyFrom_30 ?_
  refine ev_copyl i_fo_copyFrom_31 yc_fo_31 yc_2 yc_3 yc_4 ty_long (by repeat (first | assumption | exact va_up_self _ _ _ | refine hu_ne (by first | assumption | exact Ne.symm (by assumption)) ?_)) (by repeat (first | assumption | exact va_up_self _ _ _ | refine hu_ne (by first | assumption | exact Ne.symm (by assumption)) ?_)) (sp := 0) (dp := 0) (n := 3 * min n1 r) rfl rfl (by rw [nI_3, pk_mul, Nat.mul_comm]) (by omega) (by omega) (by omega) (by omega) (by decide) (Nat.le_of_ble_eq_true rfl) ?_
  refine ev_return i_fo_copyFrom_34 rfl ?_
  refine ⟨rfl, va_cpy B1 B 0 0 (3 * min n1 r), ?_, ?_⟩
  · rw [hu_comm hab]; rfl
  · rw [li_congr (fun i hi => cpy_c3 hi), li_take (Nat.min_le_left n1 r)]
    rcases Nat.lt_or_ge r n1 with z | z
    · rw [Nat.min_eq_right (by omega)]
    · rw [Nat.min_eq_left z, List.take_of_length_le (by rw [li_len]; exact Nat.le_refl _), List.take_of_length_le (by rw [li_len]; exact z)]
end FO
end
section
section FO2
variable {G : ev_G} {h : ev_H}
/-- how many of the first n are there -/
def sumb (f : Nat → Bool) : Nat → Nat
  | 0 => 0
  | n + 1 => sumb f n + (if f n then 1 else 0)
theorem sumb_le (f : Nat → Bool) (n : Nat) : sumb f n ≤ n := by
  induction n with
  | zero => exact Nat.le_refl 0
  | succ n ih => unfold sumb; split <;> omega
theorem r_fo_init {a r : Nat} (ha : h a = some (.inr (0, [.int 0, .null, .int 0]))) (hr1 : 1 ≤ r) (hr : r < 2 ^ 18) :
    Rn G M_fo_init 1 1 (3 * r) [.ref a, .int (nI r)] h (ev_qv fun h' => ∃ b : Nat, b ≠ a ∧ h b = none ∧ h' = va_up (va_up h b (some (fo_b G r (fun _ => 0)))) a (some (fo_c b r 0))) := by
  refine Rn_of (ls := [some (.ref a), some (.int (nI r))]) rfl rfl (Nat.le_of_ble_eq_true rfl) rfl ?_
  refine ev_aload_0 i_fo_init_0 ?_
  refine ev_obj i_fo_init_1 ob_fo_3 ob_2 ob_3 (by decide) (Nat.le_of_ble_eq_true rfl) ?_
  refine ev_aload_0 i_fo_init_4 ?_
  refine ev_iconst (v := 0) i_fo_init_5 (by decide) ?_
  refine ev_put i_fo_init_6 pl_fo_init_9 (by repeat (first | assumption | exact va_up_self _ _ _ | refine hu_ne (by first | assumption | exact Ne.symm (by assumption)) ?_)) rfl rfl (Nat.le_of_ble_eq_true rfl) rfl ?_
  refine ev_aload_0 i_fo_init_9 ?_
  refine ev_iload_1 i_fo_init_10 ?_
  refine ev_iconst (v := 1) i_fo_init_11 (by decide) ?_
  refine ev_mmax i_fo_init_12 ma_fo_15 (by decide) (Nat.le_of_ble_eq_true rfl) ?_
  refine ev_top (show (if nI r < 1 then 1 else nI r) = nI r from if_neg (nI_nlt hr1 (by omega) : ¬ nI r < nI 1)) ?_
  refine ev_put i_fo_init_15 pl_fo_init_21 (by repeat (first | assumption | exact va_up_self _ _ _ | refine hu_ne (by first | assumption | exact Ne.symm (by assumption)) ?_)) rfl rfl (Nat.le_of_ble_eq_true rfl) rfl ?_
  refine ev_aload_0 i_fo_init_18 ?_
  refine ev_aload_0 i_fo_init_19 ?_
  refine ev_get i_fo_init_20 fl_fo_21 (by repeat (first | assumption | exact va_up_self _ _ _ | refine hu_ne (by first | assumption | exact Ne.symm (by assumption)) ?_)) rfl ?_
  refine ev_iconst (v := 3) i_fo_init_23 (by decide) ?_
  refine ev_imul i_fo_init_24 ?_
  refine ev_top (show nI r * 3 = nI (3 * r) from by rw [nI_3, pk_mul, Nat.mul_comm]) ?_
  refine ev_newa (N := 3 * r) (a0 := (3 * r, .inr (.inl (fun _ => 0)))) (kc' := 0) (ks' := 0) i_fo_init_25 rfl ty_long ac_long (fun _ => rfl) rfl (by omega) rfl (by omega) (fun q hq => ?_)
  have hqa : q ≠ a := by
    intro e
    subst e
    rw [va_up_self] at hq
    cases hq
  refine ev_put i_fo_init_27 pl_fo_init_24 (by repeat (first | assumption | exact va_up_self _ _ _ | refine hu_ne (by first | assumption | exact Ne.symm (by assumption)) ?_)) rfl rfl (Nat.le_of_ble_eq_true rfl) rfl ?_
  refine ev_return i_fo_init_30 rfl ?_
  refine ⟨rfl, q, hqa, ?_, ?_⟩
  · simp only [va_up_ne _ _ hqa] at hq
    exact hq
  · simp only [hu_uu]
    rw [hu_comm (Ne.symm hqa)]
    simp only [hu_uu]
    rfl
def t3p (c i : Nat) : Int64 := if c / 64 = i then (1 : Int64) <<< ((nI (c % 64)).toInt64 &&& 63) else 0
def t3of (c : Nat) : T3 := (t3p c 0, t3p c 1, t3p c 2)
theorem r_fo_setOnly {a b r n c : Nat} {B : Nat → Int64} (ha : h a = some (fo_c b r n)) (hb : h b = some (fo_b G r B)) (hr1 : 1 ≤ r) (hr : r < 2 ^ 20) (hc : c < 192) :
    Rn G M_fo_setOnly 0 0 0 [.ref a, .int (nI c)] h (ev_qv fun h' => ∃ C : Nat → Int64, h' = va_up (va_up h b (some (fo_b G r C))) a (some (fo_c b r 1)) ∧ li 1 C = [t3of c]) := by
  have hab : a ≠ b := by intro e; subst e; rw [ha] at hb; cases hb
  refine Rn_of (ls := [some (.ref a), some (.int (nI c)), none]) rfl rfl (Nat.le_of_ble_eq_true rfl) rfl ?_
  refine ev_iconst (v := 0) i_fo_setOnly_0 (by decide) ?_
  refine ev_istore_2 i_fo_setOnly_1 rfl ?_
  have loop : ∀ (k j : Nat) (C : Nat → Int64), j + k = 3 → (∀ i, i < j → C i = t3p c i) → Ev G M_fo_setOnly 0 0 0 (ev_qv fun h' => ∃ C : Nat → Int64, h' = va_up (va_up h b (some (fo_b G r C))) a (some (fo_c b r 1)) ∧ li 1 C = [t3of c]) 2 [some (.ref a), some (.int (nI c)), some (.int (nI j))] [] (va_up h b (some (fo_b G r C))) := by
    intro k
    induction k with
    | zero =>
      intro j C hj hC
      obtain rfl : j = 3 := by omega
      refine ev_iload_2 i_fo_setOnly_2 ?_
      refine ev_iconst (v := 3) i_fo_setOnly_3 (by decide) ?_
      refine ev_icmp_ge i_fo_setOnly_4 (fun c_4 => ?_) (fun c_4 => ?_)
      · refine ev_aload_0 i_fo_setOnly_37 ?_
        refine ev_iconst (v := 1) i_fo_setOnly_38 (by decide) ?_
        refine ev_put i_fo_setOnly_39 pl_fo_setOnly_9 (by repeat (first | assumption | exact va_up_self _ _ _ | refine hu_ne (by first | assumption | exact Ne.symm (by assumption)) ?_)) rfl rfl (Nat.le_of_ble_eq_true rfl) rfl ?_
        refine ev_return i_fo_setOnly_42 rfl ?_
        refine ⟨rfl, C, rfl, ?_⟩
        show [c3 C 0] = [t3of c]
        unfold c3 t3of
        rw [hC 0 (by omega), hC 1 (by omega), hC 2 (by omega)]
      · exact absurd (by decide) c_4
    | succ k ih =>
      intro j C hj hC
      have step : ∀ v : Int64, v = t3p c j → Ev G M_fo_setOnly 0 0 0 (ev_qv fun h' => ∃ C : Nat → Int64, h' = va_up (va_up h b (some (fo_b G r C))) a (some (fo_c b r 1)) ∧ li 1 C = [t3of c]) 30 [some (.ref a), some (.int (nI c)), some (.int (nI j))] [.long v, .int (nI j), .ref b] (va_up h b (some (fo_b G r C))) := by
        intro v hv
        refine ev_lastore i_fo_setOnly_30 ty_long (by repeat (first | assumption | exact va_up_self _ _ _ | refine hu_ne (by first | assumption | exact Ne.symm (by assumption)) ?_)) (j := j) rfl (by omega) (by omega) ?_
        rw [hu_uu]
        refine ev_iinc_2 i_fo_setOnly_31 (nI_1 j) rfl ?_
        refine ev_goto i_fo_setOnly_34 ?_
        refine ih (j + 1) _ (by omega) (fun i hi => ?_)
        unfold vp_updL
        by_cases e : i = j
        · rw [if_pos e, hv, e]
        · rw [if_neg e]
          exact hC i (by omega)
      refine ev_iload_2 i_fo_setOnly_2 ?_
      refine ev_iconst (v := 3) i_fo_setOnly_3 (by decide) ?_
      refine ev_icmp_ge i_fo_setOnly_4 (fun c_4 => ?_) (fun c_4 => ?_)
      · exact absurd c_4 (show ¬ nI 3 ≤ nI j from nI_ge (by omega) (by omega))
      refine ev_aload_0 i_fo_setOnly_7 ?_
      refine ev_get i_fo_setOnly_8 fl_fo_24 (by repeat (first | assumption | exact va_up_self _ _ _ | refine hu_ne (by first | assumption | exact Ne.symm (by assumption)) ?_)) rfl ?_
      refine ev_iload_2 i_fo_setOnly_11 ?_
      refine ev_iload_1 i_fo_setOnly_12 ?_
      refine ev_bipush (v := 6) i_fo_setOnly_13 (by decide) ?_
      refine ev_ishr i_fo_setOnly_15 ?_
      refine ev_iload_2 i_fo_setOnly_16 ?_
      refine ev_icmp_ne i_fo_setOnly_17 (fun c_17 => ?_) (fun c_17 => ?_)
      · rw [nI_shr6 (by omega), nI_eq (by omega) (by omega)] at c_17
        refine ev_lconst (v := 0) i_fo_setOnly_29 (by decide) ?_
        exact step 0 (by unfold t3p; rw [if_neg c_17])
      · rw [nI_shr6 (by omega), nI_eq (by omega) (by omega)] at c_17
        refine ev_lconst (v := 1) i_fo_setOnly_20 (by decide) ?_
        refine ev_iload_1 i_fo_setOnly_21 ?_
        refine ev_bipush (v := 63) i_fo_setOnly_22 (by decide) ?_
        refine ev_iand i_fo_setOnly_24 ?_
        refine ev_lshl i_fo_setOnly_25 ?_
        refine ev_goto i_fo_setOnly_26 ?_
        exact step _ (by unfold t3p; rw [if_pos c_17, nI_and63 (by omega)])
  have := loop 3 0 B (by omega) (fun i hi => absurd hi (Nat.not_lt_zero i))
  rw [hu_self hb] at this
  exact this
/-- the k-th code of a set -/
def codef (S : Nat → Bool) (k : Int32) : Int32 := match (List.range 144).find? (fun c => S c && decide (nI (sumb S c) = k)) with
  | some c => nI c
  | none => -1
theorem r_fo_codeAt_out {a b r n : Nat} {place k : Int32} (ha : h a = some (fo_c b r n)) (hn : n < 2 ^ 31) (hp : place < 0 ∨ nI n ≤ place) :
    Rn G M_fo_codeAt 1 0 0 [.ref a, .int place, .int k] h (ev_qi fun x h' => x = -1 ∧ h' = h) := by
  refine Rn_of (ls := [some (.ref a), some (.int place), some (.int k), none, none]) rfl rfl (Nat.le_of_ble_eq_true rfl) rfl ?_
  refine ev_iload_2 i_fo_codeAt_0 ?_
  refine ev_if_ge i_fo_codeAt_1 (fun c_1 => ?_) (fun c_1 => ?_)
  rotate_left
  · refine ev_iconst (v := (-1)) i_fo_codeAt_4 (by decide) ?_
    refine ev_ireturn i_fo_codeAt_5 rfl rfl ?_
    exact ⟨_, rfl, rfl, rfl⟩
  refine ev_iconst (v := 0) i_fo_codeAt_6 (by decide) ?_
  refine ev_istore_3 i_fo_codeAt_7 rfl ?_
  refine ev_iconst (v := 0) i_fo_codeAt_8 (by decide) ?_
  refine ev_istore_4 i_fo_codeAt_9 rfl ?_
  have loop : ∀ (m j : Nat), j + m = 144 → Ev G M_fo_codeAt 1 0 0 (ev_qi fun x h' => x = -1 ∧ h' = h) 11 [some (.ref a), some (.int place), some (.int k), some (.int 0), some (.int (nI j))] [] h := by
    intro m
    induction m with
    | zero =>
      intro j hj
      refine ev_iload_4 i_fo_codeAt_11 ?_
      refine ev_sipush (v := 144) i_fo_codeAt_13 (by decide) ?_
      refine ev_icmp_ge i_fo_codeAt_16 (fun c_16 => ?_) (fun c_16 => ?_)
      · refine ev_iconst (v := (-1)) i_fo_codeAt_46 (by decide) ?_
        refine ev_ireturn i_fo_codeAt_47 rfl rfl ?_
        exact ⟨_, rfl, rfl, rfl⟩
      · exact absurd (show nI 144 ≤ nI j from nI_le (by omega) (by omega)) c_16
    | succ m ih =>
      intro j hj
      refine ev_iload_4 i_fo_codeAt_11 ?_
      refine ev_sipush (v := 144) i_fo_codeAt_13 (by decide) ?_
      refine ev_icmp_ge i_fo_codeAt_16 (fun c_16 => ?_) (fun c_16 => ?_)
      · exact absurd c_16 (show ¬ nI 144 ≤ nI j from nI_ge (by omega) (by omega))
      refine ev_aload_0 i_fo_codeAt_19 ?_
      refine ev_iload_1 i_fo_codeAt_20 ?_
      refine ev_iload_4 i_fo_codeAt_21 ?_
      refine ev_vi2 i_fo_codeAt_23 lk_fo_43 cb_fo_holds iv_fo_holds (r_fo_holds_out ha hn hp) (by repeat (first | assumption | exact va_up_self _ _ _ | refine hu_ne (by first | assumption | exact Ne.symm (by assumption)) ?_)) rfl (by decide) (Nat.le_of_ble_eq_true rfl) rfl rfl (fun v h1 hq => ?_)
      obtain ⟨rfl, rfl⟩ := hq
      refine ev_if_eq i_fo_codeAt_26 (fun c_26 => ?_) (fun c_26 => ?_)
      rotate_left
      · exact absurd rfl c_26
      refine ev_iinc_4 i_fo_codeAt_40 (nI_1 j) rfl ?_
      refine ev_goto i_fo_codeAt_43 ?_
      exact ih (j + 1) (by omega)
  exact loop 144 0 (by omega)
theorem r_fo_codeAt {a b r n p : Nat} {B : Nat → Int64} {k : Int32} (ha : h a = some (fo_c b r n)) (hb : h b = some (fo_b G r B)) (hr : r < 2 ^ 20) (hn : n ≤ r) (hp : p < n) :
    Rn G M_fo_codeAt 1 0 0 [.ref a, .int (nI p), .int k] h (ev_qi fun x h' => x = codef (cs B p) k ∧ h' = h) := by
  refine Rn_of (ls := [some (.ref a), some (.int (nI p)), some (.int k), none, none]) rfl rfl (Nat.le_of_ble_eq_true rfl) rfl ?_
  refine ev_iload_2 i_fo_codeAt_0 ?_
  refine ev_if_ge i_fo_codeAt_1 (fun c_1 => ?_) (fun c_1 => ?_)
  rotate_left
  · refine ev_iconst (v := (-1)) i_fo_codeAt_4 (by decide) ?_
    refine ev_ireturn i_fo_codeAt_5 rfl rfl ?_
    refine ⟨_, rfl, ?_, rfl⟩
    have : (List.range 144).find? (fun c => cs B p c && decide (nI (sumb (cs B p) c) = k)) = none := by
      rw [List.find?_eq_none]
      intro c hc
      have hlt := List.mem_range.mp hc
      have := sumb_le (cs B p) c
      simp only [Bool.and_eq_true, decide_eq_true_eq, not_and]
      intro _ e
      exact c_1 (by rw [← e]; exact nI_pos' (by omega))
    unfold codef
    rw [this]
  refine ev_iconst (v := 0) i_fo_codeAt_6 (by decide) ?_
  refine ev_istore_3 i_fo_codeAt_7 rfl ?_
  refine ev_iconst (v := 0) i_fo_codeAt_8 (by decide) ?_
  refine ev_istore_4 i_fo_codeAt_9 rfl ?_
  have loop : ∀ (m j : Nat), j + m = 144 → (List.range j).find? (fun c => cs B p c && decide (nI (sumb (cs B p) c) = k)) = none → Ev G M_fo_codeAt 1 0 0 (ev_qi fun x h' => x = codef (cs B p) k ∧ h' = h) 11 [some (.ref a), some (.int (nI p)), some (.int k), some (.int (nI (sumb (cs B p) j))), some (.int (nI j))] [] h := by
    intro m
    induction m with
    | zero =>
      intro j hj hf
      obtain rfl : j = 144 := by omega
      refine ev_iload_4 i_fo_codeAt_11 ?_
      refine ev_sipush (v := 144) i_fo_codeAt_13 (by decide) ?_
      refine ev_icmp_ge i_fo_codeAt_16 (fun c_16 => ?_) (fun c_16 => ?_)
      · refine ev_iconst (v := (-1)) i_fo_codeAt_46 (by decide) ?_
        refine ev_ireturn i_fo_codeAt_47 rfl rfl ?_
        exact ⟨_, rfl, by unfold codef; rw [hf], rfl⟩
      · exact absurd (by decide) c_16
    | succ m ih =>
      intro j hj hf
      have hnext : (cs B p j && decide (nI (sumb (cs B p) j) = k)) = false → (List.range (j + 1)).find? (fun c => cs B p c && decide (nI (sumb (cs B p) c) = k)) = none := by
        intro e
        rw [List.range_succ, List.find?_append, hf]
        simp only [Option.none_or, List.find?_cons, e, List.find?_nil]
      refine ev_iload_4 i_fo_codeAt_11 ?_
      refine ev_sipush (v := 144) i_fo_codeAt_13 (by decide) ?_
      refine ev_icmp_ge i_fo_codeAt_16 (fun c_16 => ?_) (fun c_16 => ?_)
      · exact absurd c_16 (show ¬ nI 144 ≤ nI j from nI_ge (by omega) (by omega))
      refine ev_aload_0 i_fo_codeAt_19 ?_
      refine ev_iload_1 i_fo_codeAt_20 ?_
      refine ev_iload_4 i_fo_codeAt_21 ?_
      refine ev_vi2 i_fo_codeAt_23 lk_fo_43 cb_fo_holds iv_fo_holds (r_fo_holds ha hb hr hn hp (show j < 144 by omega)) (by repeat (first | assumption | exact va_up_self _ _ _ | refine hu_ne (by first | assumption | exact Ne.symm (by assumption)) ?_)) rfl (by decide) (Nat.le_of_ble_eq_true rfl) rfl rfl (fun v h1 hq => ?_)
      obtain ⟨rfl, rfl⟩ := hq
      refine ev_if_eq i_fo_codeAt_26 (fun c_26 => ?_) (fun c_26 => ?_)
      · have hS := bn_f (if_10 c_26)
        refine ev_iinc_4 i_fo_codeAt_40 (nI_1 j) rfl ?_
        refine ev_goto i_fo_codeAt_43 ?_
        have := ih (j + 1) (by omega) (hnext (by rw [hS]; rfl))
        unfold sumb at this
        rw [hS] at this
        exact this
      · have hS := if_11 c_26
        refine ev_iload_3 i_fo_codeAt_29 ?_
        refine ev_iload_2 i_fo_codeAt_30 ?_
        refine ev_icmp_ne i_fo_codeAt_31 (fun c_31 => ?_) (fun c_31 => ?_)
        · refine ev_iinc_3 i_fo_codeAt_37 (nI_1 _) rfl ?_
          refine ev_iinc_4 i_fo_codeAt_40 (nI_1 j) rfl ?_
          refine ev_goto i_fo_codeAt_43 ?_
          have := ih (j + 1) (by omega) (hnext (by rw [hS, decide_eq_false c_31]; rfl))
          unfold sumb at this
          rw [hS] at this
          exact this
        · refine ev_iload_4 i_fo_codeAt_34 ?_
          refine ev_ireturn i_fo_codeAt_36 rfl rfl ?_
          refine ⟨_, rfl, ?_, rfl⟩
          have : (List.range 144).find? (fun c => cs B p c && decide (nI (sumb (cs B p) c) = k)) = some j := by
            rw [show 144 = j + (m + 1) by omega, List.range_add, List.find?_append, hf]
            simp only [Option.none_or, List.range_succ_eq_map, List.map_cons, List.find?_cons, Nat.add_zero, hS, decide_eq_true c_31, Bool.and_self]
          unfold codef
          rw [this]
  exact loop 144 0 (by omega) rfl
end FO2
end
section
section JDK
variable {G : ev_G} {h : ev_H}
/-- Long.bitCount and Integer.bitCount, as the JDK computes them -/
def bl_s (k : Int32) (y : Int64) : Int64 := (y.toUInt64 >>> (k.toInt64.toUInt64 &&& Int64.toUInt64 63)).toInt64
def bl_1 (x : Int64) : Int64 := x - (bl_s 1 x &&& 6148914691236517205)
def bl_2 (x : Int64) : Int64 := (x &&& 3689348814741910323) + (bl_s 2 x &&& 3689348814741910323)
def bl_3 (x : Int64) : Int64 := (x + bl_s 4 x) &&& 1085102592571150095
def bl_4 (k : Int32) (x : Int64) : Int64 := x + bl_s k x
def bcl (x : Int64) : Int32 := (bl_4 32 (bl_4 16 (bl_4 8 (bl_3 (bl_2 (bl_1 x)))))).toInt32 &&& 127
theorem r_jlo_bitCount {x : Int64} : Rn G M_jlo_bitCount 0 0 0 [.long x] h (ev_qi fun v h' => v = bcl x ∧ h' = h) := by
  refine Rn_of (ls := [some (.long x), none]) rfl (by decide) (Nat.le_of_ble_eq_true rfl) rfl ?_
  refine ev_lload_0 i_jlo_bitCount_0 ?_
  refine ev_lload_0 i_jlo_bitCount_1 ?_
  refine ev_iconst (v := 1) i_jlo_bitCount_2 (by decide) ?_
  refine ev_lushr i_jlo_bitCount_3 ?_
  refine ev_ldc2 i_jlo_bitCount_4 kc_jlo_314 ?_
  refine ev_land i_jlo_bitCount_7 ?_
  refine ev_lsub i_jlo_bitCount_8 ?_
  refine ev_lstore_0 i_jlo_bitCount_9 ?_
  refine ev_lload_0 i_jlo_bitCount_10 ?_
  refine ev_ldc2 i_jlo_bitCount_11 kc_jlo_316 ?_
  refine ev_land i_jlo_bitCount_14 ?_
  refine ev_lload_0 i_jlo_bitCount_15 ?_
  refine ev_iconst (v := 2) i_jlo_bitCount_16 (by decide) ?_
  refine ev_lushr i_jlo_bitCount_17 ?_
  refine ev_ldc2 i_jlo_bitCount_18 kc_jlo_316 ?_
  refine ev_land i_jlo_bitCount_21 ?_
  refine ev_ladd i_jlo_bitCount_22 ?_
  refine ev_lstore_0 i_jlo_bitCount_23 ?_
  refine ev_lload_0 i_jlo_bitCount_24 ?_
  refine ev_lload_0 i_jlo_bitCount_25 ?_
  refine ev_iconst (v := 4) i_jlo_bitCount_26 (by decide) ?_
  refine ev_lushr i_jlo_bitCount_27 ?_
  refine ev_ladd i_jlo_bitCount_28 ?_
  refine ev_ldc2 i_jlo_bitCount_29 kc_jlo_318 ?_
  refine ev_land i_jlo_bitCount_32 ?_
  refine ev_lstore_0 i_jlo_bitCount_33 ?_
  refine ev_lload_0 i_jlo_bitCount_34 ?_
  refine ev_lload_0 i_jlo_bitCount_35 ?_
  refine ev_bipush (v := 8) i_jlo_bitCount_36 (by decide) ?_
  refine ev_lushr i_jlo_bitCount_38 ?_
  refine ev_ladd i_jlo_bitCount_39 ?_
  refine ev_lstore_0 i_jlo_bitCount_40 ?_
  refine ev_lload_0 i_jlo_bitCount_41 ?_
  refine ev_lload_0 i_jlo_bitCount_42 ?_
  refine ev_bipush (v := 16) i_jlo_bitCount_43 (by decide) ?_
  refine ev_lushr i_jlo_bitCount_45 ?_
  refine ev_ladd i_jlo_bitCount_46 ?_
  refine ev_lstore_0 i_jlo_bitCount_47 ?_
  refine ev_lload_0 i_jlo_bitCount_48 ?_
  refine ev_lload_0 i_jlo_bitCount_49 ?_
  refine ev_bipush (v := 32) i_jlo_bitCount_50 (by decide) ?_
  refine ev_lushr i_jlo_bitCount_52 ?_
  refine ev_ladd i_jlo_bitCount_53 ?_
  refine ev_lstore_0 i_jlo_bitCount_54 ?_
  refine ev_lload_0 i_jlo_bitCount_55 ?_
  refine ev_l2i i_jlo_bitCount_56 ?_
  refine ev_bipush (v := 127) i_jlo_bitCount_57 (by decide) ?_
  refine ev_iand i_jlo_bitCount_59 ?_
  refine ev_ireturn i_jlo_bitCount_60 rfl rfl ?_
  exact ⟨_, rfl, rfl, rfl⟩
def bi_s (k : Int32) (y : Int32) : Int32 := (y.toUInt32 >>> (k.toUInt32 &&& Int32.toUInt32 31)).toInt32
def bi_1 (x : Int32) : Int32 := x - (bi_s 1 x &&& 1431655765)
def bi_2 (x : Int32) : Int32 := (x &&& 858993459) + (bi_s 2 x &&& 858993459)
def bi_3 (x : Int32) : Int32 := (x + bi_s 4 x) &&& 252645135
def bi_4 (k : Int32) (x : Int32) : Int32 := x + bi_s k x
def bci (x : Int32) : Int32 := (bi_4 16 (bi_4 8 (bi_3 (bi_2 (bi_1 x))))) &&& 63
theorem r_jin_bitCount {x : Int32} : Rn G M_jin_bitCount 0 0 0 [.int x] h (ev_qi fun v h' => v = bci x ∧ h' = h) := by
  refine Rn_of (ls := [some (.int x)]) rfl (by decide) (Nat.le_of_ble_eq_true rfl) rfl ?_
  refine ev_iload_0 i_jin_bitCount_0 ?_
  refine ev_iload_0 i_jin_bitCount_1 ?_
  refine ev_iconst (v := 1) i_jin_bitCount_2 (by decide) ?_
  refine ev_iushr i_jin_bitCount_3 ?_
  refine ev_ldcw i_jin_bitCount_4 kc_jin_265 ?_
  refine ev_iand i_jin_bitCount_7 ?_
  refine ev_isub i_jin_bitCount_8 ?_
  refine ev_istore_0 i_jin_bitCount_9 ?_
  refine ev_iload_0 i_jin_bitCount_10 ?_
  refine ev_ldcw i_jin_bitCount_11 kc_jin_266 ?_
  refine ev_iand i_jin_bitCount_14 ?_
  refine ev_iload_0 i_jin_bitCount_15 ?_
  refine ev_iconst (v := 2) i_jin_bitCount_16 (by decide) ?_
  refine ev_iushr i_jin_bitCount_17 ?_
  refine ev_ldcw i_jin_bitCount_18 kc_jin_266 ?_
  refine ev_iand i_jin_bitCount_21 ?_
  refine ev_iadd i_jin_bitCount_22 ?_
  refine ev_istore_0 i_jin_bitCount_23 ?_
  refine ev_iload_0 i_jin_bitCount_24 ?_
  refine ev_iload_0 i_jin_bitCount_25 ?_
  refine ev_iconst (v := 4) i_jin_bitCount_26 (by decide) ?_
  refine ev_iushr i_jin_bitCount_27 ?_
  refine ev_iadd i_jin_bitCount_28 ?_
  refine ev_ldcw i_jin_bitCount_29 kc_jin_267 ?_
  refine ev_iand i_jin_bitCount_32 ?_
  refine ev_istore_0 i_jin_bitCount_33 ?_
  refine ev_iload_0 i_jin_bitCount_34 ?_
  refine ev_iload_0 i_jin_bitCount_35 ?_
  refine ev_bipush (v := 8) i_jin_bitCount_36 (by decide) ?_
  refine ev_iushr i_jin_bitCount_38 ?_
  refine ev_iadd i_jin_bitCount_39 ?_
  refine ev_istore_0 i_jin_bitCount_40 ?_
  refine ev_iload_0 i_jin_bitCount_41 ?_
  refine ev_iload_0 i_jin_bitCount_42 ?_
  refine ev_bipush (v := 16) i_jin_bitCount_43 (by decide) ?_
  refine ev_iushr i_jin_bitCount_45 ?_
  refine ev_iadd i_jin_bitCount_46 ?_
  refine ev_istore_0 i_jin_bitCount_47 ?_
  refine ev_iload_0 i_jin_bitCount_48 ?_
  refine ev_bipush (v := 63) i_jin_bitCount_49 (by decide) ?_
  refine ev_iand i_jin_bitCount_51 ?_
  refine ev_ireturn i_jin_bitCount_52 rfl rfl ?_
  exact ⟨_, rfl, rfl, rfl⟩
/-- how many pairs a choice has -/
def pcn (x : T3) : Int32 := 0 + bcl x.1 + bcl x.2.1 + bcl x.2.2
theorem r_fo_pairCount {a b r n p : Nat} {B : Nat → Int64} (ha : h a = some (fo_c b r n)) (hb : h b = some (fo_b G r B)) (hr : r < 2 ^ 20) (hn : n ≤ r) (hp : p < n) :
    Rn G M_fo_pairCount 1 0 0 [.ref a, .int (nI p)] h (ev_qi fun v h' => v = pcn (c3 B p) ∧ h' = h) := by
  refine Rn_of (ls := [some (.ref a), some (.int (nI p)), none, none]) rfl rfl (Nat.le_of_ble_eq_true rfl) rfl ?_
  refine ev_iconst (v := 0) i_fo_pairCount_0 (by decide) ?_
  refine ev_istore_2 i_fo_pairCount_1 rfl ?_
  refine ev_iconst (v := 0) i_fo_pairCount_2 (by decide) ?_
  refine ev_istore_3 i_fo_pairCount_3 rfl ?_
  refine ev_iload_3 i_fo_pairCount_4 ?_
  refine ev_iconst (v := 3) i_fo_pairCount_5 (by decide) ?_
  refine ev_icmp_ge i_fo_pairCount_6 (fun c_6 => ?_) (fun c_6 => ?_)
  · exact absurd c_6 (by decide)
  refine ev_iload_1 i_fo_pairCount_9 ?_
  refine ev_if_lt i_fo_pairCount_10 (fun c_10 => ?_) (fun c_10 => ?_)
  · exact absurd c_10 (nI_pos (by omega))
  refine ev_iload_1 i_fo_pairCount_13 ?_
  refine ev_aload_0 i_fo_pairCount_14 ?_
  refine ev_get i_fo_pairCount_15 fl_fo_9 (by repeat (first | assumption | exact va_up_self _ _ _ | refine hu_ne (by first | assumption | exact Ne.symm (by assumption)) ?_)) rfl ?_
  refine ev_icmp_ge i_fo_pairCount_18 (fun c_18 => ?_) (fun c_18 => ?_)
  · exact absurd c_18 (nI_ge hp (by omega))
  refine ev_iload_2 i_fo_pairCount_21 ?_
  refine ev_aload_0 i_fo_pairCount_22 ?_
  refine ev_get i_fo_pairCount_23 fl_fo_24 (by repeat (first | assumption | exact va_up_self _ _ _ | refine hu_ne (by first | assumption | exact Ne.symm (by assumption)) ?_)) rfl ?_
  refine ev_iload_1 i_fo_pairCount_26 ?_
  refine ev_iconst (v := 3) i_fo_pairCount_27 (by decide) ?_
  refine ev_imul i_fo_pairCount_28 ?_
  refine ev_iload_3 i_fo_pairCount_29 ?_
  refine ev_iadd i_fo_pairCount_30 ?_
  refine ev_laload i_fo_pairCount_31 ty_long (by repeat (first | assumption | exact va_up_self _ _ _ | refine hu_ne (by first | assumption | exact Ne.symm (by assumption)) ?_)) (j := 3 * p) (by rw [nI_3, pk_mul, Nat.mul_comm]; exact nI_add _ 0) (by omega) (by omega) ?_
  refine ev_ti1 i_fo_pairCount_32 lk_fo_37 cb_jlo_bitCount sv_jlo_bitCount (r_jlo_bitCount) (by decide) (Nat.le_of_ble_eq_true rfl) rfl rfl (fun v h1 hq => ?_)
  obtain ⟨rfl, rfl⟩ := hq
  refine ev_iadd i_fo_pairCount_35 ?_
  refine ev_istore_2 i_fo_pairCount_36 rfl ?_
  refine ev_iinc_3 i_fo_pairCount_37 rfl rfl ?_
  refine ev_goto i_fo_pairCount_40 ?_
  refine ev_iload_3 i_fo_pairCount_4 ?_
  refine ev_iconst (v := 3) i_fo_pairCount_5 (by decide) ?_
  refine ev_icmp_ge i_fo_pairCount_6 (fun c_6 => ?_) (fun c_6 => ?_)
  · exact absurd c_6 (by decide)
  refine ev_iload_1 i_fo_pairCount_9 ?_
  refine ev_if_lt i_fo_pairCount_10 (fun c_10 => ?_) (fun c_10 => ?_)
  · exact absurd c_10 (nI_pos (by omega))
  refine ev_iload_1 i_fo_pairCount_13 ?_
  refine ev_aload_0 i_fo_pairCount_14 ?_
  refine ev_get i_fo_pairCount_15 fl_fo_9 (by repeat (first | assumption | exact va_up_self _ _ _ | refine hu_ne (by first | assumption | exact Ne.symm (by assumption)) ?_)) rfl ?_
  refine ev_icmp_ge i_fo_pairCount_18 (fun c_18 => ?_) (fun c_18 => ?_)
  · exact absurd c_18 (nI_ge hp (by omega))
  refine ev_iload_2 i_fo_pairCount_21 ?_
  refine ev_aload_0 i_fo_pairCount_22 ?_
  refine ev_get i_fo_pairCount_23 fl_fo_24 (by repeat (first | assumption | exact va_up_self _ _ _ | refine hu_ne (by first | assumption | exact Ne.symm (by assumption)) ?_)) rfl ?_
  refine ev_iload_1 i_fo_pairCount_26 ?_
  refine ev_iconst (v := 3) i_fo_pairCount_27 (by decide) ?_
  refine ev_imul i_fo_pairCount_28 ?_
  refine ev_iload_3 i_fo_pairCount_29 ?_
  refine ev_iadd i_fo_pairCount_30 ?_
  refine ev_laload i_fo_pairCount_31 ty_long (by repeat (first | assumption | exact va_up_self _ _ _ | refine hu_ne (by first | assumption | exact Ne.symm (by assumption)) ?_)) (j := 3 * p + 1) (by rw [nI_3, pk_mul, Nat.mul_comm]; exact nI_add _ 1) (by omega) (by omega) ?_
  refine ev_ti1 i_fo_pairCount_32 lk_fo_37 cb_jlo_bitCount sv_jlo_bitCount (r_jlo_bitCount) (by decide) (Nat.le_of_ble_eq_true rfl) rfl rfl (fun v h1 hq => ?_)
  obtain ⟨rfl, rfl⟩ := hq
  refine ev_iadd i_fo_pairCount_35 ?_
  refine ev_istore_2 i_fo_pairCount_36 rfl ?_
  refine ev_iinc_3 i_fo_pairCount_37 rfl rfl ?_
  refine ev_goto i_fo_pairCount_40 ?_
  refine ev_iload_3 i_fo_pairCount_4 ?_
  refine ev_iconst (v := 3) i_fo_pairCount_5 (by decide) ?_
  refine ev_icmp_ge i_fo_pairCount_6 (fun c_6 => ?_) (fun c_6 => ?_)
  · exact absurd c_6 (by decide)
  refine ev_iload_1 i_fo_pairCount_9 ?_
  refine ev_if_lt i_fo_pairCount_10 (fun c_10 => ?_) (fun c_10 => ?_)
  · exact absurd c_10 (nI_pos (by omega))
  refine ev_iload_1 i_fo_pairCount_13 ?_
  refine ev_aload_0 i_fo_pairCount_14 ?_
  refine ev_get i_fo_pairCount_15 fl_fo_9 (by repeat (first | assumption | exact va_up_self _ _ _ | refine hu_ne (by first | assumption | exact Ne.symm (by assumption)) ?_)) rfl ?_
  refine ev_icmp_ge i_fo_pairCount_18 (fun c_18 => ?_) (fun c_18 => ?_)
  · exact absurd c_18 (nI_ge hp (by omega))
  refine ev_iload_2 i_fo_pairCount_21 ?_
  refine ev_aload_0 i_fo_pairCount_22 ?_
  refine ev_get i_fo_pairCount_23 fl_fo_24 (by repeat (first | assumption | exact va_up_self _ _ _ | refine hu_ne (by first | assumption | exact Ne.symm (by assumption)) ?_)) rfl ?_
  refine ev_iload_1 i_fo_pairCount_26 ?_
  refine ev_iconst (v := 3) i_fo_pairCount_27 (by decide) ?_
  refine ev_imul i_fo_pairCount_28 ?_
  refine ev_iload_3 i_fo_pairCount_29 ?_
  refine ev_iadd i_fo_pairCount_30 ?_
  refine ev_laload i_fo_pairCount_31 ty_long (by repeat (first | assumption | exact va_up_self _ _ _ | refine hu_ne (by first | assumption | exact Ne.symm (by assumption)) ?_)) (j := 3 * p + 2) (by rw [nI_3, pk_mul, Nat.mul_comm]; exact nI_add _ 2) (by omega) (by omega) ?_
  refine ev_ti1 i_fo_pairCount_32 lk_fo_37 cb_jlo_bitCount sv_jlo_bitCount (r_jlo_bitCount) (by decide) (Nat.le_of_ble_eq_true rfl) rfl rfl (fun v h1 hq => ?_)
  obtain ⟨rfl, rfl⟩ := hq
  refine ev_iadd i_fo_pairCount_35 ?_
  refine ev_istore_2 i_fo_pairCount_36 rfl ?_
  refine ev_iinc_3 i_fo_pairCount_37 rfl rfl ?_
  refine ev_goto i_fo_pairCount_40 ?_
  refine ev_iload_3 i_fo_pairCount_4 ?_
  refine ev_iconst (v := 3) i_fo_pairCount_5 (by decide) ?_
  refine ev_icmp_ge i_fo_pairCount_6 (fun c_6 => ?_) (fun c_6 => ?_)
  rotate_left
  · exact absurd (by decide) c_6
  refine ev_iload_2 i_fo_pairCount_43 ?_
  refine ev_ireturn i_fo_pairCount_44 rfl rfl ?_
  exact ⟨_, rfl, rfl, rfl⟩
end JDK
end
section
section RU
variable {G : ev_G} {h : ev_H}
abbrev ru_c (w t l n : Nat) : va_E := .inr (4, [.ref w, .ref t, .ref l, .int (nI n)])
abbrev aL (G : ev_G) (n : Nat) (f : Nat → Int64) : va_E := .inl (G.2 1, n, .inr (.inl f))
abbrev aI (G : ev_G) (n : Nat) (f : Nat → Int32) : va_E := .inl (G.2 0, n, .inl f)
def ru_at (G : ev_G) (h : ev_H) (a w t l n : Nat) (W : Nat → Int64) (T F : Nat → Int32) : Prop := h a = some (ru_c w t l n) ∧ h w = some (aL G 16 W) ∧ h t = some (aI G 48 T) ∧ h l = some (aI G 3 F) ∧ n ≤ 16
theorem r_ru_init {a : Nat} (ha : h a = some (.inr (4, [.null, .null, .null, .int 0]))) :
    Rn G M_ru_init 1 3 67 [.ref a] h (ev_qv fun h' => ∃ w t l : Nat, (w ≠ a ∧ t ≠ a ∧ l ≠ a ∧ t ≠ w ∧ l ≠ w ∧ l ≠ t) ∧ h w = none ∧ h t = none ∧ h l = none ∧ h' = va_up (va_up (va_up (va_up h w (some (aL G 16 (fun _ => 0)))) t (some (aI G 48 (fun _ => 0)))) l (some (aI G 3 (fun _ => 0)))) a (some (ru_c w t l 0))) := by
  refine Rn_of (ls := [some (.ref a)]) rfl rfl (Nat.le_of_ble_eq_true rfl) rfl ?_
  refine ev_aload_0 i_ru_init_0 ?_
  refine ev_obj i_ru_init_1 ob_ru_3 ob_2 ob_3 (by decide) (Nat.le_of_ble_eq_true rfl) ?_
  refine ev_aload_0 i_ru_init_4 ?_
  refine ev_bipush (v := 16) i_ru_init_5 (by decide) ?_
  refine ev_newa (N := 16) (a0 := (16, .inr (.inl (fun _ => 0)))) (kc' := 2) (ks' := 51) i_ru_init_7 rfl ty_long ac_long (fun _ => rfl) rfl (by omega) rfl (by omega) (fun w hw => ?_)
  have hwa : w ≠ a := by intro e; subst e; rw [ha] at hw; cases hw
  refine ev_put i_ru_init_9 pl_ru_init_9 (by repeat (first | assumption | exact va_up_self _ _ _ | refine hu_ne (by first | assumption | exact Ne.symm (by assumption)) ?_)) rfl rfl (Nat.le_of_ble_eq_true rfl) rfl ?_
  refine ev_aload_0 i_ru_init_12 ?_
  refine ev_bipush (v := 48) i_ru_init_13 (by decide) ?_
  refine ev_newa (N := 48) (a0 := (48, .inl (fun _ => 0))) (kc' := 1) (ks' := 3) i_ru_init_15 rfl ty_int ac_int (fun _ => rfl) rfl (by omega) rfl (by omega) (fun t ht => ?_)
  have hta : t ≠ a := by intro e; subst e; rw [va_up_self] at ht; cases ht
  rw [va_up_ne _ _ hta] at ht
  have htw : t ≠ w := by intro e; subst e; rw [va_up_self] at ht; cases ht
  rw [va_up_ne _ _ htw] at ht
  refine ev_put i_ru_init_17 pl_ru_init_15 (by repeat (first | assumption | exact va_up_self _ _ _ | refine hu_ne (by first | assumption | exact Ne.symm (by assumption)) ?_)) rfl rfl (Nat.le_of_ble_eq_true rfl) rfl ?_
  refine ev_aload_0 i_ru_init_20 ?_
  refine ev_iconst (v := 3) i_ru_init_21 (by decide) ?_
  refine ev_newa (N := 3) (a0 := (3, .inl (fun _ => 0))) (kc' := 0) (ks' := 0) i_ru_init_22 rfl ty_int ac_int (fun _ => rfl) rfl (by omega) rfl (by omega) (fun l hl => ?_)
  have hla : l ≠ a := by intro e; subst e; rw [va_up_self] at hl; cases hl
  rw [va_up_ne _ _ hla] at hl
  have hlt : l ≠ t := by intro e; subst e; rw [va_up_self] at hl; cases hl
  rw [va_up_ne _ _ hlt, va_up_ne _ _ hla] at hl
  have hlw : l ≠ w := by intro e; subst e; rw [va_up_self] at hl; cases hl
  rw [va_up_ne _ _ hlw] at hl
  refine ev_put i_ru_init_24 pl_ru_init_19 (by repeat (first | assumption | exact va_up_self _ _ _ | refine hu_ne (by first | assumption | exact Ne.symm (by assumption)) ?_)) rfl rfl (Nat.le_of_ble_eq_true rfl) rfl ?_
  refine ev_aload_0 i_ru_init_27 ?_
  refine ev_iconst (v := 0) i_ru_init_28 (by decide) ?_
  refine ev_put i_ru_init_29 pl_ru_init_22 (by repeat (first | assumption | exact va_up_self _ _ _ | refine hu_ne (by first | assumption | exact Ne.symm (by assumption)) ?_)) rfl rfl (Nat.le_of_ble_eq_true rfl) rfl ?_
  refine ev_return i_ru_init_32 rfl ?_
  refine ⟨rfl, w, t, l, ⟨hwa, hta, hla, htw, hlw, hlt⟩, hw, ht, hl, ?_⟩
  simp only [hu_uu]
  rw [hu_comm (Ne.symm hta)]
  simp only [hu_uu]
  rw [hu_comm (Ne.symm hla)]
  simp only [hu_uu]
  rfl
theorem r_ru_licenceCount {a w t l n : Nat} (ha : h a = some (ru_c w t l n)) : Rn G M_ru_licenceCount 0 0 0 [.ref a] h (ev_qi fun x h' => x = nI n ∧ h' = h) := by
  refine Rn_of (ls := [some (.ref a)]) rfl rfl (Nat.le_of_ble_eq_true rfl) rfl ?_
  refine ev_aload_0 i_ru_licenceCount_0 ?_
  refine ev_get i_ru_licenceCount_1 fl_ru_22 (by repeat (first | assumption | exact va_up_self _ _ _ | refine hu_ne (by first | assumption | exact Ne.symm (by assumption)) ?_)) rfl ?_
  refine ev_ireturn i_ru_licenceCount_4 rfl rfl ?_
  exact ⟨_, rfl, rfl, rfl⟩
theorem r_ru_addLicence {a w t l n : Nat} {W : Nat → Int64} {x : Int64} (ha : h a = some (ru_c w t l n)) (hw : h w = some (aL G 16 W)) (hn : n ≤ 16) :
    Rn G M_ru_addLicence 0 0 0 [.ref a, .long x] h (ev_qi fun v h' => if n < 16 then v = nI n ∧ h' = va_up (va_up h w (some (aL G 16 (vp_updL W n x)))) a (some (ru_c w t l (n + 1))) else v = -1 ∧ h' = h) := by
  have haw : a ≠ w := by intro e; subst e; rw [ha] at hw; cases hw
  refine Rn_of (ls := [some (.ref a), some (.long x), none]) rfl rfl (Nat.le_of_ble_eq_true rfl) rfl ?_
  refine ev_aload_0 i_ru_addLicence_0 ?_
  refine ev_get i_ru_addLicence_1 fl_ru_22 (by repeat (first | assumption | exact va_up_self _ _ _ | refine hu_ne (by first | assumption | exact Ne.symm (by assumption)) ?_)) rfl ?_
  refine ev_bipush (v := 16) i_ru_addLicence_4 (by decide) ?_
  refine ev_icmp_lt i_ru_addLicence_6 (fun c_6 => ?_) (fun c_6 => ?_)
  rotate_left
  · have : ¬ n < 16 := fun z => c_6 (show nI n < nI 16 from nI_lt z (by omega))
    refine ev_iconst (v := (-1)) i_ru_addLicence_9 (by decide) ?_
    refine ev_ireturn i_ru_addLicence_10 rfl rfl ?_
    exact ⟨_, rfl, by dsimp only; rw [if_neg this]; exact ⟨rfl, rfl⟩⟩
  have hlt : n < 16 := by
    rcases Nat.lt_or_ge n 16 with z | z
    · exact z
    · exact absurd c_6 (show ¬ nI n < nI 16 from nI_nlt z (by omega))
  refine ev_aload_0 i_ru_addLicence_11 ?_
  refine ev_get i_ru_addLicence_12 fl_ru_9 (by repeat (first | assumption | exact va_up_self _ _ _ | refine hu_ne (by first | assumption | exact Ne.symm (by assumption)) ?_)) rfl ?_
  refine ev_aload_0 i_ru_addLicence_15 ?_
  refine ev_get i_ru_addLicence_16 fl_ru_22 (by repeat (first | assumption | exact va_up_self _ _ _ | refine hu_ne (by first | assumption | exact Ne.symm (by assumption)) ?_)) rfl ?_
  refine ev_lload_1 i_ru_addLicence_19 ?_
  refine ev_lastore i_ru_addLicence_20 ty_long (by repeat (first | assumption | exact va_up_self _ _ _ | refine hu_ne (by first | assumption | exact Ne.symm (by assumption)) ?_)) (j := n) rfl (by omega) (by omega) ?_
  refine ev_aload_0 i_ru_addLicence_21 ?_
  refine ev_dup i_ru_addLicence_22 rfl ?_
  refine ev_get i_ru_addLicence_23 fl_ru_22 (by repeat (first | assumption | exact va_up_self _ _ _ | refine hu_ne (by first | assumption | exact Ne.symm (by assumption)) ?_)) rfl ?_
  refine ev_iconst (v := 1) i_ru_addLicence_26 (by decide) ?_
  refine ev_iadd i_ru_addLicence_27 ?_
  refine ev_top (nI_1 n) ?_
  refine ev_put i_ru_addLicence_28 pl_ru_addLicence_22 (by repeat (first | assumption | exact va_up_self _ _ _ | refine hu_ne (by first | assumption | exact Ne.symm (by assumption)) ?_)) rfl rfl (Nat.le_of_ble_eq_true rfl) rfl ?_
  refine ev_aload_0 i_ru_addLicence_31 ?_
  refine ev_get i_ru_addLicence_32 fl_ru_22 (by repeat (first | assumption | exact va_up_self _ _ _ | refine hu_ne (by first | assumption | exact Ne.symm (by assumption)) ?_)) rfl ?_
  refine ev_iconst (v := 1) i_ru_addLicence_35 (by decide) ?_
  refine ev_isub i_ru_addLicence_36 ?_
  refine ev_top (nI_pred n) ?_
  refine ev_ireturn i_ru_addLicence_37 rfl rfl ?_
  exact ⟨_, rfl, by dsimp only; rw [if_pos hlt]; exact ⟨rfl, rfl⟩⟩
theorem r_ru_hasLicence {a w t l n : Nat} {x : Int32} (ha : h a = some (ru_c w t l n)) : Rn G M_ru_hasLicence 0 0 0 [.ref a, .int x] h (ev_qi fun v h' => v = (if 0 ≤ x ∧ x < nI n then 1 else 0) ∧ h' = h) := by
  refine Rn_of (ls := [some (.ref a), some (.int x)]) rfl rfl (Nat.le_of_ble_eq_true rfl) rfl ?_
  refine ev_iload_1 i_ru_hasLicence_0 ?_
  refine ev_if_lt i_ru_hasLicence_1 (fun c_1 => ?_) (fun c_1 => ?_)
  · refine ev_iconst (v := 0) i_ru_hasLicence_16 (by decide) ?_
    refine ev_ireturn i_ru_hasLicence_17 rfl rfl ?_
    exact ⟨_, rfl, by rw [if_neg]; intro z; exact absurd z.1 (Int32.not_le.mpr c_1), rfl⟩
  refine ev_iload_1 i_ru_hasLicence_4 ?_
  refine ev_aload_0 i_ru_hasLicence_5 ?_
  refine ev_get i_ru_hasLicence_6 fl_ru_22 (by repeat (first | assumption | exact va_up_self _ _ _ | refine hu_ne (by first | assumption | exact Ne.symm (by assumption)) ?_)) rfl ?_
  refine ev_icmp_ge i_ru_hasLicence_9 (fun c_9 => ?_) (fun c_9 => ?_)
  · refine ev_iconst (v := 0) i_ru_hasLicence_16 (by decide) ?_
    refine ev_ireturn i_ru_hasLicence_17 rfl rfl ?_
    exact ⟨_, rfl, by rw [if_neg]; intro z; exact absurd z.2 (Int32.not_lt.mpr c_9), rfl⟩
  · refine ev_iconst (v := 1) i_ru_hasLicence_12 (by decide) ?_
    refine ev_goto i_ru_hasLicence_13 ?_
    refine ev_ireturn i_ru_hasLicence_17 rfl rfl ?_
    exact ⟨_, rfl, by rw [if_pos]; exact ⟨Int32.not_lt.mp c_1, Int32.not_le.mp c_9⟩, rfl⟩
theorem r_ru_setTerms {a w t l n i v : Nat} {T : Nat → Int32} {x : Int32} (ha : h a = some (ru_c w t l n)) (ht : h t = some (aI G 48 T)) (hi : i < 16) (hv : v < 3) :
    Rn G M_ru_setTerms 0 0 0 [.ref a, .int (nI i), .int (nI v), .int x] h (ev_qv fun h' => h' = va_up h t (some (aI G 48 (upd T (3 * i + v) x)))) := by
  refine Rn_of (ls := [some (.ref a), some (.int (nI i)), some (.int (nI v)), some (.int x)]) rfl rfl (Nat.le_of_ble_eq_true rfl) rfl ?_
  refine ev_aload_0 i_ru_setTerms_0 ?_
  refine ev_get i_ru_setTerms_1 fl_ru_15 (by repeat (first | assumption | exact va_up_self _ _ _ | refine hu_ne (by first | assumption | exact Ne.symm (by assumption)) ?_)) rfl ?_
  refine ev_iload_1 i_ru_setTerms_4 ?_
  refine ev_iconst (v := 3) i_ru_setTerms_5 (by decide) ?_
  refine ev_imul i_ru_setTerms_6 ?_
  refine ev_iload_2 i_ru_setTerms_7 ?_
  refine ev_iadd i_ru_setTerms_8 ?_
  refine ev_iload_3 i_ru_setTerms_9 ?_
  refine ev_iastore i_ru_setTerms_10 ty_int (by repeat (first | assumption | exact va_up_self _ _ _ | refine hu_ne (by first | assumption | exact Ne.symm (by assumption)) ?_)) (j := 3 * i + v) (by rw [nI_3, pk_mul, nI_add, Nat.mul_comm]) (by omega) (by omega) ?_
  refine ev_return i_ru_setTerms_11 rfl ?_
  exact ⟨rfl, rfl⟩
/-- what setLifted makes of a way's bits -/
def slift (f : Int32) (e : Nat) (on : Bool) : Int32 := if on then f ||| ((1 : Int32) <<< (nI e &&& 31)) else f &&& (((1 : Int32) <<< (nI e &&& 31)) ^^^ (-1))
theorem r_ru_setLifted {a w t l n e v : Nat} {F : Nat → Int32} {x : Int32} (ha : h a = some (ru_c w t l n)) (hf : h l = some (aI G 3 F)) (hv : v < 3) :
    Rn G M_ru_setLifted 0 0 0 [.ref a, .int (nI e), .int (nI v), .int x] h (ev_qv fun h' => h' = va_up h l (some (aI G 3 (upd F v (slift (F v) e (decide (¬ x = 0))))))) := by
  refine Rn_of (ls := [some (.ref a), some (.int (nI e)), some (.int (nI v)), some (.int x), none]) rfl rfl (Nat.le_of_ble_eq_true rfl) rfl ?_
  refine ev_iconst (v := 1) i_ru_setLifted_0 (by decide) ?_
  refine ev_iload_1 i_ru_setLifted_1 ?_
  refine ev_ishl i_ru_setLifted_2 ?_
  refine ev_istore_4 i_ru_setLifted_3 rfl ?_
  refine ev_aload_0 i_ru_setLifted_5 ?_
  refine ev_get i_ru_setLifted_6 fl_ru_19 (by repeat (first | assumption | exact va_up_self _ _ _ | refine hu_ne (by first | assumption | exact Ne.symm (by assumption)) ?_)) rfl ?_
  refine ev_iload_2 i_ru_setLifted_9 ?_
  refine ev_iload_3 i_ru_setLifted_10 ?_
  refine ev_if_eq i_ru_setLifted_11 (fun c_11 => ?_) (fun c_11 => ?_)
  · refine ev_aload_0 i_ru_setLifted_26 ?_
    refine ev_get i_ru_setLifted_27 fl_ru_19 (by repeat (first | assumption | exact va_up_self _ _ _ | refine hu_ne (by first | assumption | exact Ne.symm (by assumption)) ?_)) rfl ?_
    refine ev_iload_2 i_ru_setLifted_30 ?_
    refine ev_iaload i_ru_setLifted_31 ty_int (by repeat (first | assumption | exact va_up_self _ _ _ | refine hu_ne (by first | assumption | exact Ne.symm (by assumption)) ?_)) (j := v) rfl (by omega) (by omega) ?_
    refine ev_iload_4 i_ru_setLifted_32 ?_
    refine ev_iconst (v := (-1)) i_ru_setLifted_34 (by decide) ?_
    refine ev_ixor i_ru_setLifted_35 ?_
    refine ev_iand i_ru_setLifted_36 ?_
    refine ev_iastore i_ru_setLifted_37 ty_int (by repeat (first | assumption | exact va_up_self _ _ _ | refine hu_ne (by first | assumption | exact Ne.symm (by assumption)) ?_)) (j := v) rfl (by omega) (by omega) ?_
    refine ev_return i_ru_setLifted_38 rfl ?_
    exact ⟨rfl, by rw [decide_eq_false (fun z => z c_11)]; rfl⟩
  · refine ev_aload_0 i_ru_setLifted_14 ?_
    refine ev_get i_ru_setLifted_15 fl_ru_19 (by repeat (first | assumption | exact va_up_self _ _ _ | refine hu_ne (by first | assumption | exact Ne.symm (by assumption)) ?_)) rfl ?_
    refine ev_iload_2 i_ru_setLifted_18 ?_
    refine ev_iaload i_ru_setLifted_19 ty_int (by repeat (first | assumption | exact va_up_self _ _ _ | refine hu_ne (by first | assumption | exact Ne.symm (by assumption)) ?_)) (j := v) rfl (by omega) (by omega) ?_
    refine ev_iload_4 i_ru_setLifted_20 ?_
    refine ev_ior i_ru_setLifted_22 ?_
    refine ev_goto i_ru_setLifted_23 ?_
    refine ev_iastore i_ru_setLifted_37 ty_int (by repeat (first | assumption | exact va_up_self _ _ _ | refine hu_ne (by first | assumption | exact Ne.symm (by assumption)) ?_)) (j := v) rfl (by omega) (by omega) ?_
    refine ev_return i_ru_setLifted_38 rfl ?_
    exact ⟨rfl, by rw [decide_eq_true c_11]; rfl⟩
/-- what a pair is in a way: 0, its duties, or 256 -/
def tcode (T F : Nat → Int32) (w c : Nat) : Int32 := if 0 < c % 9 ∧ ¬ ((F w >>> (nI (c % 9 - 1) &&& 31)) &&& 1) = 0 then 0 else T (3 * (c / 9) + w)
theorem nI_rem9 {c : Nat} (hc : c < 2 ^ 31) : nI c - nI c / 9 * 9 = nI (c % 9) := pk_rem (d := 9) hc (by omega) (by omega)
theorem nI_div9 {c : Nat} (hc : c < 2 ^ 31) : nI c / 9 = nI (c / 9) := pk_div (d := 9) hc (by omega) (by omega)
theorem r_ru_termsOfCode {a w t l n c v : Nat} {T F : Nat → Int32} (ha : h a = some (ru_c w t l n)) (ht : h t = some (aI G 48 T)) (hf : h l = some (aI G 3 F)) (hc : c < 144) (hv : v < 3) :
    Rn G M_ru_termsOfCode 0 0 0 [.ref a, .int (nI c), .int (nI v)] h (ev_qi fun x h' => x = tcode T F v c ∧ h' = h) := by
  have tail : ¬ (0 < c % 9 ∧ ¬ ((F v >>> (nI (c % 9 - 1) &&& 31)) &&& 1) = 0) → Ev G M_ru_termsOfCode 0 0 0 (ev_qi fun x h' => x = tcode T F v c ∧ h' = h) 26 [some (.ref a), some (.int (nI c)), some (.int (nI v)), some (.int (nI (c % 9)))] [] h := by
    intro hn
    refine ev_aload_0 i_ru_termsOfCode_26 ?_
    refine ev_get i_ru_termsOfCode_27 fl_ru_15 (by repeat (first | assumption | exact va_up_self _ _ _ | refine hu_ne (by first | assumption | exact Ne.symm (by assumption)) ?_)) rfl ?_
    refine ev_iload_1 i_ru_termsOfCode_30 ?_
    refine ev_bipush (v := 9) i_ru_termsOfCode_31 (by decide) ?_
    refine ev_idiv i_ru_termsOfCode_33 (by decide) ?_
    refine ev_iconst (v := 3) i_ru_termsOfCode_34 (by decide) ?_
    refine ev_imul i_ru_termsOfCode_35 ?_
    refine ev_iload_2 i_ru_termsOfCode_36 ?_
    refine ev_iadd i_ru_termsOfCode_37 ?_
    refine ev_iaload i_ru_termsOfCode_38 ty_int (by repeat (first | assumption | exact va_up_self _ _ _ | refine hu_ne (by first | assumption | exact Ne.symm (by assumption)) ?_)) (j := 3 * (c / 9) + v) (by rw [nI_div9 (by omega), nI_3, pk_mul, nI_add, Nat.mul_comm]) (by omega) (by omega) ?_
    refine ev_ireturn i_ru_termsOfCode_39 rfl rfl ?_
    exact ⟨_, rfl, by unfold tcode; rw [if_neg hn], rfl⟩
  refine Rn_of (ls := [some (.ref a), some (.int (nI c)), some (.int (nI v)), none]) rfl rfl (Nat.le_of_ble_eq_true rfl) rfl ?_
  refine ev_iload_1 i_ru_termsOfCode_0 ?_
  refine ev_bipush (v := 9) i_ru_termsOfCode_1 (by decide) ?_
  refine ev_irem i_ru_termsOfCode_3 (by decide) ?_
  refine ev_top (nI_rem9 (by omega)) ?_
  refine ev_istore_3 i_ru_termsOfCode_4 rfl ?_
  refine ev_iload_3 i_ru_termsOfCode_5 ?_
  refine ev_if_le i_ru_termsOfCode_6 (fun c_6 => ?_) (fun c_6 => ?_)
  · refine tail (fun z => ?_)
    exact absurd c_6 (nI_nle z.1 (by omega))
  have hpos : 0 < c % 9 := by
    rcases Nat.eq_zero_or_pos (c % 9) with z | z
    · rw [z] at c_6; exact absurd (by decide) c_6
    · exact z
  refine ev_aload_0 i_ru_termsOfCode_9 ?_
  refine ev_get i_ru_termsOfCode_10 fl_ru_19 (by repeat (first | assumption | exact va_up_self _ _ _ | refine hu_ne (by first | assumption | exact Ne.symm (by assumption)) ?_)) rfl ?_
  refine ev_iload_2 i_ru_termsOfCode_13 ?_
  refine ev_iaload i_ru_termsOfCode_14 ty_int (by repeat (first | assumption | exact va_up_self _ _ _ | refine hu_ne (by first | assumption | exact Ne.symm (by assumption)) ?_)) (j := v) rfl (by omega) (by omega) ?_
  refine ev_iload_3 i_ru_termsOfCode_15 ?_
  refine ev_iconst (v := 1) i_ru_termsOfCode_16 (by decide) ?_
  refine ev_isub i_ru_termsOfCode_17 ?_
  refine ev_ishr i_ru_termsOfCode_18 ?_
  refine ev_iconst (v := 1) i_ru_termsOfCode_19 (by decide) ?_
  refine ev_iand i_ru_termsOfCode_20 ?_
  refine ev_if_eq i_ru_termsOfCode_21 (fun c_21 => ?_) (fun c_21 => ?_)
  · refine tail (fun z => ?_)
    refine z.2 ?_
    rw [← c_21]
    rw [show nI (c % 9) - 1 = nI (c % 9 - 1) from by
      have := nI_pred (c % 9 - 1)
      rw [show c % 9 - 1 + 1 = c % 9 by omega] at this
      exact this]
  · refine ev_iconst (v := 0) i_ru_termsOfCode_24 (by decide) ?_
    refine ev_ireturn i_ru_termsOfCode_25 rfl rfl ?_
    refine ⟨_, rfl, ?_, rfl⟩
    unfold tcode
    rw [if_pos]
    refine ⟨hpos, fun z => c_21 ?_⟩
    rw [← z]
    rw [show nI (c % 9) - 1 = nI (c % 9 - 1) from by
      have := nI_pred (c % 9 - 1)
      rw [show c % 9 - 1 + 1 = c % 9 by omega] at this
      exact this]
/-- what a choice is in a way: the terms of its pairs joined -/
def tjoin (S : Nat → Bool) (T F : Nat → Int32) (w : Nat) : Nat → Int32
  | 0 => 0
  | c + 1 => if S c then tjoin S T F w c ||| tcode T F w c else tjoin S T F w c
theorem r_ru_termsOf {a w t l n a1 b1 r1 n1 p v : Nat} {T F : Nat → Int32} {B : Nat → Int64} (ha : h a = some (ru_c w t l n)) (ht : h t = some (aI G 48 T)) (hf : h l = some (aI G 3 F)) (ha1 : h a1 = some (fo_c b1 r1 n1)) (hb1 : h b1 = some (fo_b G r1 B)) (hr1 : r1 < 2 ^ 20) (hn1 : n1 ≤ r1) (hp : p < n1) (hv : v < 3) :
    Rn G M_ru_termsOf 1 0 0 [.ref a, .ref a1, .int (nI p), .int (nI v)] h (ev_qi fun x h' => x = tjoin (cs B p) T F v 144 ∧ h' = h) := by
  refine Rn_of (ls := [some (.ref a), some (.ref a1), some (.int (nI p)), some (.int (nI v)), none, none]) rfl rfl (Nat.le_of_ble_eq_true rfl) rfl ?_
  refine ev_iconst (v := 0) i_ru_termsOf_0 (by decide) ?_
  refine ev_istore_4 i_ru_termsOf_1 rfl ?_
  refine ev_iconst (v := 0) i_ru_termsOf_3 (by decide) ?_
  refine ev_istore_5 i_ru_termsOf_4 rfl ?_
  have loop : ∀ m j : Nat, j + m = 144 → Ev G M_ru_termsOf 1 0 0 (ev_qi fun x h' => x = tjoin (cs B p) T F v 144 ∧ h' = h) 6 [some (.ref a), some (.ref a1), some (.int (nI p)), some (.int (nI v)), some (.int (tjoin (cs B p) T F v j)), some (.int (nI j))] [] h := by
    intro m
    induction m with
    | zero =>
      intro j hj
      obtain rfl : j = 144 := by omega
      refine ev_iload_5 i_ru_termsOf_6 ?_
      refine ev_sipush (v := 144) i_ru_termsOf_8 (by decide) ?_
      refine ev_icmp_ge i_ru_termsOf_11 (fun c_11 => ?_) (fun c_11 => ?_)
      · refine ev_iload_4 i_ru_termsOf_42 ?_
        refine ev_ireturn i_ru_termsOf_44 rfl rfl ?_
        exact ⟨_, rfl, rfl, rfl⟩
      · exact absurd (by decide) c_11
    | succ m ih =>
      intro j hj
      refine ev_iload_5 i_ru_termsOf_6 ?_
      refine ev_sipush (v := 144) i_ru_termsOf_8 (by decide) ?_
      refine ev_icmp_ge i_ru_termsOf_11 (fun c_11 => ?_) (fun c_11 => ?_)
      · exact absurd c_11 (show ¬ nI 144 ≤ nI j from nI_ge (by omega) (by omega))
      refine ev_aload_1 i_ru_termsOf_14 ?_
      refine ev_iload_2 i_ru_termsOf_15 ?_
      refine ev_iload_5 i_ru_termsOf_16 ?_
      refine ev_vi2 i_ru_termsOf_18 lk_ru_26 cb_fo_holds iv_fo_holds (r_fo_holds ha1 hb1 hr1 hn1 hp (show j < 144 by omega)) (by repeat (first | assumption | exact va_up_self _ _ _ | refine hu_ne (by first | assumption | exact Ne.symm (by assumption)) ?_)) rfl (by decide) (Nat.le_of_ble_eq_true rfl) rfl rfl (fun x h1 hq => ?_)
      obtain ⟨rfl, rfl⟩ := hq
      refine ev_if_eq i_ru_termsOf_21 (fun c_21 => ?_) (fun c_21 => ?_)
      · have hS := bn_f (if_10 c_21)
        refine ev_iinc_5 i_ru_termsOf_36 (nI_1 j) rfl ?_
        refine ev_goto i_ru_termsOf_39 ?_
        have := ih (j + 1) (by omega)
        unfold tjoin at this
        rw [hS] at this
        exact this
      · have hS := if_11 c_21
        refine ev_iload_4 i_ru_termsOf_24 ?_
        refine ev_aload_0 i_ru_termsOf_26 ?_
        refine ev_iload_5 i_ru_termsOf_27 ?_
        refine ev_iload_3 i_ru_termsOf_29 ?_
        refine ev_vi2 i_ru_termsOf_30 lk_ru_32 cb_ru_termsOfCode iv_ru_termsOfCode (r_ru_termsOfCode ha ht hf (show j < 144 by omega) hv) (by repeat (first | assumption | exact va_up_self _ _ _ | refine hu_ne (by first | assumption | exact Ne.symm (by assumption)) ?_)) rfl (by decide) (Nat.le_of_ble_eq_true rfl) rfl rfl (fun x h1 hq => ?_)
        obtain ⟨rfl, rfl⟩ := hq
        refine ev_ior i_ru_termsOf_33 ?_
        refine ev_istore_4 i_ru_termsOf_34 rfl ?_
        refine ev_iinc_5 i_ru_termsOf_36 (nI_1 j) rfl ?_
        refine ev_goto i_ru_termsOf_39 ?_
        have := ih (j + 1) (by omega)
        unfold tjoin at this
        rw [hS] at this
        exact this
  exact loop 144 0 (by omega)
end RU
end
section
section RU2
variable {G : ev_G} {h : ev_H}
/-- THE BEST CHOICE, as the class looks for it: its place (or none) and its weight -/
def cwt (B : Nat → Int64) (T F : Nat → Int32) (v i : Nat) : Int32 := bci (tjoin (cs B i) T F v 144) * 145 + pcn (c3 B i)
def cbest (B : Nat → Int64) (T F : Nat → Int32) (v : Nat) : Nat → Int32 × Int32
  | 0 => (-1, 0)
  | i + 1 => if tjoin (cs B i) T F v 144 < 256 ∧ ((cbest B T F v i).1 = -1 ∨ cwt B T F v i < (cbest B T F v i).2) then (nI i, cwt B T F v i) else cbest B T F v i
theorem cbest_s (B : Nat → Int64) (T F : Nat → Int32) (v i : Nat) : cbest B T F v (i + 1) = if tjoin (cs B i) T F v 144 < 256 ∧ ((cbest B T F v i).1 = -1 ∨ cwt B T F v i < (cbest B T F v i).2) then (nI i, cwt B T F v i) else cbest B T F v i := rfl
theorem r_ru_bestOf {a w t l n a1 b1 r1 n1 v : Nat} {T F : Nat → Int32} {B : Nat → Int64} (ha : h a = some (ru_c w t l n)) (ht : h t = some (aI G 48 T)) (hf : h l = some (aI G 3 F)) (ha1 : h a1 = some (fo_c b1 r1 n1)) (hb1 : h b1 = some (fo_b G r1 B)) (hr1 : r1 < 2 ^ 20) (hn1 : n1 ≤ r1) (hv : v < 3) :
    Rn G M_ru_bestOf 2 0 0 [.ref a, .ref a1, .int (nI v)] h (ev_qi fun x h' => x = (cbest B T F v n1).1 ∧ h' = h) := by
  refine Rn_of (ls := [some (.ref a), some (.ref a1), some (.int (nI v)), none, none, none, none, none]) rfl rfl (Nat.le_of_ble_eq_true rfl) rfl ?_
  refine ev_iconst (v := (-1)) i_ru_bestOf_0 (by decide) ?_
  refine ev_istore_3 i_ru_bestOf_1 rfl ?_
  refine ev_iconst (v := 0) i_ru_bestOf_2 (by decide) ?_
  refine ev_istore_4 i_ru_bestOf_3 rfl ?_
  refine ev_iconst (v := 0) i_ru_bestOf_5 (by decide) ?_
  refine ev_istore_5 i_ru_bestOf_6 rfl ?_
  have loop : ∀ (m j : Nat) (w6 w7 : Option Value), ev_nl w6 = true → ev_nl w7 = true → j + m = n1 → Ev G M_ru_bestOf 2 0 0 (ev_qi fun x h' => x = (cbest B T F v n1).1 ∧ h' = h) 8 [some (.ref a), some (.ref a1), some (.int (nI v)), some (.int (cbest B T F v j).1), some (.int (cbest B T F v j).2), some (.int (nI j)), w6, w7] [] h := by
    intro m
    induction m with
    | zero =>
      intro j w6 w7 hw6 hw7 hj
      obtain rfl : j = n1 := by omega
      refine ev_iload_5 i_ru_bestOf_8 ?_
      refine ev_aload_1 i_ru_bestOf_10 ?_
      refine ev_vi0 i_ru_bestOf_11 lk_ru_36 cb_fo_size iv_fo_size (r_fo_size ha1) (by repeat (first | assumption | exact va_up_self _ _ _ | refine hu_ne (by first | assumption | exact Ne.symm (by assumption)) ?_)) rfl (by decide) (Nat.le_of_ble_eq_true rfl) rfl rfl (fun x h1 hq => ?_)
      obtain ⟨rfl, rfl⟩ := hq
      refine ev_icmp_ge i_ru_bestOf_14 (fun c_14 => ?_) (fun c_14 => ?_)
      · refine ev_iload_3 i_ru_bestOf_78 ?_
        refine ev_ireturn i_ru_bestOf_79 rfl rfl ?_
        exact ⟨_, rfl, rfl, rfl⟩
      · exact absurd (nI_le (Nat.le_refl _) (by omega)) c_14
    | succ m ih =>
      intro j w6 w7 hw6 hw7 hj
      refine ev_iload_5 i_ru_bestOf_8 ?_
      refine ev_aload_1 i_ru_bestOf_10 ?_
      refine ev_vi0 i_ru_bestOf_11 lk_ru_36 cb_fo_size iv_fo_size (r_fo_size ha1) (by repeat (first | assumption | exact va_up_self _ _ _ | refine hu_ne (by first | assumption | exact Ne.symm (by assumption)) ?_)) rfl (by decide) (Nat.le_of_ble_eq_true rfl) rfl rfl (fun x h1 hq => ?_)
      obtain ⟨rfl, rfl⟩ := hq
      refine ev_icmp_ge i_ru_bestOf_14 (fun c_14 => ?_) (fun c_14 => ?_)
      · exact absurd c_14 (nI_ge (by omega) (by omega))
      refine ev_aload_0 i_ru_bestOf_17 ?_
      refine ev_aload_1 i_ru_bestOf_18 ?_
      refine ev_iload_5 i_ru_bestOf_19 ?_
      refine ev_iload_2 i_ru_bestOf_21 ?_
      refine ev_vi3 i_ru_bestOf_22 lk_ru_40 cb_ru_termsOf iv_ru_termsOf (r_ru_termsOf ha ht hf ha1 hb1 hr1 hn1 (show j < n1 by omega) hv) (by repeat (first | assumption | exact va_up_self _ _ _ | refine hu_ne (by first | assumption | exact Ne.symm (by assumption)) ?_)) rfl (by decide) (Nat.le_of_ble_eq_true rfl) rfl rfl (fun x h2 hq => ?_)
      obtain ⟨rfl, rfl⟩ := hq
      refine ev_istore_6 i_ru_bestOf_25 rfl ?_
      refine ev_iload_6 i_ru_bestOf_27 ?_
      refine ev_ti1 i_ru_bestOf_29 lk_ru_44 cb_jin_bitCount sv_jin_bitCount (r_jin_bitCount) (by decide) (Nat.le_of_ble_eq_true rfl) rfl rfl (fun x h2 hq => ?_)
      obtain ⟨rfl, rfl⟩ := hq
      refine ev_sipush (v := 145) i_ru_bestOf_32 (by decide) ?_
      refine ev_imul i_ru_bestOf_35 ?_
      refine ev_aload_1 i_ru_bestOf_36 ?_
      refine ev_iload_5 i_ru_bestOf_37 ?_
      refine ev_vi1 i_ru_bestOf_39 lk_ru_50 cb_fo_pairCount iv_fo_pairCount (r_fo_pairCount ha1 hb1 hr1 hn1 (show j < n1 by omega)) (by repeat (first | assumption | exact va_up_self _ _ _ | refine hu_ne (by first | assumption | exact Ne.symm (by assumption)) ?_)) rfl (by decide) (Nat.le_of_ble_eq_true rfl) rfl rfl (fun x h2 hq => ?_)
      obtain ⟨rfl, rfl⟩ := hq
      have nx := ih (j + 1) (some (.int (tjoin (cs B j) T F v 144))) (some (.int (cwt B T F v j))) rfl rfl (by omega)
      rw [cbest_s] at nx
      refine ev_iadd i_ru_bestOf_42 ?_
      refine ev_istore_7 i_ru_bestOf_43 rfl ?_
      refine ev_iload_6 i_ru_bestOf_45 ?_
      refine ev_sipush (v := 256) i_ru_bestOf_47 (by decide) ?_
      refine ev_icmp_ge i_ru_bestOf_50 (fun c_50 => ?_) (fun c_50 => ?_)
      · rw [if_neg (fun z => absurd z.1 (Int32.not_lt.mpr c_50))] at nx
        refine ev_iinc_5 i_ru_bestOf_72 (nI_1 j) rfl ?_
        refine ev_goto i_ru_bestOf_75 ?_
        exact nx
      have hlt := Int32.not_le.mp c_50
      refine ev_iload_3 i_ru_bestOf_53 ?_
      refine ev_iconst (v := (-1)) i_ru_bestOf_54 (by decide) ?_
      refine ev_icmp_eq i_ru_bestOf_55 (fun c_55 => ?_) (fun c_55 => ?_)
      · rw [if_pos ⟨hlt, Or.inl c_55⟩] at nx
        refine ev_iload_5 i_ru_bestOf_65 ?_
        refine ev_istore_3 i_ru_bestOf_67 rfl ?_
        refine ev_iload_7 i_ru_bestOf_68 ?_
        refine ev_istore_4 i_ru_bestOf_70 rfl ?_
        refine ev_iinc_5 i_ru_bestOf_72 (nI_1 j) rfl ?_
        refine ev_goto i_ru_bestOf_75 ?_
        exact nx
      refine ev_iload_7 i_ru_bestOf_58 ?_
      refine ev_iload_4 i_ru_bestOf_60 ?_
      refine ev_icmp_ge i_ru_bestOf_62 (fun c_62 => ?_) (fun c_62 => ?_)
      · rw [if_neg (fun z => z.2.elim c_55 (fun q => absurd q (Int32.not_lt.mpr c_62)))] at nx
        refine ev_iinc_5 i_ru_bestOf_72 (nI_1 j) rfl ?_
        refine ev_goto i_ru_bestOf_75 ?_
        exact nx
      · rw [if_pos ⟨hlt, Or.inr (Int32.not_le.mp c_62)⟩] at nx
        refine ev_iload_5 i_ru_bestOf_65 ?_
        refine ev_istore_3 i_ru_bestOf_67 rfl ?_
        refine ev_iload_7 i_ru_bestOf_68 ?_
        refine ev_istore_4 i_ru_bestOf_70 rfl ?_
        refine ev_iinc_5 i_ru_bestOf_72 (nI_1 j) rfl ?_
        refine ev_goto i_ru_bestOf_75 ?_
        exact nx
  exact loop n1 0 none none rfl rfl (by omega)
/-- SCORE, as the class computes it -/
def cscore (x y : Int64) : Int32 := if bcl (x ||| y) = 0 then 0 else 100 * bcl (x &&& y) / bcl (x ||| y)
theorem r_ru_scoreOf {a w t l n i : Nat} {W : Nat → Int64} {x : Int64} (ha : h a = some (ru_c w t l n)) (hw : h w = some (aL G 16 W)) (hi : i < 16) :
    Rn G M_ru_scoreOf 1 0 0 [.ref a, .long x, .int (nI i)] h (ev_qi fun v h' => v = cscore x (W i) ∧ h' = h) := by
  refine Rn_of (ls := [some (.ref a), some (.long x), none, some (.int (nI i)), none]) rfl rfl (Nat.le_of_ble_eq_true rfl) rfl ?_
  refine ev_lload_1 i_ru_scoreOf_0 ?_
  refine ev_aload_0 i_ru_scoreOf_1 ?_
  refine ev_get i_ru_scoreOf_2 fl_ru_9 (by repeat (first | assumption | exact va_up_self _ _ _ | refine hu_ne (by first | assumption | exact Ne.symm (by assumption)) ?_)) rfl ?_
  refine ev_iload_3 i_ru_scoreOf_5 ?_
  refine ev_laload i_ru_scoreOf_6 ty_long (by repeat (first | assumption | exact va_up_self _ _ _ | refine hu_ne (by first | assumption | exact Ne.symm (by assumption)) ?_)) (j := i) rfl (by omega) (by omega) ?_
  refine ev_lor i_ru_scoreOf_7 ?_
  refine ev_ti1 i_ru_scoreOf_8 lk_ru_53 cb_jlo_bitCount sv_jlo_bitCount (r_jlo_bitCount) (by decide) (Nat.le_of_ble_eq_true rfl) rfl rfl (fun v h1 hq => ?_)
  obtain ⟨rfl, rfl⟩ := hq
  refine ev_istore_4 i_ru_scoreOf_11 rfl ?_
  refine ev_iload_4 i_ru_scoreOf_13 ?_
  refine ev_if_ne i_ru_scoreOf_15 (fun c_15 => ?_) (fun c_15 => ?_)
  rotate_left
  · refine ev_iconst (v := 0) i_ru_scoreOf_18 (by decide) ?_
    refine ev_goto i_ru_scoreOf_19 ?_
    refine ev_ireturn i_ru_scoreOf_39 rfl rfl ?_
    exact ⟨_, rfl, by unfold cscore; rw [if_pos c_15], rfl⟩
  · refine ev_bipush (v := 100) i_ru_scoreOf_22 (by decide) ?_
    refine ev_lload_1 i_ru_scoreOf_24 ?_
    refine ev_aload_0 i_ru_scoreOf_25 ?_
    refine ev_get i_ru_scoreOf_26 fl_ru_9 (by repeat (first | assumption | exact va_up_self _ _ _ | refine hu_ne (by first | assumption | exact Ne.symm (by assumption)) ?_)) rfl ?_
    refine ev_iload_3 i_ru_scoreOf_29 ?_
    refine ev_laload i_ru_scoreOf_30 ty_long (by repeat (first | assumption | exact va_up_self _ _ _ | refine hu_ne (by first | assumption | exact Ne.symm (by assumption)) ?_)) (j := i) rfl (by omega) (by omega) ?_
    refine ev_land i_ru_scoreOf_31 ?_
    refine ev_ti1 i_ru_scoreOf_32 lk_ru_53 cb_jlo_bitCount sv_jlo_bitCount (r_jlo_bitCount) (by decide) (Nat.le_of_ble_eq_true rfl) rfl rfl (fun v h2 hq => ?_)
    obtain ⟨rfl, rfl⟩ := hq
    refine ev_imul i_ru_scoreOf_35 ?_
    refine ev_iload_4 i_ru_scoreOf_36 ?_
    refine ev_idiv i_ru_scoreOf_38 c_15 ?_
    refine ev_ireturn i_ru_scoreOf_39 rfl rfl ?_
    exact ⟨_, rfl, by unfold cscore; rw [if_neg c_15], rfl⟩
end RU2
end
section
section PK
variable {G : ev_G} {h : ev_H}
abbrev pk_c (f u v n : Nat) (e : Int32) : va_E := .inr (1, [.ref f, .ref u, .ref v, .int (nI n), .int e])
theorem r_pk_init {a : Nat} (ha : h a = some (.inr (1, [.null, .null, .null, .int 0, .int 0]))) :
    Rn G M_pk_init 2 4 75 [.ref a] h (ev_qv fun h' => ∃ f b u v : Nat, (f ≠ a ∧ b ≠ a ∧ u ≠ a ∧ v ≠ a ∧ b ≠ f ∧ u ≠ f ∧ v ≠ f ∧ u ≠ b ∧ v ≠ b ∧ v ≠ u) ∧ h f = none ∧ h b = none ∧ h u = none ∧ h v = none ∧
      h' = va_up (va_up (va_up (va_up (va_up h b (some (fo_b G 20 (fun _ => 0)))) f (some (fo_c b 20 0))) u (some (aI G 6 (fun _ => 0)))) v (some (aI G 6 (fun _ => 0)))) a (some (pk_c f u v 0 (-1)))) := by
  refine Rn_of (ls := [some (.ref a)]) rfl rfl (Nat.le_of_ble_eq_true rfl) rfl ?_
  refine ev_aload_0 i_pk_init_0 ?_
  refine ev_obj i_pk_init_1 ob_pk_3 ob_2 ob_3 (by decide) (Nat.le_of_ble_eq_true rfl) ?_
  refine ev_aload_0 i_pk_init_4 ?_
  refine ev_new (fs := [.int 0, .null, .int 0]) (kc' := 3) (ks' := 72) i_pk_init_5 k_fo cl_pk_9 ns_fo in_fo (fun j hj => by rcases (show j = 0 ∨ j = 1 ∨ j = 2 by omega) with rfl | rfl | rfl <;> rfl) rfl rfl (fun f hf => ?_)
  have hfa : f ≠ a := by intro e; subst e; rw [ha] at hf; cases hf
  refine ev_dup i_pk_init_8 rfl ?_
  refine ev_bipush (v := 20) i_pk_init_9 (by decide) ?_
  refine ev_sv1 (kc' := 2) (ks' := 12) i_pk_init_11 lk_pk_11 cb_fo_init iv_fo_init (r_fo_init (r := 20) (va_up_self _ _ _) (by omega) (by omega)) (by decide) (Nat.le_of_ble_eq_true rfl) rfl rfl (fun h1 hq => ?_)
  obtain ⟨b, hbf, hb, rfl⟩ := hq
  rw [va_up_ne _ _ hbf] at hb
  have hba : b ≠ a := by intro e; subst e; rw [ha] at hb; cases hb
  rw [hu_comm hbf, hu_uu]
  sorry
end PK
end
