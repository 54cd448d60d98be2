-- ===== PART A: goes FIRST, ahead of the names: the tables' words, and 'selects' of the private methods out of them =====
/-- a private method of a class that the tables say can be made, by its rows of tables_1 -/
def lw_okq (q : MethodName × Nat) : Prop := (q.1.cls ≠ "java/lang/invoke/MethodHandle" ∧ q.1.cls ≠ "java/lang/invoke/VarHandle") ∧ Cond.instantiable q.1.cls q.2 ∈ tables_1 ∧ Cond.privateMethod q.1 ∈ tables_1 ∧ Cond.instanceMethod q.1 ∈ tables_1
theorem lw_p0 : lw_okq (⟨"LicenceRules", "packAt", "(I)LLicenceRules$Pack;"⟩, 6) := ⟨⟨by decide +kernel, by decide +kernel⟩, List.mem_of_getElem? (i := 13) (by decide +kernel), List.mem_of_getElem? (i := 223) (by decide +kernel), List.mem_of_getElem? (i := 224) (by decide +kernel)⟩
theorem lw_p1 : lw_okq (⟨"LicenceRules$Reader", "startLevel", "()V"⟩, 10) := ⟨⟨by decide +kernel, by decide +kernel⟩, List.mem_of_getElem? (i := 42) (by decide +kernel), List.mem_of_getElem? (i := 235) (by decide +kernel), List.mem_of_getElem? (i := 236) (by decide +kernel)⟩
theorem lw_p2 : lw_okq (⟨"LicenceRules$Reader", "takes", "(CI)Z"⟩, 10) := ⟨⟨by decide +kernel, by decide +kernel⟩, List.mem_of_getElem? (i := 42) (by decide +kernel), List.mem_of_getElem? (i := 243) (by decide +kernel), List.mem_of_getElem? (i := 244) (by decide +kernel)⟩
theorem lw_p3 : lw_okq (⟨"LicenceRules$Reader", "opens", "()Z"⟩, 10) := ⟨⟨by decide +kernel, by decide +kernel⟩, List.mem_of_getElem? (i := 42) (by decide +kernel), List.mem_of_getElem? (i := 247) (by decide +kernel), List.mem_of_getElem? (i := 248) (by decide +kernel)⟩
theorem lw_p4 : lw_okq (⟨"LicenceRules$Reader", "takesName", "(CI)Z"⟩, 10) := ⟨⟨by decide +kernel, by decide +kernel⟩, List.mem_of_getElem? (i := 42) (by decide +kernel), List.mem_of_getElem? (i := 251) (by decide +kernel), List.mem_of_getElem? (i := 252) (by decide +kernel)⟩
theorem lw_p5 : lw_okq (⟨"LicenceRules$Reader", "takesDigit", "(C)Z"⟩, 10) := ⟨⟨by decide +kernel, by decide +kernel⟩, List.mem_of_getElem? (i := 42) (by decide +kernel), List.mem_of_getElem? (i := 255) (by decide +kernel), List.mem_of_getElem? (i := 256) (by decide +kernel)⟩
theorem lw_p6 : lw_okq (⟨"LicenceRules$Reader", "endAtom", "(LLicenceRules$Form;)V"⟩, 10) := ⟨⟨by decide +kernel, by decide +kernel⟩, List.mem_of_getElem? (i := 42) (by decide +kernel), List.mem_of_getElem? (i := 263) (by decide +kernel), List.mem_of_getElem? (i := 264) (by decide +kernel)⟩
theorem lw_p7 : lw_okq (⟨"LicenceRules$Form", "hasOneWithin", "(JJJ)Z"⟩, 3) := ⟨⟨by decide +kernel, by decide +kernel⟩, List.mem_of_getElem? (i := 49) (by decide +kernel), List.mem_of_getElem? (i := 285) (by decide +kernel), List.mem_of_getElem? (i := 286) (by decide +kernel)⟩
theorem lw_p8 : lw_okq (⟨"LicenceRules$Form", "dropThoseWith", "(JJJ)V"⟩, 3) := ⟨⟨by decide +kernel, by decide +kernel⟩, List.mem_of_getElem? (i := 49) (by decide +kernel), List.mem_of_getElem? (i := 290) (by decide +kernel), List.mem_of_getElem? (i := 291) (by decide +kernel)⟩
theorem lw_p9 : lw_okq (⟨"LicenceRules$Reader", "keepWork", "(LLicenceRules$Form;)V"⟩, 10) := ⟨⟨by decide +kernel, by decide +kernel⟩, List.mem_of_getElem? (i := 42) (by decide +kernel), List.mem_of_getElem? (i := 294) (by decide +kernel), List.mem_of_getElem? (i := 295) (by decide +kernel)⟩
theorem lw_p10 : lw_okq (⟨"LicenceRules$Reader", "endName", "()V"⟩, 10) := ⟨⟨by decide +kernel, by decide +kernel⟩, List.mem_of_getElem? (i := 42) (by decide +kernel), List.mem_of_getElem? (i := 298) (by decide +kernel), List.mem_of_getElem? (i := 299) (by decide +kernel)⟩
theorem lw_p11 : lw_okq (⟨"LicenceRules$Reader", "closes", "()Z"⟩, 10) := ⟨⟨by decide +kernel, by decide +kernel⟩, List.mem_of_getElem? (i := 42) (by decide +kernel), List.mem_of_getElem? (i := 302) (by decide +kernel), List.mem_of_getElem? (i := 303) (by decide +kernel)⟩
theorem lw_p12 : lw_okq (⟨"LicenceRules$Reader", "endAlso", "()V"⟩, 10) := ⟨⟨by decide +kernel, by decide +kernel⟩, List.mem_of_getElem? (i := 42) (by decide +kernel), List.mem_of_getElem? (i := 306) (by decide +kernel), List.mem_of_getElem? (i := 307) (by decide +kernel)⟩
theorem lw_p13 : lw_okq (⟨"LicenceRules$Reader", "takesSign", "(C)Z"⟩, 10) := ⟨⟨by decide +kernel, by decide +kernel⟩, List.mem_of_getElem? (i := 42) (by decide +kernel), List.mem_of_getElem? (i := 310) (by decide +kernel), List.mem_of_getElem? (i := 311) (by decide +kernel)⟩
theorem lw_p14 : lw_okq (⟨"LicenceRules$Rules", "termsOfCode", "(II)I"⟩, 4) := ⟨⟨by decide +kernel, by decide +kernel⟩, List.mem_of_getElem? (i := 21) (by decide +kernel), List.mem_of_getElem? (i := 358) (by decide +kernel), List.mem_of_getElem? (i := 359) (by decide +kernel)⟩
theorem lw_p15 : lw_okq (⟨"LicenceRules$Review", "addOnce", "(III)V"⟩, 6) := ⟨⟨by decide +kernel, by decide +kernel⟩, List.mem_of_getElem? (i := 102) (by decide +kernel), List.mem_of_getElem? (i := 410) (by decide +kernel), List.mem_of_getElem? (i := 411) (by decide +kernel)⟩
def lw_privs_1 : List (MethodName × Nat) := [(⟨"LicenceRules", "packAt", "(I)LLicenceRules$Pack;"⟩, 6), (⟨"LicenceRules$Reader", "startLevel", "()V"⟩, 10), (⟨"LicenceRules$Reader", "takes", "(CI)Z"⟩, 10), (⟨"LicenceRules$Reader", "opens", "()Z"⟩, 10), (⟨"LicenceRules$Reader", "takesName", "(CI)Z"⟩, 10), (⟨"LicenceRules$Reader", "takesDigit", "(C)Z"⟩, 10), (⟨"LicenceRules$Reader", "endAtom", "(LLicenceRules$Form;)V"⟩, 10), (⟨"LicenceRules$Form", "hasOneWithin", "(JJJ)Z"⟩, 3), (⟨"LicenceRules$Form", "dropThoseWith", "(JJJ)V"⟩, 3), (⟨"LicenceRules$Reader", "keepWork", "(LLicenceRules$Form;)V"⟩, 10), (⟨"LicenceRules$Reader", "endName", "()V"⟩, 10), (⟨"LicenceRules$Reader", "closes", "()Z"⟩, 10), (⟨"LicenceRules$Reader", "endAlso", "()V"⟩, 10), (⟨"LicenceRules$Reader", "takesSign", "(C)Z"⟩, 10), (⟨"LicenceRules$Rules", "termsOfCode", "(II)I"⟩, 4), (⟨"LicenceRules$Review", "addOnce", "(III)V"⟩, 6)]
theorem lw_r1 : ∀ q ∈ lw_privs_1, lw_okq q := List.forall_mem_cons.mpr ⟨lw_p0, List.forall_mem_cons.mpr ⟨lw_p1, List.forall_mem_cons.mpr ⟨lw_p2, List.forall_mem_cons.mpr ⟨lw_p3, List.forall_mem_cons.mpr ⟨lw_p4, List.forall_mem_cons.mpr ⟨lw_p5, List.forall_mem_cons.mpr ⟨lw_p6, List.forall_mem_cons.mpr ⟨lw_p7, List.forall_mem_cons.mpr ⟨lw_p8, List.forall_mem_cons.mpr ⟨lw_p9, List.forall_mem_cons.mpr ⟨lw_p10, List.forall_mem_cons.mpr ⟨lw_p11, List.forall_mem_cons.mpr ⟨lw_p12, List.forall_mem_cons.mpr ⟨lw_p13, List.forall_mem_cons.mpr ⟨lw_p14, List.forall_mem_cons.mpr ⟨lw_p15, fun _ h => absurd h List.not_mem_nil⟩⟩⟩⟩⟩⟩⟩⟩⟩⟩⟩⟩⟩⟩⟩⟩
theorem lw_p16 : lw_okq (⟨"LicenceRules$Review", "judgeOne", "(ILLicenceRules$Pack;LLicenceRules$Rules;I)V"⟩, 6) := ⟨⟨by decide +kernel, by decide +kernel⟩, List.mem_of_getElem? (i := 102) (by decide +kernel), List.mem_of_getElem? (i := 420) (by decide +kernel), List.mem_of_getElem? (i := 421) (by decide +kernel)⟩
theorem lw_p17 : lw_okq (⟨"LicenceRules$Review", "isFirstOfItsPack", "(I)Z"⟩, 6) := ⟨⟨by decide +kernel, by decide +kernel⟩, List.mem_of_getElem? (i := 102) (by decide +kernel), List.mem_of_getElem? (i := 450) (by decide +kernel), List.mem_of_getElem? (i := 451) (by decide +kernel)⟩
theorem lw_p18 : lw_okq (⟨"LicenceRulesModel", "isLicence", "(I)Z"⟩, 35) := ⟨⟨by decide +kernel, by decide +kernel⟩, List.mem_of_getElem? (i := 467) (by decide +kernel), List.mem_of_getElem? (i := 588) (by decide +kernel), List.mem_of_getElem? (i := 589) (by decide +kernel)⟩
theorem lw_p19 : lw_okq (⟨"LicenceRulesModel", "read", "()I"⟩, 35) := ⟨⟨by decide +kernel, by decide +kernel⟩, List.mem_of_getElem? (i := 467) (by decide +kernel), List.mem_of_getElem? (i := 611) (by decide +kernel), List.mem_of_getElem? (i := 612) (by decide +kernel)⟩
theorem lw_p20 : lw_okq (⟨"LicenceRulesModel", "operand", "()Z"⟩, 35) := ⟨⟨by decide +kernel, by decide +kernel⟩, List.mem_of_getElem? (i := 467) (by decide +kernel), List.mem_of_getElem? (i := 615) (by decide +kernel), List.mem_of_getElem? (i := 616) (by decide +kernel)⟩
theorem lw_p21 : lw_okq (⟨"LicenceRulesModel", "next", "()I"⟩, 35) := ⟨⟨by decide +kernel, by decide +kernel⟩, List.mem_of_getElem? (i := 467) (by decide +kernel), List.mem_of_getElem? (i := 619) (by decide +kernel), List.mem_of_getElem? (i := 620) (by decide +kernel)⟩
theorem lw_p22 : lw_okq (⟨"LicenceRulesModel", "pairOf", "(I)I"⟩, 35) := ⟨⟨by decide +kernel, by decide +kernel⟩, List.mem_of_getElem? (i := 467) (by decide +kernel), List.mem_of_getElem? (i := 623) (by decide +kernel), List.mem_of_getElem? (i := 624) (by decide +kernel)⟩
theorem lw_p23 : lw_okq (⟨"LicenceRulesModel", "workOff", "(Z)V"⟩, 35) := ⟨⟨by decide +kernel, by decide +kernel⟩, List.mem_of_getElem? (i := 467) (by decide +kernel), List.mem_of_getElem? (i := 627) (by decide +kernel), List.mem_of_getElem? (i := 628) (by decide +kernel)⟩
theorem lw_p24 : lw_okq (⟨"LicenceRulesModel", "join", "(I)V"⟩, 35) := ⟨⟨by decide +kernel, by decide +kernel⟩, List.mem_of_getElem? (i := 467) (by decide +kernel), List.mem_of_getElem? (i := 631) (by decide +kernel), List.mem_of_getElem? (i := 632) (by decide +kernel)⟩
theorem lw_p25 : lw_okq (⟨"LicenceRulesModel", "isPack", "(I)Z"⟩, 35) := ⟨⟨by decide +kernel, by decide +kernel⟩, List.mem_of_getElem? (i := 467) (by decide +kernel), List.mem_of_getElem? (i := 635) (by decide +kernel), List.mem_of_getElem? (i := 636) (by decide +kernel)⟩
theorem lw_p26 : lw_okq (⟨"LicenceRulesModel", "bestOf", "(II)I"⟩, 35) := ⟨⟨by decide +kernel, by decide +kernel⟩, List.mem_of_getElem? (i := 467) (by decide +kernel), List.mem_of_getElem? (i := 651) (by decide +kernel), List.mem_of_getElem? (i := 652) (by decide +kernel)⟩
theorem lw_p27 : lw_okq (⟨"LicenceRulesModel", "dutiesOf", "(III)I"⟩, 35) := ⟨⟨by decide +kernel, by decide +kernel⟩, List.mem_of_getElem? (i := 467) (by decide +kernel), List.mem_of_getElem? (i := 655) (by decide +kernel), List.mem_of_getElem? (i := 656) (by decide +kernel)⟩
theorem lw_p28 : lw_okq (⟨"LicenceRulesModel", "isLifted", "(II)Z"⟩, 35) := ⟨⟨by decide +kernel, by decide +kernel⟩, List.mem_of_getElem? (i := 467) (by decide +kernel), List.mem_of_getElem? (i := 659) (by decide +kernel), List.mem_of_getElem? (i := 660) (by decide +kernel)⟩
theorem lw_p29 : lw_okq (⟨"LicenceRulesModel", "bestDuties", "(II)I"⟩, 35) := ⟨⟨by decide +kernel, by decide +kernel⟩, List.mem_of_getElem? (i := 467) (by decide +kernel), List.mem_of_getElem? (i := 670) (by decide +kernel), List.mem_of_getElem? (i := 671) (by decide +kernel)⟩
theorem lw_p30 : lw_okq (⟨"LicenceRulesModel", "come", "(III)V"⟩, 35) := ⟨⟨by decide +kernel, by decide +kernel⟩, List.mem_of_getElem? (i := 467) (by decide +kernel), List.mem_of_getElem? (i := 692) (by decide +kernel), List.mem_of_getElem? (i := 693) (by decide +kernel)⟩
theorem lw_p31 : lw_okq (⟨"LicenceRulesModel", "scoreOf", "(JI)I"⟩, 35) := ⟨⟨by decide +kernel, by decide +kernel⟩, List.mem_of_getElem? (i := 467) (by decide +kernel), List.mem_of_getElem? (i := 712) (by decide +kernel), List.mem_of_getElem? (i := 713) (by decide +kernel)⟩
def lw_privs_2 : List (MethodName × Nat) := [(⟨"LicenceRules$Review", "judgeOne", "(ILLicenceRules$Pack;LLicenceRules$Rules;I)V"⟩, 6), (⟨"LicenceRules$Review", "isFirstOfItsPack", "(I)Z"⟩, 6), (⟨"LicenceRulesModel", "isLicence", "(I)Z"⟩, 35), (⟨"LicenceRulesModel", "read", "()I"⟩, 35), (⟨"LicenceRulesModel", "operand", "()Z"⟩, 35), (⟨"LicenceRulesModel", "next", "()I"⟩, 35), (⟨"LicenceRulesModel", "pairOf", "(I)I"⟩, 35), (⟨"LicenceRulesModel", "workOff", "(Z)V"⟩, 35), (⟨"LicenceRulesModel", "join", "(I)V"⟩, 35), (⟨"LicenceRulesModel", "isPack", "(I)Z"⟩, 35), (⟨"LicenceRulesModel", "bestOf", "(II)I"⟩, 35), (⟨"LicenceRulesModel", "dutiesOf", "(III)I"⟩, 35), (⟨"LicenceRulesModel", "isLifted", "(II)Z"⟩, 35), (⟨"LicenceRulesModel", "bestDuties", "(II)I"⟩, 35), (⟨"LicenceRulesModel", "come", "(III)V"⟩, 35), (⟨"LicenceRulesModel", "scoreOf", "(JI)I"⟩, 35)]
theorem lw_r2 : ∀ q ∈ lw_privs_2, lw_okq q := List.forall_mem_cons.mpr ⟨lw_p16, List.forall_mem_cons.mpr ⟨lw_p17, List.forall_mem_cons.mpr ⟨lw_p18, List.forall_mem_cons.mpr ⟨lw_p19, List.forall_mem_cons.mpr ⟨lw_p20, List.forall_mem_cons.mpr ⟨lw_p21, List.forall_mem_cons.mpr ⟨lw_p22, List.forall_mem_cons.mpr ⟨lw_p23, List.forall_mem_cons.mpr ⟨lw_p24, List.forall_mem_cons.mpr ⟨lw_p25, List.forall_mem_cons.mpr ⟨lw_p26, List.forall_mem_cons.mpr ⟨lw_p27, List.forall_mem_cons.mpr ⟨lw_p28, List.forall_mem_cons.mpr ⟨lw_p29, List.forall_mem_cons.mpr ⟨lw_p30, List.forall_mem_cons.mpr ⟨lw_p31, fun _ h => absurd h List.not_mem_nil⟩⟩⟩⟩⟩⟩⟩⟩⟩⟩⟩⟩⟩⟩⟩⟩
def lw_privs : List (MethodName × Nat) := lw_privs_1 ++ (lw_privs_2)
def lw_tbl : List Cond := k2_sels lw_privs ++ tables_1
theorem lw_privs_ok : ∀ q ∈ lw_privs, lw_okq q := by
  show ∀ q ∈ lw_privs_1 ++ (lw_privs_2), lw_okq q
  exact List.forall_mem_append.mpr ⟨lw_r1, lw_r2⟩
def RC_fo : String := "LicenceRules$Form"
def FT_fo : u_T := fun k => match k with
  | 0 => ("LicenceRules$Form", "room", "I", true)
  | 1 => ("LicenceRules$Form", "bits", "[J", true)
  | _ => ("LicenceRules$Form", "count", "I", false)
def ft_fo : Nat → FieldType := fun k => match k with
  | 0 => .int
  | 1 => .array .long
  | _ => .int
def RC_pk : String := "LicenceRules$Pack"
def FT_pk : u_T := fun k => match k with
  | 0 => ("LicenceRules$Pack", "form", "LLicenceRules$Form;", true)
  | 1 => ("LicenceRules$Pack", "usedPacks", "[I", true)
  | 2 => ("LicenceRules$Pack", "usedWays", "[I", true)
  | 3 => ("LicenceRules$Pack", "useCount", "I", false)
  | _ => ("LicenceRules$Pack", "grantEnd", "I", false)
def ft_pk : Nat → FieldType := fun k => match k with
  | 0 => .object "LicenceRules$Form"
  | 1 => .array .int
  | 2 => .array .int
  | 3 => .int
  | _ => .int
def RC_rd : String := "LicenceRules$Reader"
def FT_rd : u_T := fun k => match k with
  | 0 => ("LicenceRules$Reader", "text", "[C", true)
  | 1 => ("LicenceRules$Reader", "eithers", "[LLicenceRules$Form;", true)
  | 2 => ("LicenceRules$Reader", "alsos", "[LLicenceRules$Form;", true)
  | 3 => ("LicenceRules$Reader", "atom", "LLicenceRules$Form;", true)
  | 4 => ("LicenceRules$Reader", "work", "LLicenceRules$Form;", true)
  | 5 => ("LicenceRules$Reader", "length", "I", false)
  | 6 => ("LicenceRules$Reader", "open", "I", false)
  | 7 => ("LicenceRules$Reader", "state", "I", false)
  | 8 => ("LicenceRules$Reader", "named", "I", false)
  | _ => ("LicenceRules$Reader", "tooMany", "Z", false)
def ft_rd : Nat → FieldType := fun k => match k with
  | 0 => .array .char
  | 1 => .array (.object "LicenceRules$Form")
  | 2 => .array (.object "LicenceRules$Form")
  | 3 => .object "LicenceRules$Form"
  | 4 => .object "LicenceRules$Form"
  | 5 => .int
  | 6 => .int
  | 7 => .int
  | 8 => .int
  | _ => .boolean
def RC_rv : String := "LicenceRules$Review"
def FT_rv : u_T := fun k => match k with
  | 0 => ("LicenceRules$Review", "numbers", "[I", true)
  | 1 => ("LicenceRules$Review", "ways", "[I", true)
  | 2 => ("LicenceRules$Review", "kinds", "[I", true)
  | 3 => ("LicenceRules$Review", "dutySets", "[I", true)
  | 4 => ("LicenceRules$Review", "origins", "[I", true)
  | _ => ("LicenceRules$Review", "count", "I", false)
def ft_rv : Nat → FieldType := fun k => match k with
  | 0 => .array .int
  | 1 => .array .int
  | 2 => .array .int
  | 3 => .array .int
  | 4 => .array .int
  | _ => .int
def RC_ru : String := "LicenceRules$Rules"
def FT_ru : u_T := fun k => match k with
  | 0 => ("LicenceRules$Rules", "wordSets", "[J", true)
  | 1 => ("LicenceRules$Rules", "terms", "[I", true)
  | 2 => ("LicenceRules$Rules", "lifted", "[I", true)
  | _ => ("LicenceRules$Rules", "count", "I", false)
def ft_ru : Nat → FieldType := fun k => match k with
  | 0 => .array .long
  | 1 => .array .int
  | 2 => .array .int
  | _ => .int
def RC_lr : String := "LicenceRules"
def FT_lr : u_T := fun k => match k with
  | 0 => ("LicenceRules", "rules", "LLicenceRules$Rules;", true)
  | 1 => ("LicenceRules", "reader", "LLicenceRules$Reader;", true)
  | 2 => ("LicenceRules", "packs", "[LLicenceRules$Pack;", true)
  | 3 => ("LicenceRules", "latest", "LLicenceRules$Review;", true)
  | 4 => ("LicenceRules", "packCount", "I", false)
  | _ => ("LicenceRules", "clock", "I", false)
def ft_lr : Nat → FieldType := fun k => match k with
  | 0 => .object "LicenceRules$Rules"
  | 1 => .object "LicenceRules$Reader"
  | 2 => .array (.object "LicenceRules$Pack")
  | 3 => .object "LicenceRules$Review"
  | 4 => .int
  | _ => .int
def RC_mo : String := "LicenceRulesModel"
def FT_mo : u_T := fun k => match k with
  | 0 => ("LicenceRulesModel", "code", "I", false)
  | 1 => ("LicenceRulesModel", "clock", "I", false)
  | 2 => ("LicenceRulesModel", "licences", "I", false)
  | 3 => ("LicenceRulesModel", "packs", "I", false)
  | 4 => ("LicenceRulesModel", "words", "[J", true)
  | 5 => ("LicenceRulesModel", "kind", "[I", true)
  | 6 => ("LicenceRulesModel", "duty", "[I", true)
  | 7 => ("LicenceRulesModel", "lift", "[Z", true)
  | 8 => ("LicenceRulesModel", "text", "[I", true)
  | 9 => ("LicenceRulesModel", "size", "I", false)
  | 10 => ("LicenceRulesModel", "pairMany", "[I", true)
  | 11 => ("LicenceRulesModel", "pairCode", "[I", true)
  | 12 => ("LicenceRulesModel", "choiceMany", "[I", true)
  | 13 => ("LicenceRulesModel", "choice", "[I", true)
  | 14 => ("LicenceRulesModel", "useMany", "[I", true)
  | 15 => ("LicenceRulesModel", "useOf", "[I", true)
  | 16 => ("LicenceRulesModel", "useWay", "[I", true)
  | 17 => ("LicenceRulesModel", "end", "[I", true)
  | 18 => ("LicenceRulesModel", "codes", "[I", true)
  | 19 => ("LicenceRulesModel", "rows", "[I", true)
  | 20 => ("LicenceRulesModel", "rowMany", "[I", true)
  | 21 => ("LicenceRulesModel", "work", "[I", true)
  | 22 => ("LicenceRulesModel", "sign", "[I", true)
  | 23 => ("LicenceRulesModel", "codeMany", "I", false)
  | 24 => ("LicenceRulesModel", "rowsMany", "I", false)
  | 25 => ("LicenceRulesModel", "signs", "I", false)
  | 26 => ("LicenceRulesModel", "open", "I", false)
  | 27 => ("LicenceRulesModel", "isMuch", "Z", false)
  | 28 => ("LicenceRulesModel", "entries", "I", false)
  | 29 => ("LicenceRulesModel", "entryPack", "[I", true)
  | 30 => ("LicenceRulesModel", "entryWay", "[I", true)
  | 31 => ("LicenceRulesModel", "entryKind", "[I", true)
  | 32 => ("LicenceRulesModel", "entryDuty", "[I", true)
  | 33 => ("LicenceRulesModel", "entryBy", "[I", true)
  | _ => ("LicenceRulesModel", "at", "I", false)
def ft_mo : Nat → FieldType := fun k => match k with
  | 0 => .int
  | 1 => .int
  | 2 => .int
  | 3 => .int
  | 4 => .array .long
  | 5 => .array .int
  | 6 => .array .int
  | 7 => .array .boolean
  | 8 => .array .int
  | 9 => .int
  | 10 => .array .int
  | 11 => .array .int
  | 12 => .array .int
  | 13 => .array .int
  | 14 => .array .int
  | 15 => .array .int
  | 16 => .array .int
  | 17 => .array .int
  | 18 => .array .int
  | 19 => .array .int
  | 20 => .array .int
  | 21 => .array .int
  | 22 => .array .int
  | 23 => .int
  | 24 => .int
  | 25 => .int
  | 26 => .int
  | 27 => .boolean
  | 28 => .int
  | 29 => .array .int
  | 30 => .array .int
  | 31 => .array .int
  | 32 => .array .int
  | 33 => .array .int
  | _ => .int
abbrev ev_CL : List vw_C := [(RC_fo, FT_fo, 3), (RC_pk, FT_pk, 5), (RC_rd, FT_rd, 10), (RC_rv, FT_rv, 6), (RC_ru, FT_ru, 4), (RC_lr, FT_lr, 6), (RC_mo, FT_mo, 35)]
abbrev ev_TY (g : Nat → ClassId) : List (ClassId × FieldType) := [(g 0, .int), (g 1, .long), (g 2, .char), (g 3, .boolean), (g 4, .object "LicenceRules$Form"), (g 5, .object "LicenceRules$Pack")]
def ev_AO : List String := ["LicenceRules$Form", "LicenceRules$Pack"]
abbrev ev_X : Type := Option (Nat × Nat × (Nat → Int32))
/-- a method: its name, its bytes, how many locals, what it returns, the script that it may read -/
abbrev ev_M : Type := MethodName × ByteArray × Nat × Option FieldType × ev_X
def M_fo_init : ev_M := (⟨"LicenceRules$Form", "<init>", "(I)V"⟩, prog_2_method_1_code, 2, none, none)
def M_fo_size : ev_M := (⟨"LicenceRules$Form", "size", "()I"⟩, prog_2_method_2_code, 1, (some .int), none)
def M_fo_clear : ev_M := (⟨"LicenceRules$Form", "clear", "()V"⟩, prog_2_method_3_code, 1, none, none)
def M_fo_setOnly : ev_M := (⟨"LicenceRules$Form", "setOnly", "(I)V"⟩, prog_2_method_4_code, 3, none, none)
def M_fo_copyFrom : ev_M := (⟨"LicenceRules$Form", "copyFrom", "(LLicenceRules$Form;)V"⟩, prog_2_method_5_code, 2, none, none)
def M_fo_holds : ev_M := (⟨"LicenceRules$Form", "holds", "(II)Z"⟩, prog_2_method_6_code, 3, (some .boolean), none)
def M_fo_pairCount : ev_M := (⟨"LicenceRules$Form", "pairCount", "(I)I"⟩, prog_2_method_7_code, 4, (some .int), none)
def M_fo_codeAt : ev_M := (⟨"LicenceRules$Form", "codeAt", "(II)I"⟩, prog_2_method_8_code, 5, (some .int), none)
def M_fo_addJoined : ev_M := (⟨"LicenceRules$Form", "addJoined", "(LLicenceRules$Form;ILLicenceRules$Form;I)V"⟩, prog_2_method_9_code, 11, none, none)
def M_fo_hasOneWithin : ev_M := (⟨"LicenceRules$Form", "hasOneWithin", "(JJJ)Z"⟩, prog_2_method_10_code, 8, (some .boolean), none)
def M_fo_dropThoseWith : ev_M := (⟨"LicenceRules$Form", "dropThoseWith", "(JJJ)V"⟩, prog_2_method_11_code, 11, none, none)
def M_pk_init : ev_M := (⟨"LicenceRules$Pack", "<init>", "()V"⟩, prog_3_method_1_code, 1, none, none)
def M_pk_addUse : ev_M := (⟨"LicenceRules$Pack", "addUse", "(II)Z"⟩, prog_3_method_2_code, 4, (some .boolean), none)
def M_rd_init : ev_M := (⟨"LicenceRules$Reader", "<init>", "()V"⟩, prog_4_method_1_code, 2, none, none)
def M_rd_append : ev_M := (⟨"LicenceRules$Reader", "append", "(C)Z"⟩, prog_4_method_2_code, 2, (some .boolean), none)
def M_rd_empty : ev_M := (⟨"LicenceRules$Reader", "empty", "()V"⟩, prog_4_method_3_code, 1, none, none)
def M_rd_hasTooMany : ev_M := (⟨"LicenceRules$Reader", "hasTooMany", "()Z"⟩, prog_4_method_4_code, 1, (some .boolean), none)
def M_rd_result : ev_M := (⟨"LicenceRules$Reader", "result", "()LLicenceRules$Form;"⟩, prog_4_method_5_code, 1, (some (.object "LicenceRules$Form")), none)
def M_rd_read : ev_M := (⟨"LicenceRules$Reader", "read", "(I)I"⟩, prog_4_method_6_code, 3, (some .int), none)
def M_rd_takes : ev_M := (⟨"LicenceRules$Reader", "takes", "(CI)Z"⟩, prog_4_method_7_code, 3, (some .boolean), none)
def M_rd_opens : ev_M := (⟨"LicenceRules$Reader", "opens", "()Z"⟩, prog_4_method_8_code, 1, (some .boolean), none)
def M_rd_takesName : ev_M := (⟨"LicenceRules$Reader", "takesName", "(CI)Z"⟩, prog_4_method_9_code, 3, (some .boolean), none)
def M_rd_takesDigit : ev_M := (⟨"LicenceRules$Reader", "takesDigit", "(C)Z"⟩, prog_4_method_10_code, 2, (some .boolean), none)
def M_rd_closes : ev_M := (⟨"LicenceRules$Reader", "closes", "()Z"⟩, prog_4_method_11_code, 1, (some .boolean), none)
def M_rd_takesSign : ev_M := (⟨"LicenceRules$Reader", "takesSign", "(C)Z"⟩, prog_4_method_12_code, 2, (some .boolean), none)
def M_rd_startLevel : ev_M := (⟨"LicenceRules$Reader", "startLevel", "()V"⟩, prog_4_method_13_code, 1, none, none)
def M_rd_endName : ev_M := (⟨"LicenceRules$Reader", "endName", "()V"⟩, prog_4_method_14_code, 1, none, none)
def M_rd_endAtom : ev_M := (⟨"LicenceRules$Reader", "endAtom", "(LLicenceRules$Form;)V"⟩, prog_4_method_15_code, 5, none, none)
def M_rd_endAlso : ev_M := (⟨"LicenceRules$Reader", "endAlso", "()V"⟩, prog_4_method_16_code, 4, none, none)
def M_rd_keepWork : ev_M := (⟨"LicenceRules$Reader", "keepWork", "(LLicenceRules$Form;)V"⟩, prog_4_method_17_code, 2, none, none)
def M_rv_init : ev_M := (⟨"LicenceRules$Review", "<init>", "()V"⟩, prog_5_method_1_code, 1, none, none)
def M_rv_walk : ev_M := (⟨"LicenceRules$Review", "walk", "([LLicenceRules$Pack;II)V"⟩, prog_5_method_2_code, 7, none, none)
def M_rv_addOnce : ev_M := (⟨"LicenceRules$Review", "addOnce", "(III)V"⟩, prog_5_method_3_code, 5, none, none)
def M_rv_judge : ev_M := (⟨"LicenceRules$Review", "judge", "([LLicenceRules$Pack;LLicenceRules$Rules;I)I"⟩, prog_5_method_4_code, 7, (some .int), none)
def M_rv_judgeOne : ev_M := (⟨"LicenceRules$Review", "judgeOne", "(ILLicenceRules$Pack;LLicenceRules$Rules;I)V"⟩, prog_5_method_5_code, 6, none, none)
def M_rv_tell : ev_M := (⟨"LicenceRules$Review", "tell", "(II)I"⟩, prog_5_method_6_code, 3, (some .int), none)
def M_rv_joinedDuties : ev_M := (⟨"LicenceRules$Review", "joinedDuties", "()I"⟩, prog_5_method_7_code, 3, (some .int), none)
def M_rv_distinctPack : ev_M := (⟨"LicenceRules$Review", "distinctPack", "(I)I"⟩, prog_5_method_8_code, 4, (some .int), none)
def M_rv_isFirstOfItsPack : ev_M := (⟨"LicenceRules$Review", "isFirstOfItsPack", "(I)Z"⟩, prog_5_method_9_code, 3, (some .boolean), none)
def M_ru_init : ev_M := (⟨"LicenceRules$Rules", "<init>", "()V"⟩, prog_6_method_1_code, 1, none, none)
def M_ru_licenceCount : ev_M := (⟨"LicenceRules$Rules", "licenceCount", "()I"⟩, prog_6_method_2_code, 1, (some .int), none)
def M_ru_addLicence : ev_M := (⟨"LicenceRules$Rules", "addLicence", "(J)I"⟩, prog_6_method_3_code, 3, (some .int), none)
def M_ru_hasLicence : ev_M := (⟨"LicenceRules$Rules", "hasLicence", "(I)Z"⟩, prog_6_method_4_code, 2, (some .boolean), none)
def M_ru_setTerms : ev_M := (⟨"LicenceRules$Rules", "setTerms", "(III)V"⟩, prog_6_method_5_code, 4, none, none)
def M_ru_setLifted : ev_M := (⟨"LicenceRules$Rules", "setLifted", "(IIZ)V"⟩, prog_6_method_6_code, 5, none, none)
def M_ru_termsOfCode : ev_M := (⟨"LicenceRules$Rules", "termsOfCode", "(II)I"⟩, prog_6_method_7_code, 4, (some .int), none)
def M_ru_termsOf : ev_M := (⟨"LicenceRules$Rules", "termsOf", "(LLicenceRules$Form;II)I"⟩, prog_6_method_8_code, 6, (some .int), none)
def M_ru_bestOf : ev_M := (⟨"LicenceRules$Rules", "bestOf", "(LLicenceRules$Form;I)I"⟩, prog_6_method_9_code, 8, (some .int), none)
def M_ru_scoreOf : ev_M := (⟨"LicenceRules$Rules", "scoreOf", "(JI)I"⟩, prog_6_method_10_code, 5, (some .int), none)
def M_lr_init : ev_M := (⟨"LicenceRules", "<init>", "()V"⟩, prog_1_method_1_code, 1, none, none)
def M_lr_licence : ev_M := (⟨"LicenceRules", "licence", "(J)I"⟩, prog_1_method_2_code, 3, (some .int), none)
def M_lr_rule : ev_M := (⟨"LicenceRules", "rule", "(IIII)Z"⟩, prog_1_method_3_code, 6, (some .boolean), none)
def M_lr_lifts : ev_M := (⟨"LicenceRules", "lifts", "(IIZ)Z"⟩, prog_1_method_4_code, 4, (some .boolean), none)
def M_lr_type : ev_M := (⟨"LicenceRules", "type", "(C)Z"⟩, prog_1_method_5_code, 2, (some .boolean), none)
def M_lr_pack : ev_M := (⟨"LicenceRules", "pack", "()I"⟩, prog_1_method_6_code, 1, (some .int), none)
def M_lr_express : ev_M := (⟨"LicenceRules", "express", "(I)I"⟩, prog_1_method_7_code, 4, (some .int), none)
def M_lr_choices : ev_M := (⟨"LicenceRules", "choices", "(I)I"⟩, prog_1_method_8_code, 3, (some .int), none)
def M_lr_pair : ev_M := (⟨"LicenceRules", "pair", "(III)I"⟩, prog_1_method_9_code, 5, (some .int), none)
def M_lr_best : ev_M := (⟨"LicenceRules", "best", "(II)I"⟩, prog_1_method_10_code, 4, (some .int), none)
def M_lr_duties : ev_M := (⟨"LicenceRules", "duties", "(II)I"⟩, prog_1_method_11_code, 5, (some .int), none)
def M_lr_uses : ev_M := (⟨"LicenceRules", "uses", "(III)Z"⟩, prog_1_method_12_code, 5, (some .boolean), none)
def M_lr_grant : ev_M := (⟨"LicenceRules", "grant", "(II)Z"⟩, prog_1_method_13_code, 4, (some .boolean), none)
def M_lr_tick : ev_M := (⟨"LicenceRules", "tick", "(I)I"⟩, prog_1_method_14_code, 2, (some .int), none)
def M_lr_review : ev_M := (⟨"LicenceRules", "review", "(II)I"⟩, prog_1_method_15_code, 3, (some .int), none)
def M_lr_entry : ev_M := (⟨"LicenceRules", "entry", "(II)I"⟩, prog_1_method_16_code, 3, (some .int), none)
def M_lr_all : ev_M := (⟨"LicenceRules", "all", "()I"⟩, prog_1_method_17_code, 1, (some .int), none)
def M_lr_material : ev_M := (⟨"LicenceRules", "material", "(I)I"⟩, prog_1_method_18_code, 2, (some .int), none)
def M_lr_found : ev_M := (⟨"LicenceRules", "found", "(JI)I"⟩, prog_1_method_19_code, 9, (some .int), none)
def M_lr_score : ev_M := (⟨"LicenceRules", "score", "(JI)I"⟩, prog_1_method_20_code, 4, (some .int), none)
def M_lr_isWay : ev_M := (⟨"LicenceRules", "isWay", "(I)Z"⟩, prog_1_method_21_code, 1, (some .boolean), none)
def M_lr_packAt : ev_M := (⟨"LicenceRules", "packAt", "(I)LLicenceRules$Pack;"⟩, prog_1_method_22_code, 2, (some (.object "LicenceRules$Pack")), none)
def M_mo_init : ev_M := (⟨"LicenceRulesModel", "<init>", "()V"⟩, prog_8_method_1_code, 2, none, none)
def M_mo_isLicence : ev_M := (⟨"LicenceRulesModel", "isLicence", "(I)Z"⟩, prog_8_method_3_code, 2, (some .boolean), none)
def M_mo_isPack : ev_M := (⟨"LicenceRulesModel", "isPack", "(I)Z"⟩, prog_8_method_4_code, 2, (some .boolean), none)
def M_mo_isWay : ev_M := (⟨"LicenceRulesModel", "isWay", "(I)Z"⟩, prog_8_method_5_code, 1, (some .boolean), none)
def M_mo_licence : ev_M := (⟨"LicenceRulesModel", "licence", "(J)I"⟩, prog_8_method_6_code, 3, (some .int), none)
def M_mo_rule : ev_M := (⟨"LicenceRulesModel", "rule", "(IIII)Z"⟩, prog_8_method_7_code, 5, (some .boolean), none)
def M_mo_lifts : ev_M := (⟨"LicenceRulesModel", "lifts", "(IIZ)Z"⟩, prog_8_method_8_code, 4, (some .boolean), none)
def M_mo_type : ev_M := (⟨"LicenceRulesModel", "type", "(C)Z"⟩, prog_8_method_9_code, 2, (some .boolean), none)
def M_mo_pack : ev_M := (⟨"LicenceRulesModel", "pack", "()I"⟩, prog_8_method_10_code, 1, (some .int), none)
def M_mo_pairOf : ev_M := (⟨"LicenceRulesModel", "pairOf", "(I)I"⟩, prog_8_method_11_code, 3, (some .int), none)
def M_mo_join : ev_M := (⟨"LicenceRulesModel", "join", "(I)V"⟩, prog_8_method_12_code, 8, none, none)
def M_mo_workOff : ev_M := (⟨"LicenceRulesModel", "workOff", "(Z)V"⟩, prog_8_method_13_code, 2, none, none)
def M_mo_next : ev_M := (⟨"LicenceRulesModel", "next", "()I"⟩, prog_8_method_14_code, 1, (some .int), none)
def M_mo_operand : ev_M := (⟨"LicenceRulesModel", "operand", "()Z"⟩, prog_8_method_15_code, 4, (some .boolean), none)
def M_mo_read : ev_M := (⟨"LicenceRulesModel", "read", "()I"⟩, prog_8_method_16_code, 2, (some .int), none)
def M_mo_express : ev_M := (⟨"LicenceRulesModel", "express", "(I)I"⟩, prog_8_method_17_code, 4, (some .int), none)
def M_mo_choices : ev_M := (⟨"LicenceRulesModel", "choices", "(I)I"⟩, prog_8_method_18_code, 2, (some .int), none)
def M_mo_count : ev_M := (⟨"LicenceRulesModel", "count", "(I)I"⟩, prog_8_method_19_code, 3, (some .int), none)
def M_mo_pair : ev_M := (⟨"LicenceRulesModel", "pair", "(III)I"⟩, prog_8_method_20_code, 8, (some .int), none)
def M_mo_isLifted : ev_M := (⟨"LicenceRulesModel", "isLifted", "(II)Z"⟩, prog_8_method_21_code, 3, (some .boolean), none)
def M_mo_dutiesOf : ev_M := (⟨"LicenceRulesModel", "dutiesOf", "(III)I"⟩, prog_8_method_22_code, 7, (some .int), none)
def M_mo_bestOf : ev_M := (⟨"LicenceRulesModel", "bestOf", "(II)I"⟩, prog_8_method_23_code, 8, (some .int), none)
def M_mo_best : ev_M := (⟨"LicenceRulesModel", "best", "(II)I"⟩, prog_8_method_24_code, 3, (some .int), none)
def M_mo_bestDuties : ev_M := (⟨"LicenceRulesModel", "bestDuties", "(II)I"⟩, prog_8_method_25_code, 3, (some .int), none)
def M_mo_duties : ev_M := (⟨"LicenceRulesModel", "duties", "(II)I"⟩, prog_8_method_26_code, 3, (some .int), none)
def M_mo_uses : ev_M := (⟨"LicenceRulesModel", "uses", "(III)Z"⟩, prog_8_method_27_code, 5, (some .boolean), none)
def M_mo_grant : ev_M := (⟨"LicenceRulesModel", "grant", "(II)Z"⟩, prog_8_method_28_code, 3, (some .boolean), none)
def M_mo_tick : ev_M := (⟨"LicenceRulesModel", "tick", "(I)I"⟩, prog_8_method_29_code, 2, (some .int), none)
def M_mo_come : ev_M := (⟨"LicenceRulesModel", "come", "(III)V"⟩, prog_8_method_30_code, 5, none, none)
def M_mo_review : ev_M := (⟨"LicenceRulesModel", "review", "(II)I"⟩, prog_8_method_31_code, 7, (some .int), none)
def M_mo_entry : ev_M := (⟨"LicenceRulesModel", "entry", "(II)I"⟩, prog_8_method_32_code, 3, (some .int), none)
def M_mo_all : ev_M := (⟨"LicenceRulesModel", "all", "()I"⟩, prog_8_method_33_code, 3, (some .int), none)
def M_mo_material : ev_M := (⟨"LicenceRulesModel", "material", "(I)I"⟩, prog_8_method_34_code, 6, (some .int), none)
def M_mo_scoreOf : ev_M := (⟨"LicenceRulesModel", "scoreOf", "(JI)I"⟩, prog_8_method_35_code, 7, (some .int), none)
def M_mo_score : ev_M := (⟨"LicenceRulesModel", "score", "(JI)I"⟩, prog_8_method_36_code, 4, (some .int), none)
def M_mo_found : ev_M := (⟨"LicenceRulesModel", "found", "(JI)I"⟩, prog_8_method_37_code, 7, (some .int), none)
def M_jin_bitCount : ev_M := (⟨"java/lang/Integer", "bitCount", "(I)I"⟩, prog_9_method_49_code, 1, (some .int), none)
def M_jlo_bitCount : ev_M := (⟨"java/lang/Long", "bitCount", "(J)I"⟩, prog_10_method_50_code, 2, (some .int), none)
def M_jma_max : ev_M := (⟨"java/lang/Math", "max", "(II)I"⟩, prog_11_method_65_code, 2, (some .int), none)
def M_jma_min : ev_M := (⟨"java/lang/Math", "min", "(II)I"⟩, prog_11_method_69_code, 2, (some .int), none)
def M_law (X : ev_X) : ev_M := (x, code, maxLocals, ret, X)
