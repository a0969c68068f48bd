/-- a private method of a class that the tables say can be made, by its rows of tables_1 -/
def lw_okq (q : MethodName × Nat) : Prop := (q.1.cls ≠ "java/lang/invoke/MethodHandle" ∧ q.1.cls ≠ "java/lang/invoke/VarHandle") ∧ Cond.instantiable q.1.cls q.2 ∈ tables_1 ∧ Cond.privateMethod q.1 ∈ tables_1 ∧ Cond.instanceMethod q.1 ∈ tables_1
theorem lw_p0 : lw_okq (⟨"LiftEnvy", "found", "(I)I"⟩, 12) := ⟨⟨by decide +kernel, by decide +kernel⟩, List.mem_of_getElem? (i := 18) (by decide +kernel), List.mem_of_getElem? (i := 259) (by decide +kernel), List.mem_of_getElem? (i := 260) (by decide +kernel)⟩
theorem lw_p1 : lw_okq (⟨"LiftEnvy", "unhindered", "(I)I"⟩, 12) := ⟨⟨by decide +kernel, by decide +kernel⟩, List.mem_of_getElem? (i := 18) (by decide +kernel), List.mem_of_getElem? (i := 268) (by decide +kernel), List.mem_of_getElem? (i := 269) (by decide +kernel)⟩
theorem lw_p2 : lw_okq (⟨"LiftEnvy$Tape", "tellsLaw", "(LLiftEnvy$House;)Z"⟩, 5) := ⟨⟨by decide +kernel, by decide +kernel⟩, List.mem_of_getElem? (i := 28) (by decide +kernel), List.mem_of_getElem? (i := 312) (by decide +kernel), List.mem_of_getElem? (i := 313) (by decide +kernel)⟩
theorem lw_p3 : lw_okq (⟨"LiftEnvy$Tape", "takesSign", "(C)Z"⟩, 5) := ⟨⟨by decide +kernel, by decide +kernel⟩, List.mem_of_getElem? (i := 28) (by decide +kernel), List.mem_of_getElem? (i := 316) (by decide +kernel), List.mem_of_getElem? (i := 317) (by decide +kernel)⟩
theorem lw_p4 : lw_okq (⟨"LiftEnvy$Tape", "refuses", "(I)Z"⟩, 5) := ⟨⟨by decide +kernel, by decide +kernel⟩, List.mem_of_getElem? (i := 28) (by decide +kernel), List.mem_of_getElem? (i := 320) (by decide +kernel), List.mem_of_getElem? (i := 321) (by decide +kernel)⟩
theorem lw_p5 : lw_okq (⟨"LiftEnvy$Tape", "takesNumber", "(II)Z"⟩, 5) := ⟨⟨by decide +kernel, by decide +kernel⟩, List.mem_of_getElem? (i := 28) (by decide +kernel), List.mem_of_getElem? (i := 324) (by decide +kernel), List.mem_of_getElem? (i := 325) (by decide +kernel)⟩
theorem lw_p6 : lw_okq (⟨"LiftEnvy$Tape", "tellsPerson", "(LLiftEnvy$House;I)Z"⟩, 5) := ⟨⟨by decide +kernel, by decide +kernel⟩, List.mem_of_getElem? (i := 28) (by decide +kernel), List.mem_of_getElem? (i := 335) (by decide +kernel), List.mem_of_getElem? (i := 336) (by decide +kernel)⟩
theorem lw_p7 : lw_okq (⟨"LiftEnvy$Tape", "sort", "()I"⟩, 5) := ⟨⟨by decide +kernel, by decide +kernel⟩, List.mem_of_getElem? (i := 28) (by decide +kernel), List.mem_of_getElem? (i := 339) (by decide +kernel), List.mem_of_getElem? (i := 340) (by decide +kernel)⟩
theorem lw_p8 : lw_okq (⟨"LiftEnvy$House", "carry", "()V"⟩, 12) := ⟨⟨by decide +kernel, by decide +kernel⟩, List.mem_of_getElem? (i := 55) (by decide +kernel), List.mem_of_getElem? (i := 374) (by decide +kernel), List.mem_of_getElem? (i := 375) (by decide +kernel)⟩
theorem lw_p9 : lw_okq (⟨"LiftEnvy", "isPerson", "(I)Z"⟩, 12) := ⟨⟨by decide +kernel, by decide +kernel⟩, List.mem_of_getElem? (i := 18) (by decide +kernel), List.mem_of_getElem? (i := 401) (by decide +kernel), List.mem_of_getElem? (i := 402) (by decide +kernel)⟩
theorem lw_p10 : lw_okq (⟨"LiftEnvy$House", "rests", "()Z"⟩, 12) := ⟨⟨by decide +kernel, by decide +kernel⟩, List.mem_of_getElem? (i := 55) (by decide +kernel), List.mem_of_getElem? (i := 449) (by decide +kernel), List.mem_of_getElem? (i := 450) (by decide +kernel)⟩
theorem lw_p11 : lw_okq (⟨"LiftEnvy", "worth", "(I)I"⟩, 12) := ⟨⟨by decide +kernel, by decide +kernel⟩, List.mem_of_getElem? (i := 18) (by decide +kernel), List.mem_of_getElem? (i := 478) (by decide +kernel), List.mem_of_getElem? (i := 479) (by decide +kernel)⟩
theorem lw_p12 : lw_okq (⟨"LiftEnvy", "fitting", "(IILLiftEnvy$Row;II)I"⟩, 12) := ⟨⟨by decide +kernel, by decide +kernel⟩, List.mem_of_getElem? (i := 18) (by decide +kernel), List.mem_of_getElem? (i := 501) (by decide +kernel), List.mem_of_getElem? (i := 502) (by decide +kernel)⟩
theorem lw_p13 : lw_okq (⟨"LiftEnvy", "isBroughtHiding", "(III)Z"⟩, 12) := ⟨⟨by decide +kernel, by decide +kernel⟩, List.mem_of_getElem? (i := 18) (by decide +kernel), List.mem_of_getElem? (i := 524) (by decide +kernel), List.mem_of_getElem? (i := 525) (by decide +kernel)⟩
theorem lw_p14 : lw_okq (⟨"LiftEnvy", "kindOf", "(I)LLiftEnvy$Person;"⟩, 12) := ⟨⟨by decide +kernel, by decide +kernel⟩, List.mem_of_getElem? (i := 18) (by decide +kernel), List.mem_of_getElem? (i := 562) (by decide +kernel), List.mem_of_getElem? (i := 563) (by decide +kernel)⟩
theorem lw_p15 : lw_okq (⟨"LiftEnvy", "rowsThere", "()I"⟩, 12) := ⟨⟨by decide +kernel, by decide +kernel⟩, List.mem_of_getElem? (i := 18) (by decide +kernel), List.mem_of_getElem? (i := 633) (by decide +kernel), List.mem_of_getElem? (i := 634) (by decide +kernel)⟩
def lw_privs_1 : List (MethodName × Nat) := [(⟨"LiftEnvy", "found", "(I)I"⟩, 12), (⟨"LiftEnvy", "unhindered", "(I)I"⟩, 12), (⟨"LiftEnvy$Tape", "tellsLaw", "(LLiftEnvy$House;)Z"⟩, 5), (⟨"LiftEnvy$Tape", "takesSign", "(C)Z"⟩, 5), (⟨"LiftEnvy$Tape", "refuses", "(I)Z"⟩, 5), (⟨"LiftEnvy$Tape", "takesNumber", "(II)Z"⟩, 5), (⟨"LiftEnvy$Tape", "tellsPerson", "(LLiftEnvy$House;I)Z"⟩, 5), (⟨"LiftEnvy$Tape", "sort", "()I"⟩, 5), (⟨"LiftEnvy$House", "carry", "()V"⟩, 12), (⟨"LiftEnvy", "isPerson", "(I)Z"⟩, 12), (⟨"LiftEnvy$House", "rests", "()Z"⟩, 12), (⟨"LiftEnvy", "worth", "(I)I"⟩, 12), (⟨"LiftEnvy", "fitting", "(IILLiftEnvy$Row;II)I"⟩, 12), (⟨"LiftEnvy", "isBroughtHiding", "(III)Z"⟩, 12), (⟨"LiftEnvy", "kindOf", "(I)LLiftEnvy$Person;"⟩, 12), (⟨"LiftEnvy", "rowsThere", "()I"⟩, 12)]
theorem lw_r1 : ∀ q ∈ lw_privs_1, lw_okq q := List.forall_mem_cons.mpr ⟨lw_p0, List.forall_mem_cons.mpr ⟨lw_p1, List.forall_mem_cons.mpr ⟨lw_p2, List.forall_mem_cons.mpr ⟨lw_p3, List.forall_mem_cons.mpr ⟨lw_p4, List.forall_mem_cons.mpr ⟨lw_p5, List.forall_mem_cons.mpr ⟨lw_p6, List.forall_mem_cons.mpr ⟨lw_p7, List.forall_mem_cons.mpr ⟨lw_p8, List.forall_mem_cons.mpr ⟨lw_p9, List.forall_mem_cons.mpr ⟨lw_p10, List.forall_mem_cons.mpr ⟨lw_p11, List.forall_mem_cons.mpr ⟨lw_p12, List.forall_mem_cons.mpr ⟨lw_p13, List.forall_mem_cons.mpr ⟨lw_p14, List.forall_mem_cons.mpr ⟨lw_p15, fun _ h => absurd h List.not_mem_nil⟩⟩⟩⟩⟩⟩⟩⟩⟩⟩⟩⟩⟩⟩⟩⟩
theorem lw_p16 : lw_okq (⟨"LiftEnvyModel", "found", "(I)I"⟩, 22) := ⟨⟨by decide +kernel, by decide +kernel⟩, List.mem_of_getElem? (i := 641) (by decide +kernel), List.mem_of_getElem? (i := 726) (by decide +kernel), List.mem_of_getElem? (i := 727) (by decide +kernel)⟩
theorem lw_p17 : lw_okq (⟨"LiftEnvyModel", "well", "(I)I"⟩, 22) := ⟨⟨by decide +kernel, by decide +kernel⟩, List.mem_of_getElem? (i := 641) (by decide +kernel), List.mem_of_getElem? (i := 731) (by decide +kernel), List.mem_of_getElem? (i := 732) (by decide +kernel)⟩
theorem lw_p18 : lw_okq (⟨"LiftEnvyModel", "isMissing", "(I)Z"⟩, 22) := ⟨⟨by decide +kernel, by decide +kernel⟩, List.mem_of_getElem? (i := 641) (by decide +kernel), List.mem_of_getElem? (i := 739) (by decide +kernel), List.mem_of_getElem? (i := 740) (by decide +kernel)⟩
theorem lw_p19 : lw_okq (⟨"LiftEnvyModel", "isPart", "(III)Z"⟩, 22) := ⟨⟨by decide +kernel, by decide +kernel⟩, List.mem_of_getElem? (i := 641) (by decide +kernel), List.mem_of_getElem? (i := 750) (by decide +kernel), List.mem_of_getElem? (i := 751) (by decide +kernel)⟩
theorem lw_p20 : lw_okq (⟨"LiftEnvyModel", "advances", "()V"⟩, 22) := ⟨⟨by decide +kernel, by decide +kernel⟩, List.mem_of_getElem? (i := 641) (by decide +kernel), List.mem_of_getElem? (i := 767) (by decide +kernel), List.mem_of_getElem? (i := 768) (by decide +kernel)⟩
theorem lw_p21 : lw_okq (⟨"LiftEnvyModel", "byteAt", "(I)I"⟩, 22) := ⟨⟨by decide +kernel, by decide +kernel⟩, List.mem_of_getElem? (i := 641) (by decide +kernel), List.mem_of_getElem? (i := 771) (by decide +kernel), List.mem_of_getElem? (i := 772) (by decide +kernel)⟩
theorem lw_p22 : lw_okq (⟨"LiftEnvyModel", "takes", "(ZI)I"⟩, 22) := ⟨⟨by decide +kernel, by decide +kernel⟩, List.mem_of_getElem? (i := 641) (by decide +kernel), List.mem_of_getElem? (i := 775) (by decide +kernel), List.mem_of_getElem? (i := 776) (by decide +kernel)⟩
theorem lw_p23 : lw_okq (⟨"LiftEnvyModel", "isWell", "()Z"⟩, 22) := ⟨⟨by decide +kernel, by decide +kernel⟩, List.mem_of_getElem? (i := 641) (by decide +kernel), List.mem_of_getElem? (i := 779) (by decide +kernel), List.mem_of_getElem? (i := 780) (by decide +kernel)⟩
theorem lw_p24 : lw_okq (⟨"LiftEnvyModel", "figure", "(II)I"⟩, 22) := ⟨⟨by decide +kernel, by decide +kernel⟩, List.mem_of_getElem? (i := 641) (by decide +kernel), List.mem_of_getElem? (i := 783) (by decide +kernel), List.mem_of_getElem? (i := 784) (by decide +kernel)⟩
theorem lw_p25 : lw_okq (⟨"LiftEnvyModel", "next", "(II)I"⟩, 22) := ⟨⟨by decide +kernel, by decide +kernel⟩, List.mem_of_getElem? (i := 641) (by decide +kernel), List.mem_of_getElem? (i := 787) (by decide +kernel), List.mem_of_getElem? (i := 788) (by decide +kernel)⟩
theorem lw_p26 : lw_okq (⟨"LiftEnvyModel", "readsPerson", "()V"⟩, 22) := ⟨⟨by decide +kernel, by decide +kernel⟩, List.mem_of_getElem? (i := 641) (by decide +kernel), List.mem_of_getElem? (i := 794) (by decide +kernel), List.mem_of_getElem? (i := 795) (by decide +kernel)⟩
theorem lw_p27 : lw_okq (⟨"LiftEnvyModel", "isHouse", "()Z"⟩, 22) := ⟨⟨by decide +kernel, by decide +kernel⟩, List.mem_of_getElem? (i := 641) (by decide +kernel), List.mem_of_getElem? (i := 810) (by decide +kernel), List.mem_of_getElem? (i := 811) (by decide +kernel)⟩
theorem lw_p28 : lw_okq (⟨"LiftEnvyModel", "notes", "()V"⟩, 22) := ⟨⟨by decide +kernel, by decide +kernel⟩, List.mem_of_getElem? (i := 641) (by decide +kernel), List.mem_of_getElem? (i := 815) (by decide +kernel), List.mem_of_getElem? (i := 816) (by decide +kernel)⟩
theorem lw_p29 : lw_okq (⟨"LiftEnvyModel", "isPerson", "(I)Z"⟩, 22) := ⟨⟨by decide +kernel, by decide +kernel⟩, List.mem_of_getElem? (i := 641) (by decide +kernel), List.mem_of_getElem? (i := 841) (by decide +kernel), List.mem_of_getElem? (i := 842) (by decide +kernel)⟩
theorem lw_p30 : lw_okq (⟨"LiftEnvyModel", "tries", "(I)V"⟩, 22) := ⟨⟨by decide +kernel, by decide +kernel⟩, List.mem_of_getElem? (i := 641) (by decide +kernel), List.mem_of_getElem? (i := 878) (by decide +kernel), List.mem_of_getElem? (i := 879) (by decide +kernel)⟩
theorem lw_p31 : lw_okq (⟨"LiftEnvyModel", "broughtBy", "(II)I"⟩, 22) := ⟨⟨by decide +kernel, by decide +kernel⟩, List.mem_of_getElem? (i := 641) (by decide +kernel), List.mem_of_getElem? (i := 886) (by decide +kernel), List.mem_of_getElem? (i := 887) (by decide +kernel)⟩
def lw_privs_2 : List (MethodName × Nat) := [(⟨"LiftEnvyModel", "found", "(I)I"⟩, 22), (⟨"LiftEnvyModel", "well", "(I)I"⟩, 22), (⟨"LiftEnvyModel", "isMissing", "(I)Z"⟩, 22), (⟨"LiftEnvyModel", "isPart", "(III)Z"⟩, 22), (⟨"LiftEnvyModel", "advances", "()V"⟩, 22), (⟨"LiftEnvyModel", "byteAt", "(I)I"⟩, 22), (⟨"LiftEnvyModel", "takes", "(ZI)I"⟩, 22), (⟨"LiftEnvyModel", "isWell", "()Z"⟩, 22), (⟨"LiftEnvyModel", "figure", "(II)I"⟩, 22), (⟨"LiftEnvyModel", "next", "(II)I"⟩, 22), (⟨"LiftEnvyModel", "readsPerson", "()V"⟩, 22), (⟨"LiftEnvyModel", "isHouse", "()Z"⟩, 22), (⟨"LiftEnvyModel", "notes", "()V"⟩, 22), (⟨"LiftEnvyModel", "isPerson", "(I)Z"⟩, 22), (⟨"LiftEnvyModel", "tries", "(I)V"⟩, 22), (⟨"LiftEnvyModel", "broughtBy", "(II)I"⟩, 22)]
theorem lw_r2 : ∀ q ∈ lw_privs_2, lw_okq q := List.forall_mem_cons.mpr ⟨lw_p16, List.forall_mem_cons.mpr ⟨lw_p17, List.forall_mem_cons.mpr ⟨lw_p18, List.forall_mem_cons.mpr ⟨lw_p19, List.forall_mem_cons.mpr ⟨lw_p20, List.forall_mem_cons.mpr ⟨lw_p21, List.forall_mem_cons.mpr ⟨lw_p22, List.forall_mem_cons.mpr ⟨lw_p23, List.forall_mem_cons.mpr ⟨lw_p24, List.forall_mem_cons.mpr ⟨lw_p25, List.forall_mem_cons.mpr ⟨lw_p26, List.forall_mem_cons.mpr ⟨lw_p27, List.forall_mem_cons.mpr ⟨lw_p28, List.forall_mem_cons.mpr ⟨lw_p29, List.forall_mem_cons.mpr ⟨lw_p30, List.forall_mem_cons.mpr ⟨lw_p31, fun _ h => absurd h List.not_mem_nil⟩⟩⟩⟩⟩⟩⟩⟩⟩⟩⟩⟩⟩⟩⟩⟩
theorem lw_p32 : lw_okq (⟨"LiftEnvyModel", "hides", "(I)V"⟩, 22) := ⟨⟨by decide +kernel, by decide +kernel⟩, List.mem_of_getElem? (i := 641) (by decide +kernel), List.mem_of_getElem? (i := 909) (by decide +kernel), List.mem_of_getElem? (i := 910) (by decide +kernel)⟩
theorem lw_p33 : lw_okq (⟨"LiftEnvyModel", "goesSo", "(II)Z"⟩, 22) := ⟨⟨by decide +kernel, by decide +kernel⟩, List.mem_of_getElem? (i := 641) (by decide +kernel), List.mem_of_getElem? (i := 924) (by decide +kernel), List.mem_of_getElem? (i := 925) (by decide +kernel)⟩
theorem lw_p34 : lw_okq (⟨"LiftEnvyModel", "kindIn", "(I)I"⟩, 22) := ⟨⟨by decide +kernel, by decide +kernel⟩, List.mem_of_getElem? (i := 641) (by decide +kernel), List.mem_of_getElem? (i := 952) (by decide +kernel), List.mem_of_getElem? (i := 953) (by decide +kernel)⟩
theorem lw_p35 : lw_okq (⟨"LiftEnvyModel", "chiefSize", "(I)I"⟩, 22) := ⟨⟨by decide +kernel, by decide +kernel⟩, List.mem_of_getElem? (i := 641) (by decide +kernel), List.mem_of_getElem? (i := 964) (by decide +kernel), List.mem_of_getElem? (i := 965) (by decide +kernel)⟩
theorem lw_p36 : lw_okq (⟨"LiftEnvyModel", "begins", "(I)V"⟩, 22) := ⟨⟨by decide +kernel, by decide +kernel⟩, List.mem_of_getElem? (i := 641) (by decide +kernel), List.mem_of_getElem? (i := 968) (by decide +kernel), List.mem_of_getElem? (i := 969) (by decide +kernel)⟩
theorem lw_p37 : lw_okq (⟨"LiftEnvyModel", "clerkSize", "(I)I"⟩, 22) := ⟨⟨by decide +kernel, by decide +kernel⟩, List.mem_of_getElem? (i := 641) (by decide +kernel), List.mem_of_getElem? (i := 972) (by decide +kernel), List.mem_of_getElem? (i := 973) (by decide +kernel)⟩
theorem lw_p38 : lw_okq (⟨"LiftEnvyModel", "clerkMark", "(I)I"⟩, 22) := ⟨⟨by decide +kernel, by decide +kernel⟩, List.mem_of_getElem? (i := 641) (by decide +kernel), List.mem_of_getElem? (i := 976) (by decide +kernel), List.mem_of_getElem? (i := 977) (by decide +kernel)⟩
theorem lw_p39 : lw_okq (⟨"LiftEnvyModel", "chiefMark", "(I)I"⟩, 22) := ⟨⟨by decide +kernel, by decide +kernel⟩, List.mem_of_getElem? (i := 641) (by decide +kernel), List.mem_of_getElem? (i := 980) (by decide +kernel), List.mem_of_getElem? (i := 981) (by decide +kernel)⟩
def lw_privs_3 : List (MethodName × Nat) := [(⟨"LiftEnvyModel", "hides", "(I)V"⟩, 22), (⟨"LiftEnvyModel", "goesSo", "(II)Z"⟩, 22), (⟨"LiftEnvyModel", "kindIn", "(I)I"⟩, 22), (⟨"LiftEnvyModel", "chiefSize", "(I)I"⟩, 22), (⟨"LiftEnvyModel", "begins", "(I)V"⟩, 22), (⟨"LiftEnvyModel", "clerkSize", "(I)I"⟩, 22), (⟨"LiftEnvyModel", "clerkMark", "(I)I"⟩, 22), (⟨"LiftEnvyModel", "chiefMark", "(I)I"⟩, 22)]
theorem lw_r3 : ∀ q ∈ lw_privs_3, lw_okq q := List.forall_mem_cons.mpr ⟨lw_p32, List.forall_mem_cons.mpr ⟨lw_p33, List.forall_mem_cons.mpr ⟨lw_p34, List.forall_mem_cons.mpr ⟨lw_p35, List.forall_mem_cons.mpr ⟨lw_p36, List.forall_mem_cons.mpr ⟨lw_p37, List.forall_mem_cons.mpr ⟨lw_p38, List.forall_mem_cons.mpr ⟨lw_p39, fun _ h => absurd h List.not_mem_nil⟩⟩⟩⟩⟩⟩⟩⟩
def lw_privs : List (MethodName × Nat) := lw_privs_1 ++ (lw_privs_2 ++ (lw_privs_3))
def lw_tbl : List Cond := k2_sels lw_privs ++ tables_1
theorem lw_privs_ok : ∀ q ∈ lw_privs, lw_okq q := by
  show ∀ q ∈ lw_privs_1 ++ (lw_privs_2 ++ (lw_privs_3)), lw_okq q
  exact List.forall_mem_append.mpr ⟨lw_r1, List.forall_mem_append.mpr ⟨lw_r2, lw_r3⟩⟩
def tG : List Cond := lw_tbl.filter goodWord
theorem tG_in {w : Cond} (h : w ∈ tG) : w ∈ lw_tbl := (List.mem_filter.mp h).1
theorem tG_mk {w : Cond} (i : Nat) (h : lw_tbl[i]? = some w) (g : goodWord w = true) : w ∈ tG := List.mem_filter.mpr ⟨List.mem_of_getElem? h, g⟩
theorem tG_good {c : Cond} (hc : c ∈ tG) : GoodIn tG (c :: tG) := by
  intro w hw
  have h : w ∈ tG := by
    rcases List.mem_cons.mp hw with e | e
    · rw [e]; exact hc
    · exact e
  exact ⟨h, good_of_word (List.mem_filter.mp h).2⟩
def RX0 : String := "LiftEnvy$Acts"
def TX0 : u_T := fun k => match k with
  | 0 => ("LiftEnvy$Acts", "before", "[LLiftEnvy$House;", true)
  | 1 => ("LiftEnvy$Acts", "next", "I", false)
  | _ => ("LiftEnvy$Acts", "number", "I", false)
def tyX0 : Nat → FieldType := fun k => match k with
  | 0 => .array (.object "LiftEnvy$House")
  | 1 => .int
  | _ => .int
theorem nmX0 : ∀ a, a < 3 → ∀ b, b < 3 → a ≠ b → (TX0 a).2.1 ≠ (TX0 b).2.1 := by decide +kernel
theorem tyX0_ok : ∀ k, k < 3 → parseFieldDescriptor (TX0 k).2.2.1 = some (tyX0 k) := by decide +kernel
abbrev cX0_init : ByteArray := prog_2_method_1_code
def yX0_init : MethodName := ⟨RX0, "<init>", "()V"⟩
abbrev cX0_forget : ByteArray := prog_2_method_2_code
def yX0_forget : MethodName := ⟨RX0, "forget", "()V"⟩
abbrev cX0_keep : ByteArray := prog_2_method_3_code
def yX0_keep : MethodName := ⟨RX0, "keep", "(LLiftEnvy$House;)V"⟩
abbrev cX0_takeBack : ByteArray := prog_2_method_4_code
def yX0_takeBack : MethodName := ⟨RX0, "takeBack", "(LLiftEnvy$House;)V"⟩
def RX1 : String := "LiftEnvy$Chief"
def TX1 : u_T := fun k => match k with
  | _ => ("", "", "", false)
def tyX1 : Nat → FieldType := fun k => match k with
  | _ => .int
theorem nmX1 : ∀ a, a < 0 → ∀ b, b < 0 → a ≠ b → (TX1 a).2.1 ≠ (TX1 b).2.1 := by decide +kernel
theorem tyX1_ok : ∀ k, k < 0 → parseFieldDescriptor (TX1 k).2.2.1 = some (tyX1 k) := by decide +kernel
abbrev cX1_init : ByteArray := prog_3_method_1_code
def yX1_init : MethodName := ⟨RX1, "<init>", "()V"⟩
abbrev cX1_size : ByteArray := prog_3_method_2_code
def yX1_size : MethodName := ⟨RX1, "size", "(LLiftEnvy$House;ILLiftEnvy$Trace;)I"⟩
abbrev cX1_mark : ByteArray := prog_3_method_3_code
def yX1_mark : MethodName := ⟨RX1, "mark", "(LLiftEnvy$House;ILLiftEnvy$Trace;)I"⟩
def RX2 : String := "LiftEnvy$Clerk"
def TX2 : u_T := fun k => match k with
  | _ => ("", "", "", false)
def tyX2 : Nat → FieldType := fun k => match k with
  | _ => .int
theorem nmX2 : ∀ a, a < 0 → ∀ b, b < 0 → a ≠ b → (TX2 a).2.1 ≠ (TX2 b).2.1 := by decide +kernel
theorem tyX2_ok : ∀ k, k < 0 → parseFieldDescriptor (TX2 k).2.2.1 = some (tyX2 k) := by decide +kernel
abbrev cX2_init : ByteArray := prog_4_method_1_code
def yX2_init : MethodName := ⟨RX2, "<init>", "()V"⟩
abbrev cX2_size : ByteArray := prog_4_method_2_code
def yX2_size : MethodName := ⟨RX2, "size", "(LLiftEnvy$House;ILLiftEnvy$Trace;)I"⟩
abbrev cX2_mark : ByteArray := prog_4_method_3_code
def yX2_mark : MethodName := ⟨RX2, "mark", "(LLiftEnvy$House;ILLiftEnvy$Trace;)I"⟩
def RX3 : String := "LiftEnvy$Heir"
def TX3 : u_T := fun k => match k with
  | _ => ("", "", "", false)
def tyX3 : Nat → FieldType := fun k => match k with
  | _ => .int
theorem nmX3 : ∀ a, a < 0 → ∀ b, b < 0 → a ≠ b → (TX3 a).2.1 ≠ (TX3 b).2.1 := by decide +kernel
theorem tyX3_ok : ∀ k, k < 0 → parseFieldDescriptor (TX3 k).2.2.1 = some (tyX3 k) := by decide +kernel
abbrev cX3_init : ByteArray := prog_5_method_1_code
def yX3_init : MethodName := ⟨RX3, "<init>", "()V"⟩
abbrev cX3_size : ByteArray := prog_5_method_2_code
def yX3_size : MethodName := ⟨RX3, "size", "(LLiftEnvy$House;ILLiftEnvy$Trace;)I"⟩
def RX4 : String := "LiftEnvy$House"
def TX4 : u_T := fun k => match k with
  | 0 => ("LiftEnvy$House", "kind", "[I", true)
  | 1 => ("LiftEnvy$House", "floor", "[I", true)
  | 2 => ("LiftEnvy$House", "wants", "[I", true)
  | 3 => ("LiftEnvy$House", "shows", "[I", true)
  | 4 => ("LiftEnvy$House", "temper", "[I", true)
  | 5 => ("LiftEnvy$House", "people", "I", false)
  | 6 => ("LiftEnvy$House", "top", "I", false)
  | 7 => ("LiftEnvy$House", "car", "I", false)
  | 8 => ("LiftEnvy$House", "rider", "I", false)
  | 9 => ("LiftEnvy$House", "brought", "I", false)
  | 10 => ("LiftEnvy$House", "step", "I", false)
  | _ => ("LiftEnvy$House", "goal", "I", false)
def tyX4 : Nat → FieldType := fun k => match k with
  | 0 => .array .int
  | 1 => .array .int
  | 2 => .array .int
  | 3 => .array .int
  | 4 => .array .int
  | 5 => .int
  | 6 => .int
  | 7 => .int
  | 8 => .int
  | 9 => .int
  | 10 => .int
  | _ => .int
theorem nmX4 : ∀ a, a < 12 → ∀ b, b < 12 → a ≠ b → (TX4 a).2.1 ≠ (TX4 b).2.1 := by decide +kernel
theorem tyX4_ok : ∀ k, k < 12 → parseFieldDescriptor (TX4 k).2.2.1 = some (tyX4 k) := by decide +kernel
abbrev cX4_init : ByteArray := prog_6_method_1_code
def yX4_init : MethodName := ⟨RX4, "<init>", "()V"⟩
abbrev cX4_begin : ByteArray := prog_6_method_2_code
def yX4_begin : MethodName := ⟨RX4, "begin", "(II)V"⟩
abbrev cX4_become : ByteArray := prog_6_method_3_code
def yX4_become : MethodName := ⟨RX4, "become", "(LLiftEnvy$House;)V"⟩
abbrev cX4_put : ByteArray := prog_6_method_4_code
def yX4_put : MethodName := ⟨RX4, "put", "(III)V"⟩
abbrev cX4_mostOf : ByteArray := prog_6_method_5_code
def yX4_mostOf : MethodName := ⟨RX4, "mostOf", "(I)I"⟩
abbrev cX4_conceal : ByteArray := prog_6_method_6_code
def yX4_conceal : MethodName := ⟨RX4, "conceal", "(I)V"⟩
abbrev cX4_showing : ByteArray := prog_6_method_7_code
def yX4_showing : MethodName := ⟨RX4, "showing", "()I"⟩
abbrev cX4_isBrought : ByteArray := prog_6_method_8_code
def yX4_isBrought : MethodName := ⟨RX4, "isBrought", "(I)Z"⟩
abbrev cX4_minding : ByteArray := prog_6_method_9_code
def yX4_minding : MethodName := ⟨RX4, "minding", "(II)I"⟩
abbrev cX4_envy : ByteArray := prog_6_method_10_code
def yX4_envy : MethodName := ⟨RX4, "envy", "(I)I"⟩
abbrev cX4_goal : ByteArray := prog_6_method_11_code
def yX4_goal : MethodName := ⟨RX4, "goal", "()I"⟩
abbrev cX4_advance : ByteArray := prog_6_method_12_code
def yX4_advance : MethodName := ⟨RX4, "advance", "()V"⟩
abbrev cX4_carry : ByteArray := prog_6_method_13_code
def yX4_carry : MethodName := ⟨RX4, "carry", "()V"⟩
abbrev cX4_rests : ByteArray := prog_6_method_14_code
def yX4_rests : MethodName := ⟨RX4, "rests", "()Z"⟩
abbrev cX4_lastWithin : ByteArray := prog_6_method_15_code
def yX4_lastWithin : MethodName := ⟨RX4, "lastWithin", "(I)I"⟩
abbrev cX4_until : ByteArray := prog_6_method_16_code
def yX4_until : MethodName := ⟨RX4, "until", "(II)I"⟩
abbrev cX4_goesAs : ByteArray := prog_6_method_17_code
def yX4_goesAs : MethodName := ⟨RX4, "goesAs", "([III)Z"⟩
abbrev cX4_stray : ByteArray := prog_6_method_18_code
def yX4_stray : MethodName := ⟨RX4, "stray", "(J)V"⟩
def RX5 : String := "LiftEnvy$Meek"
def TX5 : u_T := fun k => match k with
  | _ => ("", "", "", false)
def tyX5 : Nat → FieldType := fun k => match k with
  | _ => .int
theorem nmX5 : ∀ a, a < 0 → ∀ b, b < 0 → a ≠ b → (TX5 a).2.1 ≠ (TX5 b).2.1 := by decide +kernel
theorem tyX5_ok : ∀ k, k < 0 → parseFieldDescriptor (TX5 k).2.2.1 = some (tyX5 k) := by decide +kernel
abbrev cX5_init : ByteArray := prog_7_method_1_code
def yX5_init : MethodName := ⟨RX5, "<init>", "()V"⟩
abbrev cX5_mark : ByteArray := prog_7_method_2_code
def yX5_mark : MethodName := ⟨RX5, "mark", "(LLiftEnvy$House;ILLiftEnvy$Trace;)I"⟩
def RX6 : String := "LiftEnvy$Person"
def TX6 : u_T := fun k => match k with
  | _ => ("", "", "", false)
def tyX6 : Nat → FieldType := fun k => match k with
  | _ => .int
theorem nmX6 : ∀ a, a < 0 → ∀ b, b < 0 → a ≠ b → (TX6 a).2.1 ≠ (TX6 b).2.1 := by decide +kernel
theorem tyX6_ok : ∀ k, k < 0 → parseFieldDescriptor (TX6 k).2.2.1 = some (tyX6 k) := by decide +kernel
abbrev cX6_init : ByteArray := prog_8_method_1_code
def yX6_init : MethodName := ⟨RX6, "<init>", "()V"⟩
abbrev cX6_size : ByteArray := prog_8_method_2_code
def yX6_size : MethodName := ⟨RX6, "size", "(LLiftEnvy$House;ILLiftEnvy$Trace;)I"⟩
abbrev cX6_mark : ByteArray := prog_8_method_3_code
def yX6_mark : MethodName := ⟨RX6, "mark", "(LLiftEnvy$House;ILLiftEnvy$Trace;)I"⟩
def RX7 : String := "LiftEnvy$Row"
def TX7 : u_T := fun k => match k with
  | 0 => ("LiftEnvy$Row", "items", "[I", true)
  | 1 => ("LiftEnvy$Row", "lane", "I", false)
  | _ => ("LiftEnvy$Row", "length", "I", false)
def tyX7 : Nat → FieldType := fun k => match k with
  | 0 => .array .int
  | 1 => .int
  | _ => .int
theorem nmX7 : ∀ a, a < 3 → ∀ b, b < 3 → a ≠ b → (TX7 a).2.1 ≠ (TX7 b).2.1 := by decide +kernel
theorem tyX7_ok : ∀ k, k < 3 → parseFieldDescriptor (TX7 k).2.2.1 = some (tyX7 k) := by decide +kernel
abbrev cX7_init : ByteArray := prog_9_method_1_code
def yX7_init : MethodName := ⟨RX7, "<init>", "()V"⟩
abbrev cX7_isMissing : ByteArray := prog_9_method_2_code
def yX7_isMissing : MethodName := ⟨RX7, "isMissing", "()Z"⟩
abbrev cX7_become : ByteArray := prog_9_method_3_code
def yX7_become : MethodName := ⟨RX7, "become", "(II)V"⟩
abbrev cX7_holds : ByteArray := prog_9_method_4_code
def yX7_holds : MethodName := ⟨RX7, "holds", "(II)Z"⟩
abbrev cX7_cut : ByteArray := prog_9_method_5_code
def yX7_cut : MethodName := ⟨RX7, "cut", "(I)I"⟩
def RX8 : String := "LiftEnvy$Tape"
def TX8 : u_T := fun k => match k with
  | 0 => ("LiftEnvy$Tape", "bytes", "[I", true)
  | 1 => ("LiftEnvy$Tape", "length", "I", false)
  | 2 => ("LiftEnvy$Tape", "place", "I", false)
  | 3 => ("LiftEnvy$Tape", "fault", "I", false)
  | _ => ("LiftEnvy$Tape", "number", "I", false)
def tyX8 : Nat → FieldType := fun k => match k with
  | 0 => .array .int
  | 1 => .int
  | 2 => .int
  | 3 => .int
  | _ => .int
theorem nmX8 : ∀ a, a < 5 → ∀ b, b < 5 → a ≠ b → (TX8 a).2.1 ≠ (TX8 b).2.1 := by decide +kernel
theorem tyX8_ok : ∀ k, k < 5 → parseFieldDescriptor (TX8 k).2.2.1 = some (tyX8 k) := by decide +kernel
abbrev cX8_init : ByteArray := prog_10_method_1_code
def yX8_init : MethodName := ⟨RX8, "<init>", "()V"⟩
abbrev cX8_tellsHouse : ByteArray := prog_10_method_2_code
def yX8_tellsHouse : MethodName := ⟨RX8, "tellsHouse", "(LLiftEnvy$House;)Z"⟩
abbrev cX8_tellsLaw : ByteArray := prog_10_method_3_code
def yX8_tellsLaw : MethodName := ⟨RX8, "tellsLaw", "(LLiftEnvy$House;)Z"⟩
abbrev cX8_tellsPerson : ByteArray := prog_10_method_4_code
def yX8_tellsPerson : MethodName := ⟨RX8, "tellsPerson", "(LLiftEnvy$House;I)Z"⟩
abbrev cX8_sort : ByteArray := prog_10_method_5_code
def yX8_sort : MethodName := ⟨RX8, "sort", "()I"⟩
abbrev cX8_takesSign : ByteArray := prog_10_method_6_code
def yX8_takesSign : MethodName := ⟨RX8, "takesSign", "(C)Z"⟩
abbrev cX8_takesNumber : ByteArray := prog_10_method_7_code
def yX8_takesNumber : MethodName := ⟨RX8, "takesNumber", "(II)Z"⟩
abbrev cX8_isFigure : ByteArray := prog_10_method_8_code
def yX8_isFigure : MethodName := ⟨RX8, "isFigure", "(I)Z"⟩
abbrev cX8_refuses : ByteArray := prog_10_method_9_code
def yX8_refuses : MethodName := ⟨RX8, "refuses", "(I)Z"⟩
def RX9 : String := "LiftEnvy$Trace"
def TX9 : u_T := fun k => match k with
  | 0 => ("LiftEnvy$Trace", "bodies", "[I", true)
  | _ => ("LiftEnvy$Trace", "length", "I", false)
def tyX9 : Nat → FieldType := fun k => match k with
  | 0 => .array .int
  | _ => .int
theorem nmX9 : ∀ a, a < 2 → ∀ b, b < 2 → a ≠ b → (TX9 a).2.1 ≠ (TX9 b).2.1 := by decide +kernel
theorem tyX9_ok : ∀ k, k < 2 → parseFieldDescriptor (TX9 k).2.2.1 = some (tyX9 k) := by decide +kernel
abbrev cX9_init : ByteArray := prog_11_method_1_code
def yX9_init : MethodName := ⟨RX9, "<init>", "()V"⟩
abbrev cX9_leave : ByteArray := prog_11_method_2_code
def yX9_leave : MethodName := ⟨RX9, "leave", "(I)V"⟩
def RX10 : String := "LiftEnvy$Vain"
def TX10 : u_T := fun k => match k with
  | _ => ("", "", "", false)
def tyX10 : Nat → FieldType := fun k => match k with
  | _ => .int
theorem nmX10 : ∀ a, a < 0 → ∀ b, b < 0 → a ≠ b → (TX10 a).2.1 ≠ (TX10 b).2.1 := by decide +kernel
theorem tyX10_ok : ∀ k, k < 0 → parseFieldDescriptor (TX10 k).2.2.1 = some (tyX10 k) := by decide +kernel
abbrev cX10_init : ByteArray := prog_12_method_1_code
def yX10_init : MethodName := ⟨RX10, "<init>", "()V"⟩
abbrev cX10_size : ByteArray := prog_12_method_2_code
def yX10_size : MethodName := ⟨RX10, "size", "(LLiftEnvy$House;ILLiftEnvy$Trace;)I"⟩
abbrev cX10_mark : ByteArray := prog_12_method_3_code
def yX10_mark : MethodName := ⟨RX10, "mark", "(LLiftEnvy$House;ILLiftEnvy$Trace;)I"⟩
def RX11 : String := "LiftEnvy"
def TX11 : u_T := fun k => match k with
  | 0 => ("LiftEnvy", "rows", "[LLiftEnvy$Row;", true)
  | 1 => ("LiftEnvy", "tape", "LLiftEnvy$Tape;", true)
  | 2 => ("LiftEnvy", "now", "LLiftEnvy$House;", true)
  | 3 => ("LiftEnvy", "supposed", "LLiftEnvy$House;", true)
  | 4 => ("LiftEnvy", "images", "[LLiftEnvy$House;", true)
  | 5 => ("LiftEnvy", "kept", "[Z", true)
  | 6 => ("LiftEnvy", "acts", "LLiftEnvy$Acts;", true)
  | 7 => ("LiftEnvy", "kinds", "[LLiftEnvy$Person;", true)
  | 8 => ("LiftEnvy", "left", "LLiftEnvy$Trace;", true)
  | 9 => ("LiftEnvy", "housed", "Z", false)
  | 10 => ("LiftEnvy", "latestFault", "I", false)
  | _ => ("LiftEnvy", "finding", "I", false)
def tyX11 : Nat → FieldType := fun k => match k with
  | 0 => .array (.object "LiftEnvy$Row")
  | 1 => .object "LiftEnvy$Tape"
  | 2 => .object "LiftEnvy$House"
  | 3 => .object "LiftEnvy$House"
  | 4 => .array (.object "LiftEnvy$House")
  | 5 => .array .boolean
  | 6 => .object "LiftEnvy$Acts"
  | 7 => .array (.object "LiftEnvy$Person")
  | 8 => .object "LiftEnvy$Trace"
  | 9 => .boolean
  | 10 => .int
  | _ => .int
theorem nmX11 : ∀ a, a < 12 → ∀ b, b < 12 → a ≠ b → (TX11 a).2.1 ≠ (TX11 b).2.1 := by decide +kernel
theorem tyX11_ok : ∀ k, k < 12 → parseFieldDescriptor (TX11 k).2.2.1 = some (tyX11 k) := by decide +kernel
abbrev cX11_init : ByteArray := prog_1_method_1_code
def yX11_init : MethodName := ⟨RX11, "<init>", "()V"⟩
abbrev cX11_row : ByteArray := prog_1_method_2_code
def yX11_row : MethodName := ⟨RX11, "row", "(III)I"⟩
abbrev cX11_set : ByteArray := prog_1_method_3_code
def yX11_set : MethodName := ⟨RX11, "set", "(III)I"⟩
abbrev cX11_copy : ByteArray := prog_1_method_4_code
def yX11_copy : MethodName := ⟨RX11, "copy", "(IIIII)I"⟩
abbrev cX11_drop : ByteArray := prog_1_method_5_code
def yX11_drop : MethodName := ⟨RX11, "drop", "(I)I"⟩
abbrev cX11_feed : ByteArray := prog_1_method_6_code
def yX11_feed : MethodName := ⟨RX11, "feed", "(I)I"⟩
abbrev cX11_house : ByteArray := prog_1_method_7_code
def yX11_house : MethodName := ⟨RX11, "house", "()I"⟩
abbrev cX11_fault : ByteArray := prog_1_method_8_code
def yX11_fault : MethodName := ⟨RX11, "fault", "()I"⟩
abbrev cX11_steps : ByteArray := prog_1_method_9_code
def yX11_steps : MethodName := ⟨RX11, "steps", "(I)I"⟩
abbrev cX11_show : ByteArray := prog_1_method_10_code
def yX11_show : MethodName := ⟨RX11, "show", "(II)I"⟩
abbrev cX11_walk : ByteArray := prog_1_method_11_code
def yX11_walk : MethodName := ⟨RX11, "walk", "(II)I"⟩
abbrev cX11_undo : ByteArray := prog_1_method_12_code
def yX11_undo : MethodName := ⟨RX11, "undo", "()I"⟩
abbrev cX11_person : ByteArray := prog_1_method_13_code
def yX11_person : MethodName := ⟨RX11, "person", "(II)I"⟩
abbrev cX11_minds : ByteArray := prog_1_method_14_code
def yX11_minds : MethodName := ⟨RX11, "minds", "(II)I"⟩
abbrev cX11_car : ByteArray := prog_1_method_15_code
def yX11_car : MethodName := ⟨RX11, "car", "(I)I"⟩
abbrev cX11_ahead : ByteArray := prog_1_method_16_code
def yX11_ahead : MethodName := ⟨RX11, "ahead", "(II)I"⟩
abbrev cX11_when : ByteArray := prog_1_method_17_code
def yX11_when : MethodName := ⟨RX11, "when", "(I)I"⟩
abbrev cX11_first : ByteArray := prog_1_method_18_code
def yX11_first : MethodName := ⟨RX11, "first", "(I)I"⟩
abbrev cX11_never : ByteArray := prog_1_method_19_code
def yX11_never : MethodName := ⟨RX11, "never", "()I"⟩
abbrev cX11_least : ByteArray := prog_1_method_20_code
def yX11_least : MethodName := ⟨RX11, "least", "(II)I"⟩
abbrev cX11_hide : ByteArray := prog_1_method_21_code
def yX11_hide : MethodName := ⟨RX11, "hide", "(I)I"⟩
abbrev cX11_beside : ByteArray := prog_1_method_22_code
def yX11_beside : MethodName := ⟨RX11, "beside", "(II)I"⟩
abbrev cX11_fits : ByteArray := prog_1_method_23_code
def yX11_fits : MethodName := ⟨RX11, "fits", "(IIIII)I"⟩
abbrev cX11_hidden : ByteArray := prog_1_method_24_code
def yX11_hidden : MethodName := ⟨RX11, "hidden", "(IIII)I"⟩
abbrev cX11_drawn : ByteArray := prog_1_method_25_code
def yX11_drawn : MethodName := ⟨RX11, "drawn", "(III)I"⟩
abbrev cX11_image : ByteArray := prog_1_method_26_code
def yX11_image : MethodName := ⟨RX11, "image", "(I)I"⟩
abbrev cX11_restore : ByteArray := prog_1_method_27_code
def yX11_restore : MethodName := ⟨RX11, "restore", "(I)I"⟩
abbrev cX11_kind : ByteArray := prog_1_method_28_code
def yX11_kind : MethodName := ⟨RX11, "kind", "(I)I"⟩
abbrev cX11_as : ByteArray := prog_1_method_29_code
def yX11_as : MethodName := ⟨RX11, "as", "(II)I"⟩
abbrev cX11_ask : ByteArray := prog_1_method_30_code
def yX11_ask : MethodName := ⟨RX11, "ask", "(II)I"⟩
abbrev cX11_trace : ByteArray := prog_1_method_31_code
def yX11_trace : MethodName := ⟨RX11, "trace", "(I)I"⟩
abbrev cX11_count : ByteArray := prog_1_method_32_code
def yX11_count : MethodName := ⟨RX11, "count", "(I)I"⟩
abbrev cX11_status : ByteArray := prog_1_method_33_code
def yX11_status : MethodName := ⟨RX11, "status", "()I"⟩
abbrev cX11_isWithin : ByteArray := prog_1_method_34_code
def yX11_isWithin : MethodName := ⟨RX11, "isWithin", "(III)Z"⟩
abbrev cX11_isRow : ByteArray := prog_1_method_35_code
def yX11_isRow : MethodName := ⟨RX11, "isRow", "(I)Z"⟩
abbrev cX11_isPerson : ByteArray := prog_1_method_36_code
def yX11_isPerson : MethodName := ⟨RX11, "isPerson", "(I)Z"⟩
abbrev cX11_kindOf : ByteArray := prog_1_method_37_code
def yX11_kindOf : MethodName := ⟨RX11, "kindOf", "(I)LLiftEnvy$Person;"⟩
abbrev cX11_found : ByteArray := prog_1_method_38_code
def yX11_found : MethodName := ⟨RX11, "found", "(I)I"⟩
abbrev cX11_unhindered : ByteArray := prog_1_method_39_code
def yX11_unhindered : MethodName := ⟨RX11, "unhindered", "(I)I"⟩
abbrev cX11_orNone : ByteArray := prog_1_method_40_code
def yX11_orNone : MethodName := ⟨RX11, "orNone", "(I)I"⟩
abbrev cX11_rowsThere : ByteArray := prog_1_method_41_code
def yX11_rowsThere : MethodName := ⟨RX11, "rowsThere", "()I"⟩
abbrev cX11_worth : ByteArray := prog_1_method_42_code
def yX11_worth : MethodName := ⟨RX11, "worth", "(I)I"⟩
abbrev cX11_isBroughtHiding : ByteArray := prog_1_method_43_code
def yX11_isBroughtHiding : MethodName := ⟨RX11, "isBroughtHiding", "(III)Z"⟩
abbrev cX11_fitting : ByteArray := prog_1_method_44_code
def yX11_fitting : MethodName := ⟨RX11, "fitting", "(IILLiftEnvy$Row;II)I"⟩
abbrev cX11_power : ByteArray := prog_1_method_45_code
def yX11_power : MethodName := ⟨RX11, "power", "(II)I"⟩
abbrev cX11_commonDivisor : ByteArray := prog_1_method_46_code
def yX11_commonDivisor : MethodName := ⟨RX11, "commonDivisor", "(II)I"⟩
abbrev cX11_isOne : ByteArray := prog_1_method_47_code
def yX11_isOne : MethodName := ⟨RX11, "isOne", "(LLiftEnvy$Person;I)Z"⟩
def RX12 : String := "LiftEnvyModel"
def TX12 : u_T := fun k => match k with
  | 0 => ("LiftEnvyModel", "lane", "[I", true)
  | 1 => ("LiftEnvyModel", "many", "[I", true)
  | 2 => ("LiftEnvyModel", "items", "[I", true)
  | 3 => ("LiftEnvyModel", "spare", "[I", true)
  | 4 => ("LiftEnvyModel", "status", "I", false)
  | 5 => ("LiftEnvyModel", "tape", "[I", true)
  | 6 => ("LiftEnvyModel", "taped", "I", false)
  | 7 => ("LiftEnvyModel", "faultKind", "I", false)
  | 8 => ("LiftEnvyModel", "faultPlace", "I", false)
  | 9 => ("LiftEnvyModel", "at", "I", false)
  | 10 => ("LiftEnvyModel", "start", "I", false)
  | 11 => ("LiftEnvyModel", "token", "I", false)
  | 12 => ("LiftEnvyModel", "value", "I", false)
  | 13 => ("LiftEnvyModel", "now", "[I", true)
  | 14 => ("LiftEnvyModel", "draft", "[I", true)
  | 15 => ("LiftEnvyModel", "tried", "[I", true)
  | 16 => ("LiftEnvyModel", "past", "[I", true)
  | 17 => ("LiftEnvyModel", "acts", "I", false)
  | 18 => ("LiftEnvyModel", "images", "[I", true)
  | 19 => ("LiftEnvyModel", "kept", "[Z", true)
  | 20 => ("LiftEnvyModel", "trace", "[I", true)
  | _ => ("LiftEnvyModel", "traced", "I", false)
def tyX12 : Nat → FieldType := fun k => match k with
  | 0 => .array .int
  | 1 => .array .int
  | 2 => .array .int
  | 3 => .array .int
  | 4 => .int
  | 5 => .array .int
  | 6 => .int
  | 7 => .int
  | 8 => .int
  | 9 => .int
  | 10 => .int
  | 11 => .int
  | 12 => .int
  | 13 => .array .int
  | 14 => .array .int
  | 15 => .array .int
  | 16 => .array .int
  | 17 => .int
  | 18 => .array .int
  | 19 => .array .boolean
  | 20 => .array .int
  | _ => .int
theorem nmX12 : ∀ a, a < 22 → ∀ b, b < 22 → a ≠ b → (TX12 a).2.1 ≠ (TX12 b).2.1 := by decide +kernel
theorem tyX12_ok : ∀ k, k < 22 → parseFieldDescriptor (TX12 k).2.2.1 = some (tyX12 k) := by decide +kernel
abbrev cX12_init : ByteArray := prog_14_method_1_code
def yX12_init : MethodName := ⟨RX12, "<init>", "()V"⟩
abbrev cX12_in : ByteArray := prog_14_method_3_code
def yX12_in : MethodName := ⟨RX12, "in", "(III)Z"⟩
abbrev cX12_has : ByteArray := prog_14_method_4_code
def yX12_has : MethodName := ⟨RX12, "has", "(II)Z"⟩
abbrev cX12_ones : ByteArray := prog_14_method_5_code
def yX12_ones : MethodName := ⟨RX12, "ones", "(I)I"⟩
abbrev cX12_found : ByteArray := prog_14_method_6_code
def yX12_found : MethodName := ⟨RX12, "found", "(I)I"⟩
abbrev cX12_well : ByteArray := prog_14_method_7_code
def yX12_well : MethodName := ⟨RX12, "well", "(I)I"⟩
abbrev cX12_copies : ByteArray := prog_14_method_8_code
def yX12_copies : MethodName := ⟨RX12, "copies", "([II[II)V"⟩
abbrev cX12_isRow : ByteArray := prog_14_method_9_code
def yX12_isRow : MethodName := ⟨RX12, "isRow", "(I)Z"⟩
abbrev cX12_isMissing : ByteArray := prog_14_method_10_code
def yX12_isMissing : MethodName := ⟨RX12, "isMissing", "(I)Z"⟩
abbrev cX12_cut : ByteArray := prog_14_method_11_code
def yX12_cut : MethodName := ⟨RX12, "cut", "(II)I"⟩
abbrev cX12_row : ByteArray := prog_14_method_12_code
def yX12_row : MethodName := ⟨RX12, "row", "(III)I"⟩
abbrev cX12_set : ByteArray := prog_14_method_13_code
def yX12_set : MethodName := ⟨RX12, "set", "(III)I"⟩
abbrev cX12_isPart : ByteArray := prog_14_method_14_code
def yX12_isPart : MethodName := ⟨RX12, "isPart", "(III)Z"⟩
abbrev cX12_copy : ByteArray := prog_14_method_15_code
def yX12_copy : MethodName := ⟨RX12, "copy", "(IIIII)I"⟩
abbrev cX12_drop : ByteArray := prog_14_method_16_code
def yX12_drop : MethodName := ⟨RX12, "drop", "(I)I"⟩
abbrev cX12_feed : ByteArray := prog_14_method_17_code
def yX12_feed : MethodName := ⟨RX12, "feed", "(I)I"⟩
abbrev cX12_byteAt : ByteArray := prog_14_method_18_code
def yX12_byteAt : MethodName := ⟨RX12, "byteAt", "(I)I"⟩
abbrev cX12_advances : ByteArray := prog_14_method_19_code
def yX12_advances : MethodName := ⟨RX12, "advances", "()V"⟩
abbrev cX12_isWell : ByteArray := prog_14_method_20_code
def yX12_isWell : MethodName := ⟨RX12, "isWell", "()Z"⟩
abbrev cX12_takes : ByteArray := prog_14_method_21_code
def yX12_takes : MethodName := ⟨RX12, "takes", "(ZI)I"⟩
abbrev cX12_figure : ByteArray := prog_14_method_22_code
def yX12_figure : MethodName := ⟨RX12, "figure", "(II)I"⟩
abbrev cX12_kindOf : ByteArray := prog_14_method_23_code
def yX12_kindOf : MethodName := ⟨RX12, "kindOf", "(I)I"⟩
abbrev cX12_next : ByteArray := prog_14_method_24_code
def yX12_next : MethodName := ⟨RX12, "next", "(II)I"⟩
abbrev cX12_readsPerson : ByteArray := prog_14_method_25_code
def yX12_readsPerson : MethodName := ⟨RX12, "readsPerson", "()V"⟩
abbrev cX12_house : ByteArray := prog_14_method_26_code
def yX12_house : MethodName := ⟨RX12, "house", "()I"⟩
abbrev cX12_fault : ByteArray := prog_14_method_27_code
def yX12_fault : MethodName := ⟨RX12, "fault", "()I"⟩
abbrev cX12_isHouse : ByteArray := prog_14_method_28_code
def yX12_isHouse : MethodName := ⟨RX12, "isHouse", "()Z"⟩
abbrev cX12_isPerson : ByteArray := prog_14_method_29_code
def yX12_isPerson : MethodName := ⟨RX12, "isPerson", "(I)Z"⟩
abbrev cX12_isFar : ByteArray := prog_14_method_30_code
def yX12_isFar : MethodName := ⟨RX12, "isFar", "(I)Z"⟩
abbrev cX12_mindsOf : ByteArray := prog_14_method_31_code
def yX12_mindsOf : MethodName := ⟨RX12, "mindsOf", "([III)I"⟩
abbrev cX12_rides : ByteArray := prog_14_method_32_code
def yX12_rides : MethodName := ⟨RX12, "rides", "([II)Z"⟩
abbrev cX12_envyOf : ByteArray := prog_14_method_33_code
def yX12_envyOf : MethodName := ⟨RX12, "envyOf", "([II)I"⟩
abbrev cX12_calls : ByteArray := prog_14_method_34_code
def yX12_calls : MethodName := ⟨RX12, "calls", "([I)I"⟩
abbrev cX12_nearer : ByteArray := prog_14_method_35_code
def yX12_nearer : MethodName := ⟨RX12, "nearer", "(II)I"⟩
abbrev cX12_passes : ByteArray := prog_14_method_36_code
def yX12_passes : MethodName := ⟨RX12, "passes", "([I)V"⟩
abbrev cX12_broughtIn : ByteArray := prog_14_method_37_code
def yX12_broughtIn : MethodName := ⟨RX12, "broughtIn", "([I)I"⟩
abbrev cX12_tries : ByteArray := prog_14_method_38_code
def yX12_tries : MethodName := ⟨RX12, "tries", "(I)V"⟩
abbrev cX12_broughtBy : ByteArray := prog_14_method_39_code
def yX12_broughtBy : MethodName := ⟨RX12, "broughtBy", "(II)I"⟩
abbrev cX12_notes : ByteArray := prog_14_method_40_code
def yX12_notes : MethodName := ⟨RX12, "notes", "()V"⟩
abbrev cX12_steps : ByteArray := prog_14_method_41_code
def yX12_steps : MethodName := ⟨RX12, "steps", "(I)I"⟩
abbrev cX12_show : ByteArray := prog_14_method_42_code
def yX12_show : MethodName := ⟨RX12, "show", "(II)I"⟩
abbrev cX12_walk : ByteArray := prog_14_method_43_code
def yX12_walk : MethodName := ⟨RX12, "walk", "(II)I"⟩
abbrev cX12_undo : ByteArray := prog_14_method_44_code
def yX12_undo : MethodName := ⟨RX12, "undo", "()I"⟩
abbrev cX12_person : ByteArray := prog_14_method_45_code
def yX12_person : MethodName := ⟨RX12, "person", "(II)I"⟩
abbrev cX12_minds : ByteArray := prog_14_method_46_code
def yX12_minds : MethodName := ⟨RX12, "minds", "(II)I"⟩
abbrev cX12_riderIn : ByteArray := prog_14_method_47_code
def yX12_riderIn : MethodName := ⟨RX12, "riderIn", "([I)I"⟩
abbrev cX12_car : ByteArray := prog_14_method_48_code
def yX12_car : MethodName := ⟨RX12, "car", "(I)I"⟩
abbrev cX12_ahead : ByteArray := prog_14_method_49_code
def yX12_ahead : MethodName := ⟨RX12, "ahead", "(II)I"⟩
abbrev cX12_when : ByteArray := prog_14_method_50_code
def yX12_when : MethodName := ⟨RX12, "when", "(I)I"⟩
abbrev cX12_first : ByteArray := prog_14_method_51_code
def yX12_first : MethodName := ⟨RX12, "first", "(I)I"⟩
abbrev cX12_never : ByteArray := prog_14_method_52_code
def yX12_never : MethodName := ⟨RX12, "never", "()I"⟩
abbrev cX12_least : ByteArray := prog_14_method_53_code
def yX12_least : MethodName := ⟨RX12, "least", "(II)I"⟩
abbrev cX12_hides : ByteArray := prog_14_method_54_code
def yX12_hides : MethodName := ⟨RX12, "hides", "(I)V"⟩
abbrev cX12_hide : ByteArray := prog_14_method_55_code
def yX12_hide : MethodName := ⟨RX12, "hide", "(I)I"⟩
abbrev cX12_beside : ByteArray := prog_14_method_56_code
def yX12_beside : MethodName := ⟨RX12, "beside", "(II)I"⟩
abbrev cX12_goesSo : ByteArray := prog_14_method_57_code
def yX12_goesSo : MethodName := ⟨RX12, "goesSo", "(II)Z"⟩
abbrev cX12_fits : ByteArray := prog_14_method_58_code
def yX12_fits : MethodName := ⟨RX12, "fits", "(IIIII)I"⟩
abbrev cX12_hidden : ByteArray := prog_14_method_59_code
def yX12_hidden : MethodName := ⟨RX12, "hidden", "(IIII)I"⟩
abbrev cX12_drawn : ByteArray := prog_14_method_60_code
def yX12_drawn : MethodName := ⟨RX12, "drawn", "(III)I"⟩
abbrev cX12_image : ByteArray := prog_14_method_61_code
def yX12_image : MethodName := ⟨RX12, "image", "(I)I"⟩
abbrev cX12_restore : ByteArray := prog_14_method_62_code
def yX12_restore : MethodName := ⟨RX12, "restore", "(I)I"⟩
abbrev cX12_kindIn : ByteArray := prog_14_method_63_code
def yX12_kindIn : MethodName := ⟨RX12, "kindIn", "(I)I"⟩
abbrev cX12_kind : ByteArray := prog_14_method_64_code
def yX12_kind : MethodName := ⟨RX12, "kind", "(I)I"⟩
abbrev cX12_as : ByteArray := prog_14_method_65_code
def yX12_as : MethodName := ⟨RX12, "as", "(II)I"⟩
abbrev cX12_begins : ByteArray := prog_14_method_66_code
def yX12_begins : MethodName := ⟨RX12, "begins", "(I)V"⟩
abbrev cX12_clerkMark : ByteArray := prog_14_method_67_code
def yX12_clerkMark : MethodName := ⟨RX12, "clerkMark", "(I)I"⟩
abbrev cX12_chiefSize : ByteArray := prog_14_method_68_code
def yX12_chiefSize : MethodName := ⟨RX12, "chiefSize", "(I)I"⟩
abbrev cX12_clerkSize : ByteArray := prog_14_method_69_code
def yX12_clerkSize : MethodName := ⟨RX12, "clerkSize", "(I)I"⟩
abbrev cX12_chiefMark : ByteArray := prog_14_method_70_code
def yX12_chiefMark : MethodName := ⟨RX12, "chiefMark", "(I)I"⟩
abbrev cX12_ask : ByteArray := prog_14_method_71_code
def yX12_ask : MethodName := ⟨RX12, "ask", "(II)I"⟩
abbrev cX12_trace : ByteArray := prog_14_method_72_code
def yX12_trace : MethodName := ⟨RX12, "trace", "(I)I"⟩
abbrev cX12_count : ByteArray := prog_14_method_73_code
def yX12_count : MethodName := ⟨RX12, "count", "(I)I"⟩
abbrev cX12_status : ByteArray := prog_14_method_74_code
def yX12_status : MethodName := ⟨RX12, "status", "()I"⟩
def RJ6 : String := "java/lang/Integer"
def TJ6 : u_T := fun k => match k with
  | _ => ("", "", "", false)
def tyJ6 : Nat → FieldType := fun k => match k with
  | _ => .int
theorem nmJ6 : ∀ a, a < 0 → ∀ b, b < 0 → a ≠ b → (TJ6 a).2.1 ≠ (TJ6 b).2.1 := by decide +kernel
theorem tyJ6_ok : ∀ k, k < 0 → parseFieldDescriptor (TJ6 k).2.2.1 = some (tyJ6 k) := by decide +kernel
abbrev cJ6_compare_7cf53 : ByteArray := prog_15_method_40_code
def yJ6_compare_7cf53 : MethodName := ⟨RJ6, "compare", "(II)I"⟩
abbrev cJ6_bitCount_0f7a4 : ByteArray := prog_15_method_49_code
def yJ6_bitCount_0f7a4 : MethodName := ⟨RJ6, "bitCount", "(I)I"⟩
def RJ9 : String := "java/lang/Math"
def TJ9 : u_T := fun k => match k with
  | _ => ("", "", "", false)
def tyJ9 : Nat → FieldType := fun k => match k with
  | _ => .int
theorem nmJ9 : ∀ a, a < 0 → ∀ b, b < 0 → a ≠ b → (TJ9 a).2.1 ≠ (TJ9 b).2.1 := by decide +kernel
theorem tyJ9_ok : ∀ k, k < 0 → parseFieldDescriptor (TJ9 k).2.2.1 = some (tyJ9 k) := by decide +kernel
abbrev cJ9_max_7cf53 : ByteArray := prog_16_method_65_code
def yJ9_max_7cf53 : MethodName := ⟨RJ9, "max", "(II)I"⟩
abbrev cJ9_min_7cf53 : ByteArray := prog_16_method_69_code
def yJ9_min_7cf53 : MethodName := ⟨RJ9, "min", "(II)I"⟩
def RJ10 : String := "java/lang/System"
def TJ10 : u_T := fun k => match k with
  | _ => ("", "", "", false)
def tyJ10 : Nat → FieldType := fun k => match k with
  | _ => .int
theorem nmJ10 : ∀ a, a < 0 → ∀ b, b < 0 → a ≠ b → (TJ10 a).2.1 ≠ (TJ10 b).2.1 := by decide +kernel
theorem tyJ10_ok : ∀ k, k < 0 → parseFieldDescriptor (TJ10 k).2.2.1 = some (tyJ10 k) := by decide +kernel
def RL : String := "LiftEnvyLaw"
abbrev cL_law : ByteArray := code
def yL_law : MethodName := ⟨RL, "law", "([I)Z"⟩
abbrev vwCl : List vw_C := [(RX0, TX0, 3), (RX1, TX1, 0), (RX2, TX2, 0), (RX3, TX3, 0), (RX4, TX4, 12), (RX5, TX5, 0), (RX7, TX7, 3), (RX8, TX8, 5), (RX9, TX9, 2), (RX10, TX10, 0), (RX11, TX11, 12), (RX12, TX12, 22)]
