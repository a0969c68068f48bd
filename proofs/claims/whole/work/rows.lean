section
/-- a private method of a class that the tables say can be made, by its rows of tables_1 -/
def lw_okq (q : MethodName × Nat) : Prop := (q.1.cls ≠ "java/lang/invoke/MethodHandle" ∧ q.1.cls ≠ "java/lang/invoke/VarHandle") ∧ Cond.instantiable q.1.cls q.2 ∈ tables_1 ∧ Cond.privateMethod q.1 ∈ tables_1 ∧ Cond.instanceMethod q.1 ∈ tables_1
theorem lw_p0 : lw_okq (⟨"LiftEnvy", "found", "(I)I"⟩, 12) := ⟨⟨by decide +kernel, by decide +kernel⟩, List.mem_of_getElem? (i := 18) (by decide +kernel), List.mem_of_getElem? (i := 259) (by decide +kernel), List.mem_of_getElem? (i := 260) (by decide +kernel)⟩
theorem lw_p1 : lw_okq (⟨"LiftEnvy", "unhindered", "(I)I"⟩, 12) := ⟨⟨by decide +kernel, by decide +kernel⟩, List.mem_of_getElem? (i := 18) (by decide +kernel), List.mem_of_getElem? (i := 268) (by decide +kernel), List.mem_of_getElem? (i := 269) (by decide +kernel)⟩
theorem lw_p2 : lw_okq (⟨"LiftEnvy$Tape", "tellsLaw", "(LLiftEnvy$House;)Z"⟩, 5) := ⟨⟨by decide +kernel, by decide +kernel⟩, List.mem_of_getElem? (i := 28) (by decide +kernel), List.mem_of_getElem? (i := 312) (by decide +kernel), List.mem_of_getElem? (i := 313) (by decide +kernel)⟩
theorem lw_p3 : lw_okq (⟨"LiftEnvy$Tape", "takesSign", "(C)Z"⟩, 5) := ⟨⟨by decide +kernel, by decide +kernel⟩, List.mem_of_getElem? (i := 28) (by decide +kernel), List.mem_of_getElem? (i := 316) (by decide +kernel), List.mem_of_getElem? (i := 317) (by decide +kernel)⟩
theorem lw_p4 : lw_okq (⟨"LiftEnvy$Tape", "refuses", "(I)Z"⟩, 5) := ⟨⟨by decide +kernel, by decide +kernel⟩, List.mem_of_getElem? (i := 28) (by decide +kernel), List.mem_of_getElem? (i := 320) (by decide +kernel), List.mem_of_getElem? (i := 321) (by decide +kernel)⟩
theorem lw_p5 : lw_okq (⟨"LiftEnvy$Tape", "takesNumber", "(II)Z"⟩, 5) := ⟨⟨by decide +kernel, by decide +kernel⟩, List.mem_of_getElem? (i := 28) (by decide +kernel), List.mem_of_getElem? (i := 324) (by decide +kernel), List.mem_of_getElem? (i := 325) (by decide +kernel)⟩
theorem lw_p6 : lw_okq (⟨"LiftEnvy$Tape", "tellsPerson", "(LLiftEnvy$House;I)Z"⟩, 5) := ⟨⟨by decide +kernel, by decide +kernel⟩, List.mem_of_getElem? (i := 28) (by decide +kernel), List.mem_of_getElem? (i := 335) (by decide +kernel), List.mem_of_getElem? (i := 336) (by decide +kernel)⟩
theorem lw_p7 : lw_okq (⟨"LiftEnvy$Tape", "sort", "()I"⟩, 5) := ⟨⟨by decide +kernel, by decide +kernel⟩, List.mem_of_getElem? (i := 28) (by decide +kernel), List.mem_of_getElem? (i := 339) (by decide +kernel), List.mem_of_getElem? (i := 340) (by decide +kernel)⟩
theorem lw_p8 : lw_okq (⟨"LiftEnvy$House", "carry", "()V"⟩, 12) := ⟨⟨by decide +kernel, by decide +kernel⟩, List.mem_of_getElem? (i := 55) (by decide +kernel), List.mem_of_getElem? (i := 374) (by decide +kernel), List.mem_of_getElem? (i := 375) (by decide +kernel)⟩
theorem lw_p9 : lw_okq (⟨"LiftEnvy", "isPerson", "(I)Z"⟩, 12) := ⟨⟨by decide +kernel, by decide +kernel⟩, List.mem_of_getElem? (i := 18) (by decide +kernel), List.mem_of_getElem? (i := 401) (by decide +kernel), List.mem_of_getElem? (i := 402) (by decide +kernel)⟩
theorem lw_p10 : lw_okq (⟨"LiftEnvy$House", "rests", "()Z"⟩, 12) := ⟨⟨by decide +kernel, by decide +kernel⟩, List.mem_of_getElem? (i := 55) (by decide +kernel), List.mem_of_getElem? (i := 449) (by decide +kernel), List.mem_of_getElem? (i := 450) (by decide +kernel)⟩
theorem lw_p11 : lw_okq (⟨"LiftEnvy", "worth", "(I)I"⟩, 12) := ⟨⟨by decide +kernel, by decide +kernel⟩, List.mem_of_getElem? (i := 18) (by decide +kernel), List.mem_of_getElem? (i := 478) (by decide +kernel), List.mem_of_getElem? (i := 479) (by decide +kernel)⟩
theorem lw_p12 : lw_okq (⟨"LiftEnvy", "fitting", "(IILLiftEnvy$Row;II)I"⟩, 12) := ⟨⟨by decide +kernel, by decide +kernel⟩, List.mem_of_getElem? (i := 18) (by decide +kernel), List.mem_of_getElem? (i := 501) (by decide +kernel), List.mem_of_getElem? (i := 502) (by decide +kernel)⟩
theorem lw_p13 : lw_okq (⟨"LiftEnvy", "isBroughtHiding", "(III)Z"⟩, 12) := ⟨⟨by decide +kernel, by decide +kernel⟩, List.mem_of_getElem? (i := 18) (by decide +kernel), List.mem_of_getElem? (i := 524) (by decide +kernel), List.mem_of_getElem? (i := 525) (by decide +kernel)⟩
theorem lw_p14 : lw_okq (⟨"LiftEnvy", "kindOf", "(I)LLiftEnvy$Person;"⟩, 12) := ⟨⟨by decide +kernel, by decide +kernel⟩, List.mem_of_getElem? (i := 18) (by decide +kernel), List.mem_of_getElem? (i := 562) (by decide +kernel), List.mem_of_getElem? (i := 563) (by decide +kernel)⟩
theorem lw_p15 : lw_okq (⟨"LiftEnvy", "rowsThere", "()I"⟩, 12) := ⟨⟨by decide +kernel, by decide +kernel⟩, List.mem_of_getElem? (i := 18) (by decide +kernel), List.mem_of_getElem? (i := 633) (by decide +kernel), List.mem_of_getElem? (i := 634) (by decide +kernel)⟩
def lw_privs_1 : List (MethodName × Nat) := [(⟨"LiftEnvy", "found", "(I)I"⟩, 12), (⟨"LiftEnvy", "unhindered", "(I)I"⟩, 12), (⟨"LiftEnvy$Tape", "tellsLaw", "(LLiftEnvy$House;)Z"⟩, 5), (⟨"LiftEnvy$Tape", "takesSign", "(C)Z"⟩, 5), (⟨"LiftEnvy$Tape", "refuses", "(I)Z"⟩, 5), (⟨"LiftEnvy$Tape", "takesNumber", "(II)Z"⟩, 5), (⟨"LiftEnvy$Tape", "tellsPerson", "(LLiftEnvy$House;I)Z"⟩, 5), (⟨"LiftEnvy$Tape", "sort", "()I"⟩, 5), (⟨"LiftEnvy$House", "carry", "()V"⟩, 12), (⟨"LiftEnvy", "isPerson", "(I)Z"⟩, 12), (⟨"LiftEnvy$House", "rests", "()Z"⟩, 12), (⟨"LiftEnvy", "worth", "(I)I"⟩, 12), (⟨"LiftEnvy", "fitting", "(IILLiftEnvy$Row;II)I"⟩, 12), (⟨"LiftEnvy", "isBroughtHiding", "(III)Z"⟩, 12), (⟨"LiftEnvy", "kindOf", "(I)LLiftEnvy$Person;"⟩, 12), (⟨"LiftEnvy", "rowsThere", "()I"⟩, 12)]
theorem lw_r1 : ∀ q ∈ lw_privs_1, lw_okq q := List.forall_mem_cons.mpr ⟨lw_p0, List.forall_mem_cons.mpr ⟨lw_p1, List.forall_mem_cons.mpr ⟨lw_p2, List.forall_mem_cons.mpr ⟨lw_p3, List.forall_mem_cons.mpr ⟨lw_p4, List.forall_mem_cons.mpr ⟨lw_p5, List.forall_mem_cons.mpr ⟨lw_p6, List.forall_mem_cons.mpr ⟨lw_p7, List.forall_mem_cons.mpr ⟨lw_p8, List.forall_mem_cons.mpr ⟨lw_p9, List.forall_mem_cons.mpr ⟨lw_p10, List.forall_mem_cons.mpr ⟨lw_p11, List.forall_mem_cons.mpr ⟨lw_p12, List.forall_mem_cons.mpr ⟨lw_p13, List.forall_mem_cons.mpr ⟨lw_p14, List.forall_mem_cons.mpr ⟨lw_p15, fun _ h => absurd h List.not_mem_nil⟩⟩⟩⟩⟩⟩⟩⟩⟩⟩⟩⟩⟩⟩⟩⟩
theorem lw_p16 : lw_okq (⟨"LiftEnvyModel", "found", "(I)I"⟩, 22) := ⟨⟨by decide +kernel, by decide +kernel⟩, List.mem_of_getElem? (i := 641) (by decide +kernel), List.mem_of_getElem? (i := 726) (by decide +kernel), List.mem_of_getElem? (i := 727) (by decide +kernel)⟩
theorem lw_p17 : lw_okq (⟨"LiftEnvyModel", "well", "(I)I"⟩, 22) := ⟨⟨by decide +kernel, by decide +kernel⟩, List.mem_of_getElem? (i := 641) (by decide +kernel), List.mem_of_getElem? (i := 731) (by decide +kernel), List.mem_of_getElem? (i := 732) (by decide +kernel)⟩
theorem lw_p18 : lw_okq (⟨"LiftEnvyModel", "isMissing", "(I)Z"⟩, 22) := ⟨⟨by decide +kernel, by decide +kernel⟩, List.mem_of_getElem? (i := 641) (by decide +kernel), List.mem_of_getElem? (i := 739) (by decide +kernel), List.mem_of_getElem? (i := 740) (by decide +kernel)⟩
theorem lw_p19 : lw_okq (⟨"LiftEnvyModel", "isPart", "(III)Z"⟩, 22) := ⟨⟨by decide +kernel, by decide +kernel⟩, List.mem_of_getElem? (i := 641) (by decide +kernel), List.mem_of_getElem? (i := 750) (by decide +kernel), List.mem_of_getElem? (i := 751) (by decide +kernel)⟩
theorem lw_p20 : lw_okq (⟨"LiftEnvyModel", "advances", "()V"⟩, 22) := ⟨⟨by decide +kernel, by decide +kernel⟩, List.mem_of_getElem? (i := 641) (by decide +kernel), List.mem_of_getElem? (i := 767) (by decide +kernel), List.mem_of_getElem? (i := 768) (by decide +kernel)⟩
theorem lw_p21 : lw_okq (⟨"LiftEnvyModel", "byteAt", "(I)I"⟩, 22) := ⟨⟨by decide +kernel, by decide +kernel⟩, List.mem_of_getElem? (i := 641) (by decide +kernel), List.mem_of_getElem? (i := 771) (by decide +kernel), List.mem_of_getElem? (i := 772) (by decide +kernel)⟩
theorem lw_p22 : lw_okq (⟨"LiftEnvyModel", "takes", "(ZI)I"⟩, 22) := ⟨⟨by decide +kernel, by decide +kernel⟩, List.mem_of_getElem? (i := 641) (by decide +kernel), List.mem_of_getElem? (i := 775) (by decide +kernel), List.mem_of_getElem? (i := 776) (by decide +kernel)⟩
theorem lw_p23 : lw_okq (⟨"LiftEnvyModel", "isWell", "()Z"⟩, 22) := ⟨⟨by decide +kernel, by decide +kernel⟩, List.mem_of_getElem? (i := 641) (by decide +kernel), List.mem_of_getElem? (i := 779) (by decide +kernel), List.mem_of_getElem? (i := 780) (by decide +kernel)⟩
theorem lw_p24 : lw_okq (⟨"LiftEnvyModel", "figure", "(II)I"⟩, 22) := ⟨⟨by decide +kernel, by decide +kernel⟩, List.mem_of_getElem? (i := 641) (by decide +kernel), List.mem_of_getElem? (i := 783) (by decide +kernel), List.mem_of_getElem? (i := 784) (by decide +kernel)⟩
theorem lw_p25 : lw_okq (⟨"LiftEnvyModel", "next", "(II)I"⟩, 22) := ⟨⟨by decide +kernel, by decide +kernel⟩, List.mem_of_getElem? (i := 641) (by decide +kernel), List.mem_of_getElem? (i := 787) (by decide +kernel), List.mem_of_getElem? (i := 788) (by decide +kernel)⟩
theorem lw_p26 : lw_okq (⟨"LiftEnvyModel", "readsPerson", "()V"⟩, 22) := ⟨⟨by decide +kernel, by decide +kernel⟩, List.mem_of_getElem? (i := 641) (by decide +kernel), List.mem_of_getElem? (i := 794) (by decide +kernel), List.mem_of_getElem? (i := 795) (by decide +kernel)⟩
theorem lw_p27 : lw_okq (⟨"LiftEnvyModel", "isHouse", "()Z"⟩, 22) := ⟨⟨by decide +kernel, by decide +kernel⟩, List.mem_of_getElem? (i := 641) (by decide +kernel), List.mem_of_getElem? (i := 810) (by decide +kernel), List.mem_of_getElem? (i := 811) (by decide +kernel)⟩
theorem lw_p28 : lw_okq (⟨"LiftEnvyModel", "notes", "()V"⟩, 22) := ⟨⟨by decide +kernel, by decide +kernel⟩, List.mem_of_getElem? (i := 641) (by decide +kernel), List.mem_of_getElem? (i := 815) (by decide +kernel), List.mem_of_getElem? (i := 816) (by decide +kernel)⟩
theorem lw_p29 : lw_okq (⟨"LiftEnvyModel", "isPerson", "(I)Z"⟩, 22) := ⟨⟨by decide +kernel, by decide +kernel⟩, List.mem_of_getElem? (i := 641) (by decide +kernel), List.mem_of_getElem? (i := 841) (by decide +kernel), List.mem_of_getElem? (i := 842) (by decide +kernel)⟩
theorem lw_p30 : lw_okq (⟨"LiftEnvyModel", "tries", "(I)V"⟩, 22) := ⟨⟨by decide +kernel, by decide +kernel⟩, List.mem_of_getElem? (i := 641) (by decide +kernel), List.mem_of_getElem? (i := 878) (by decide +kernel), List.mem_of_getElem? (i := 879) (by decide +kernel)⟩
theorem lw_p31 : lw_okq (⟨"LiftEnvyModel", "broughtBy", "(II)I"⟩, 22) := ⟨⟨by decide +kernel, by decide +kernel⟩, List.mem_of_getElem? (i := 641) (by decide +kernel), List.mem_of_getElem? (i := 886) (by decide +kernel), List.mem_of_getElem? (i := 887) (by decide +kernel)⟩
def lw_privs_2 : List (MethodName × Nat) := [(⟨"LiftEnvyModel", "found", "(I)I"⟩, 22), (⟨"LiftEnvyModel", "well", "(I)I"⟩, 22), (⟨"LiftEnvyModel", "isMissing", "(I)Z"⟩, 22), (⟨"LiftEnvyModel", "isPart", "(III)Z"⟩, 22), (⟨"LiftEnvyModel", "advances", "()V"⟩, 22), (⟨"LiftEnvyModel", "byteAt", "(I)I"⟩, 22), (⟨"LiftEnvyModel", "takes", "(ZI)I"⟩, 22), (⟨"LiftEnvyModel", "isWell", "()Z"⟩, 22), (⟨"LiftEnvyModel", "figure", "(II)I"⟩, 22), (⟨"LiftEnvyModel", "next", "(II)I"⟩, 22), (⟨"LiftEnvyModel", "readsPerson", "()V"⟩, 22), (⟨"LiftEnvyModel", "isHouse", "()Z"⟩, 22), (⟨"LiftEnvyModel", "notes", "()V"⟩, 22), (⟨"LiftEnvyModel", "isPerson", "(I)Z"⟩, 22), (⟨"LiftEnvyModel", "tries", "(I)V"⟩, 22), (⟨"LiftEnvyModel", "broughtBy", "(II)I"⟩, 22)]
theorem lw_r2 : ∀ q ∈ lw_privs_2, lw_okq q := List.forall_mem_cons.mpr ⟨lw_p16, List.forall_mem_cons.mpr ⟨lw_p17, List.forall_mem_cons.mpr ⟨lw_p18, List.forall_mem_cons.mpr ⟨lw_p19, List.forall_mem_cons.mpr ⟨lw_p20, List.forall_mem_cons.mpr ⟨lw_p21, List.forall_mem_cons.mpr ⟨lw_p22, List.forall_mem_cons.mpr ⟨lw_p23, List.forall_mem_cons.mpr ⟨lw_p24, List.forall_mem_cons.mpr ⟨lw_p25, List.forall_mem_cons.mpr ⟨lw_p26, List.forall_mem_cons.mpr ⟨lw_p27, List.forall_mem_cons.mpr ⟨lw_p28, List.forall_mem_cons.mpr ⟨lw_p29, List.forall_mem_cons.mpr ⟨lw_p30, List.forall_mem_cons.mpr ⟨lw_p31, fun _ h => absurd h List.not_mem_nil⟩⟩⟩⟩⟩⟩⟩⟩⟩⟩⟩⟩⟩⟩⟩⟩
theorem lw_p32 : lw_okq (⟨"LiftEnvyModel", "hides", "(I)V"⟩, 22) := ⟨⟨by decide +kernel, by decide +kernel⟩, List.mem_of_getElem? (i := 641) (by decide +kernel), List.mem_of_getElem? (i := 909) (by decide +kernel), List.mem_of_getElem? (i := 910) (by decide +kernel)⟩
theorem lw_p33 : lw_okq (⟨"LiftEnvyModel", "goesSo", "(II)Z"⟩, 22) := ⟨⟨by decide +kernel, by decide +kernel⟩, List.mem_of_getElem? (i := 641) (by decide +kernel), List.mem_of_getElem? (i := 924) (by decide +kernel), List.mem_of_getElem? (i := 925) (by decide +kernel)⟩
theorem lw_p34 : lw_okq (⟨"LiftEnvyModel", "kindIn", "(I)I"⟩, 22) := ⟨⟨by decide +kernel, by decide +kernel⟩, List.mem_of_getElem? (i := 641) (by decide +kernel), List.mem_of_getElem? (i := 952) (by decide +kernel), List.mem_of_getElem? (i := 953) (by decide +kernel)⟩
theorem lw_p35 : lw_okq (⟨"LiftEnvyModel", "chiefSize", "(I)I"⟩, 22) := ⟨⟨by decide +kernel, by decide +kernel⟩, List.mem_of_getElem? (i := 641) (by decide +kernel), List.mem_of_getElem? (i := 964) (by decide +kernel), List.mem_of_getElem? (i := 965) (by decide +kernel)⟩
theorem lw_p36 : lw_okq (⟨"LiftEnvyModel", "begins", "(I)V"⟩, 22) := ⟨⟨by decide +kernel, by decide +kernel⟩, List.mem_of_getElem? (i := 641) (by decide +kernel), List.mem_of_getElem? (i := 968) (by decide +kernel), List.mem_of_getElem? (i := 969) (by decide +kernel)⟩
theorem lw_p37 : lw_okq (⟨"LiftEnvyModel", "clerkSize", "(I)I"⟩, 22) := ⟨⟨by decide +kernel, by decide +kernel⟩, List.mem_of_getElem? (i := 641) (by decide +kernel), List.mem_of_getElem? (i := 972) (by decide +kernel), List.mem_of_getElem? (i := 973) (by decide +kernel)⟩
theorem lw_p38 : lw_okq (⟨"LiftEnvyModel", "clerkMark", "(I)I"⟩, 22) := ⟨⟨by decide +kernel, by decide +kernel⟩, List.mem_of_getElem? (i := 641) (by decide +kernel), List.mem_of_getElem? (i := 976) (by decide +kernel), List.mem_of_getElem? (i := 977) (by decide +kernel)⟩
theorem lw_p39 : lw_okq (⟨"LiftEnvyModel", "chiefMark", "(I)I"⟩, 22) := ⟨⟨by decide +kernel, by decide +kernel⟩, List.mem_of_getElem? (i := 641) (by decide +kernel), List.mem_of_getElem? (i := 980) (by decide +kernel), List.mem_of_getElem? (i := 981) (by decide +kernel)⟩
def lw_privs_3 : List (MethodName × Nat) := [(⟨"LiftEnvyModel", "hides", "(I)V"⟩, 22), (⟨"LiftEnvyModel", "goesSo", "(II)Z"⟩, 22), (⟨"LiftEnvyModel", "kindIn", "(I)I"⟩, 22), (⟨"LiftEnvyModel", "chiefSize", "(I)I"⟩, 22), (⟨"LiftEnvyModel", "begins", "(I)V"⟩, 22), (⟨"LiftEnvyModel", "clerkSize", "(I)I"⟩, 22), (⟨"LiftEnvyModel", "clerkMark", "(I)I"⟩, 22), (⟨"LiftEnvyModel", "chiefMark", "(I)I"⟩, 22)]
theorem lw_r3 : ∀ q ∈ lw_privs_3, lw_okq q := List.forall_mem_cons.mpr ⟨lw_p32, List.forall_mem_cons.mpr ⟨lw_p33, List.forall_mem_cons.mpr ⟨lw_p34, List.forall_mem_cons.mpr ⟨lw_p35, List.forall_mem_cons.mpr ⟨lw_p36, List.forall_mem_cons.mpr ⟨lw_p37, List.forall_mem_cons.mpr ⟨lw_p38, List.forall_mem_cons.mpr ⟨lw_p39, fun _ h => absurd h List.not_mem_nil⟩⟩⟩⟩⟩⟩⟩⟩
def lw_privs : List (MethodName × Nat) := lw_privs_1 ++ (lw_privs_2 ++ (lw_privs_3))
def lw_tbl : List Cond := k2_sels lw_privs ++ tables_1
theorem lw_privs_ok : ∀ q ∈ lw_privs, lw_okq q := by
  show ∀ q ∈ lw_privs_1 ++ (lw_privs_2 ++ (lw_privs_3)), lw_okq q
  exact List.forall_mem_append.mpr ⟨lw_r1, List.forall_mem_append.mpr ⟨lw_r2, lw_r3⟩⟩
def tG : List Cond := lw_tbl.filter goodWord
theorem tG_in {w : Cond} (h : w ∈ tG) : w ∈ lw_tbl := (List.mem_filter.mp h).1
theorem tG_mk {w : Cond} (i : Nat) (h : lw_tbl[i]? = some w) (g : goodWord w = true) : w ∈ tG := List.mem_filter.mpr ⟨List.mem_of_getElem? h, g⟩
theorem tG_good {c : Cond} (hc : c ∈ tG) : GoodIn tG (c :: tG) := by
  intro w hw
  have h : w ∈ tG := by
    rcases List.mem_cons.mp hw with e | e
    · rw [e]; exact hc
    · exact e
  exact ⟨h, good_of_word (List.mem_filter.mp h).2⟩
def RX0 : String := "LiftEnvy$Acts"
def TX0 : u_T := fun k => match k with
  | 0 => ("LiftEnvy$Acts", "before", "[LLiftEnvy$House;", true)
  | 1 => ("LiftEnvy$Acts", "next", "I", false)
  | _ => ("LiftEnvy$Acts", "number", "I", false)
def tyX0 : Nat → FieldType := fun k => match k with
  | 0 => .array (.object "LiftEnvy$House")
  | 1 => .int
  | _ => .int
theorem nmX0 : ∀ a, a < 3 → ∀ b, b < 3 → a ≠ b → (TX0 a).2.1 ≠ (TX0 b).2.1 := by decide +kernel
theorem tyX0_ok : ∀ k, k < 3 → parseFieldDescriptor (TX0 k).2.2.1 = some (tyX0 k) := by decide +kernel
abbrev cX0_init : ByteArray := prog_2_method_1_code
def yX0_init : MethodName := ⟨RX0, "<init>", "()V"⟩
abbrev cX0_forget : ByteArray := prog_2_method_2_code
def yX0_forget : MethodName := ⟨RX0, "forget", "()V"⟩
abbrev cX0_keep : ByteArray := prog_2_method_3_code
def yX0_keep : MethodName := ⟨RX0, "keep", "(LLiftEnvy$House;)V"⟩
abbrev cX0_takeBack : ByteArray := prog_2_method_4_code
def yX0_takeBack : MethodName := ⟨RX0, "takeBack", "(LLiftEnvy$House;)V"⟩
def RX1 : String := "LiftEnvy$Chief"
def TX1 : u_T := fun k => match k with
  | _ => ("", "", "", false)
def tyX1 : Nat → FieldType := fun k => match k with
  | _ => .int
theorem nmX1 : ∀ a, a < 0 → ∀ b, b < 0 → a ≠ b → (TX1 a).2.1 ≠ (TX1 b).2.1 := by decide +kernel
theorem tyX1_ok : ∀ k, k < 0 → parseFieldDescriptor (TX1 k).2.2.1 = some (tyX1 k) := by decide +kernel
abbrev cX1_init : ByteArray := prog_3_method_1_code
def yX1_init : MethodName := ⟨RX1, "<init>", "()V"⟩
abbrev cX1_size : ByteArray := prog_3_method_2_code
def yX1_size : MethodName := ⟨RX1, "size", "(LLiftEnvy$House;ILLiftEnvy$Trace;)I"⟩
abbrev cX1_mark : ByteArray := prog_3_method_3_code
def yX1_mark : MethodName := ⟨RX1, "mark", "(LLiftEnvy$House;ILLiftEnvy$Trace;)I"⟩
def RX2 : String := "LiftEnvy$Clerk"
def TX2 : u_T := fun k => match k with
  | _ => ("", "", "", false)
def tyX2 : Nat → FieldType := fun k => match k with
  | _ => .int
theorem nmX2 : ∀ a, a < 0 → ∀ b, b < 0 → a ≠ b → (TX2 a).2.1 ≠ (TX2 b).2.1 := by decide +kernel
theorem tyX2_ok : ∀ k, k < 0 → parseFieldDescriptor (TX2 k).2.2.1 = some (tyX2 k) := by decide +kernel
abbrev cX2_init : ByteArray := prog_4_method_1_code
def yX2_init : MethodName := ⟨RX2, "<init>", "()V"⟩
abbrev cX2_size : ByteArray := prog_4_method_2_code
def yX2_size : MethodName := ⟨RX2, "size", "(LLiftEnvy$House;ILLiftEnvy$Trace;)I"⟩
abbrev cX2_mark : ByteArray := prog_4_method_3_code
def yX2_mark : MethodName := ⟨RX2, "mark", "(LLiftEnvy$House;ILLiftEnvy$Trace;)I"⟩
def RX3 : String := "LiftEnvy$Heir"
def TX3 : u_T := fun k => match k with
  | _ => ("", "", "", false)
def tyX3 : Nat → FieldType := fun k => match k with
  | _ => .int
theorem nmX3 : ∀ a, a < 0 → ∀ b, b < 0 → a ≠ b → (TX3 a).2.1 ≠ (TX3 b).2.1 := by decide +kernel
theorem tyX3_ok : ∀ k, k < 0 → parseFieldDescriptor (TX3 k).2.2.1 = some (tyX3 k) := by decide +kernel
abbrev cX3_init : ByteArray := prog_5_method_1_code
def yX3_init : MethodName := ⟨RX3, "<init>", "()V"⟩
abbrev cX3_size : ByteArray := prog_5_method_2_code
def yX3_size : MethodName := ⟨RX3, "size", "(LLiftEnvy$House;ILLiftEnvy$Trace;)I"⟩
def RX4 : String := "LiftEnvy$House"
def TX4 : u_T := fun k => match k with
  | 0 => ("LiftEnvy$House", "kind", "[I", true)
  | 1 => ("LiftEnvy$House", "floor", "[I", true)
  | 2 => ("LiftEnvy$House", "wants", "[I", true)
  | 3 => ("LiftEnvy$House", "shows", "[I", true)
  | 4 => ("LiftEnvy$House", "temper", "[I", true)
  | 5 => ("LiftEnvy$House", "people", "I", false)
  | 6 => ("LiftEnvy$House", "top", "I", false)
  | 7 => ("LiftEnvy$House", "car", "I", false)
  | 8 => ("LiftEnvy$House", "rider", "I", false)
  | 9 => ("LiftEnvy$House", "brought", "I", false)
  | 10 => ("LiftEnvy$House", "step", "I", false)
  | _ => ("LiftEnvy$House", "goal", "I", false)
def tyX4 : Nat → FieldType := fun k => match k with
  | 0 => .array .int
  | 1 => .array .int
  | 2 => .array .int
  | 3 => .array .int
  | 4 => .array .int
  | 5 => .int
  | 6 => .int
  | 7 => .int
  | 8 => .int
  | 9 => .int
  | 10 => .int
  | _ => .int
theorem nmX4 : ∀ a, a < 12 → ∀ b, b < 12 → a ≠ b → (TX4 a).2.1 ≠ (TX4 b).2.1 := by decide +kernel
theorem tyX4_ok : ∀ k, k < 12 → parseFieldDescriptor (TX4 k).2.2.1 = some (tyX4 k) := by decide +kernel
abbrev cX4_init : ByteArray := prog_6_method_1_code
def yX4_init : MethodName := ⟨RX4, "<init>", "()V"⟩
abbrev cX4_begin : ByteArray := prog_6_method_2_code
def yX4_begin : MethodName := ⟨RX4, "begin", "(II)V"⟩
abbrev cX4_become : ByteArray := prog_6_method_3_code
def yX4_become : MethodName := ⟨RX4, "become", "(LLiftEnvy$House;)V"⟩
abbrev cX4_put : ByteArray := prog_6_method_4_code
def yX4_put : MethodName := ⟨RX4, "put", "(III)V"⟩
abbrev cX4_mostOf : ByteArray := prog_6_method_5_code
def yX4_mostOf : MethodName := ⟨RX4, "mostOf", "(I)I"⟩
abbrev cX4_conceal : ByteArray := prog_6_method_6_code
def yX4_conceal : MethodName := ⟨RX4, "conceal", "(I)V"⟩
abbrev cX4_showing : ByteArray := prog_6_method_7_code
def yX4_showing : MethodName := ⟨RX4, "showing", "()I"⟩
abbrev cX4_isBrought : ByteArray := prog_6_method_8_code
def yX4_isBrought : MethodName := ⟨RX4, "isBrought", "(I)Z"⟩
abbrev cX4_minding : ByteArray := prog_6_method_9_code
def yX4_minding : MethodName := ⟨RX4, "minding", "(II)I"⟩
abbrev cX4_envy : ByteArray := prog_6_method_10_code
def yX4_envy : MethodName := ⟨RX4, "envy", "(I)I"⟩
abbrev cX4_goal : ByteArray := prog_6_method_11_code
def yX4_goal : MethodName := ⟨RX4, "goal", "()I"⟩
abbrev cX4_advance : ByteArray := prog_6_method_12_code
def yX4_advance : MethodName := ⟨RX4, "advance", "()V"⟩
abbrev cX4_carry : ByteArray := prog_6_method_13_code
def yX4_carry : MethodName := ⟨RX4, "carry", "()V"⟩
abbrev cX4_rests : ByteArray := prog_6_method_14_code
def yX4_rests : MethodName := ⟨RX4, "rests", "()Z"⟩
abbrev cX4_lastWithin : ByteArray := prog_6_method_15_code
def yX4_lastWithin : MethodName := ⟨RX4, "lastWithin", "(I)I"⟩
abbrev cX4_until : ByteArray := prog_6_method_16_code
def yX4_until : MethodName := ⟨RX4, "until", "(II)I"⟩
abbrev cX4_goesAs : ByteArray := prog_6_method_17_code
def yX4_goesAs : MethodName := ⟨RX4, "goesAs", "([III)Z"⟩
abbrev cX4_stray : ByteArray := prog_6_method_18_code
def yX4_stray : MethodName := ⟨RX4, "stray", "(J)V"⟩
def RX5 : String := "LiftEnvy$Meek"
def TX5 : u_T := fun k => match k with
  | _ => ("", "", "", false)
def tyX5 : Nat → FieldType := fun k => match k with
  | _ => .int
theorem nmX5 : ∀ a, a < 0 → ∀ b, b < 0 → a ≠ b → (TX5 a).2.1 ≠ (TX5 b).2.1 := by decide +kernel
theorem tyX5_ok : ∀ k, k < 0 → parseFieldDescriptor (TX5 k).2.2.1 = some (tyX5 k) := by decide +kernel
abbrev cX5_init : ByteArray := prog_7_method_1_code
def yX5_init : MethodName := ⟨RX5, "<init>", "()V"⟩
abbrev cX5_mark : ByteArray := prog_7_method_2_code
def yX5_mark : MethodName := ⟨RX5, "mark", "(LLiftEnvy$House;ILLiftEnvy$Trace;)I"⟩
def RX6 : String := "LiftEnvy$Person"
def TX6 : u_T := fun k => match k with
  | _ => ("", "", "", false)
def tyX6 : Nat → FieldType := fun k => match k with
  | _ => .int
theorem nmX6 : ∀ a, a < 0 → ∀ b, b < 0 → a ≠ b → (TX6 a).2.1 ≠ (TX6 b).2.1 := by decide +kernel
theorem tyX6_ok : ∀ k, k < 0 → parseFieldDescriptor (TX6 k).2.2.1 = some (tyX6 k) := by decide +kernel
abbrev cX6_init : ByteArray := prog_8_method_1_code
def yX6_init : MethodName := ⟨RX6, "<init>", "()V"⟩
abbrev cX6_size : ByteArray := prog_8_method_2_code
def yX6_size : MethodName := ⟨RX6, "size", "(LLiftEnvy$House;ILLiftEnvy$Trace;)I"⟩
abbrev cX6_mark : ByteArray := prog_8_method_3_code
def yX6_mark : MethodName := ⟨RX6, "mark", "(LLiftEnvy$House;ILLiftEnvy$Trace;)I"⟩
def RX7 : String := "LiftEnvy$Row"
def TX7 : u_T := fun k => match k with
  | 0 => ("LiftEnvy$Row", "items", "[I", true)
  | 1 => ("LiftEnvy$Row", "lane", "I", false)
  | _ => ("LiftEnvy$Row", "length", "I", false)
def tyX7 : Nat → FieldType := fun k => match k with
  | 0 => .array .int
  | 1 => .int
  | _ => .int
theorem nmX7 : ∀ a, a < 3 → ∀ b, b < 3 → a ≠ b → (TX7 a).2.1 ≠ (TX7 b).2.1 := by decide +kernel
theorem tyX7_ok : ∀ k, k < 3 → parseFieldDescriptor (TX7 k).2.2.1 = some (tyX7 k) := by decide +kernel
abbrev cX7_init : ByteArray := prog_9_method_1_code
def yX7_init : MethodName := ⟨RX7, "<init>", "()V"⟩
abbrev cX7_isMissing : ByteArray := prog_9_method_2_code
def yX7_isMissing : MethodName := ⟨RX7, "isMissing", "()Z"⟩
abbrev cX7_become : ByteArray := prog_9_method_3_code
def yX7_become : MethodName := ⟨RX7, "become", "(II)V"⟩
abbrev cX7_holds : ByteArray := prog_9_method_4_code
def yX7_holds : MethodName := ⟨RX7, "holds", "(II)Z"⟩
abbrev cX7_cut : ByteArray := prog_9_method_5_code
def yX7_cut : MethodName := ⟨RX7, "cut", "(I)I"⟩
def RX8 : String := "LiftEnvy$Tape"
def TX8 : u_T := fun k => match k with
  | 0 => ("LiftEnvy$Tape", "bytes", "[I", true)
  | 1 => ("LiftEnvy$Tape", "length", "I", false)
  | 2 => ("LiftEnvy$Tape", "place", "I", false)
  | 3 => ("LiftEnvy$Tape", "fault", "I", false)
  | _ => ("LiftEnvy$Tape", "number", "I", false)
def tyX8 : Nat → FieldType := fun k => match k with
  | 0 => .array .int
  | 1 => .int
  | 2 => .int
  | 3 => .int
  | _ => .int
theorem nmX8 : ∀ a, a < 5 → ∀ b, b < 5 → a ≠ b → (TX8 a).2.1 ≠ (TX8 b).2.1 := by decide +kernel
theorem tyX8_ok : ∀ k, k < 5 → parseFieldDescriptor (TX8 k).2.2.1 = some (tyX8 k) := by decide +kernel
abbrev cX8_init : ByteArray := prog_10_method_1_code
def yX8_init : MethodName := ⟨RX8, "<init>", "()V"⟩
abbrev cX8_tellsHouse : ByteArray := prog_10_method_2_code
def yX8_tellsHouse : MethodName := ⟨RX8, "tellsHouse", "(LLiftEnvy$House;)Z"⟩
abbrev cX8_tellsLaw : ByteArray := prog_10_method_3_code
def yX8_tellsLaw : MethodName := ⟨RX8, "tellsLaw", "(LLiftEnvy$House;)Z"⟩
abbrev cX8_tellsPerson : ByteArray := prog_10_method_4_code
def yX8_tellsPerson : MethodName := ⟨RX8, "tellsPerson", "(LLiftEnvy$House;I)Z"⟩
abbrev cX8_sort : ByteArray := prog_10_method_5_code
def yX8_sort : MethodName := ⟨RX8, "sort", "()I"⟩
abbrev cX8_takesSign : ByteArray := prog_10_method_6_code
def yX8_takesSign : MethodName := ⟨RX8, "takesSign", "(C)Z"⟩
abbrev cX8_takesNumber : ByteArray := prog_10_method_7_code
def yX8_takesNumber : MethodName := ⟨RX8, "takesNumber", "(II)Z"⟩
abbrev cX8_isFigure : ByteArray := prog_10_method_8_code
def yX8_isFigure : MethodName := ⟨RX8, "isFigure", "(I)Z"⟩
abbrev cX8_refuses : ByteArray := prog_10_method_9_code
def yX8_refuses : MethodName := ⟨RX8, "refuses", "(I)Z"⟩
def RX9 : String := "LiftEnvy$Trace"
def TX9 : u_T := fun k => match k with
  | 0 => ("LiftEnvy$Trace", "bodies", "[I", true)
  | _ => ("LiftEnvy$Trace", "length", "I", false)
def tyX9 : Nat → FieldType := fun k => match k with
  | 0 => .array .int
  | _ => .int
theorem nmX9 : ∀ a, a < 2 → ∀ b, b < 2 → a ≠ b → (TX9 a).2.1 ≠ (TX9 b).2.1 := by decide +kernel
theorem tyX9_ok : ∀ k, k < 2 → parseFieldDescriptor (TX9 k).2.2.1 = some (tyX9 k) := by decide +kernel
abbrev cX9_init : ByteArray := prog_11_method_1_code
def yX9_init : MethodName := ⟨RX9, "<init>", "()V"⟩
abbrev cX9_leave : ByteArray := prog_11_method_2_code
def yX9_leave : MethodName := ⟨RX9, "leave", "(I)V"⟩
def RX10 : String := "LiftEnvy$Vain"
def TX10 : u_T := fun k => match k with
  | _ => ("", "", "", false)
def tyX10 : Nat → FieldType := fun k => match k with
  | _ => .int
theorem nmX10 : ∀ a, a < 0 → ∀ b, b < 0 → a ≠ b → (TX10 a).2.1 ≠ (TX10 b).2.1 := by decide +kernel
theorem tyX10_ok : ∀ k, k < 0 → parseFieldDescriptor (TX10 k).2.2.1 = some (tyX10 k) := by decide +kernel
abbrev cX10_init : ByteArray := prog_12_method_1_code
def yX10_init : MethodName := ⟨RX10, "<init>", "()V"⟩
abbrev cX10_size : ByteArray := prog_12_method_2_code
def yX10_size : MethodName := ⟨RX10, "size", "(LLiftEnvy$House;ILLiftEnvy$Trace;)I"⟩
abbrev cX10_mark : ByteArray := prog_12_method_3_code
def yX10_mark : MethodName := ⟨RX10, "mark", "(LLiftEnvy$House;ILLiftEnvy$Trace;)I"⟩
def RX11 : String := "LiftEnvy"
def TX11 : u_T := fun k => match k with
  | 0 => ("LiftEnvy", "rows", "[LLiftEnvy$Row;", true)
  | 1 => ("LiftEnvy", "tape", "LLiftEnvy$Tape;", true)
  | 2 => ("LiftEnvy", "now", "LLiftEnvy$House;", true)
  | 3 => ("LiftEnvy", "supposed", "LLiftEnvy$House;", true)
  | 4 => ("LiftEnvy", "images", "[LLiftEnvy$House;", true)
  | 5 => ("LiftEnvy", "kept", "[Z", true)
  | 6 => ("LiftEnvy", "acts", "LLiftEnvy$Acts;", true)
  | 7 => ("LiftEnvy", "kinds", "[LLiftEnvy$Person;", true)
  | 8 => ("LiftEnvy", "left", "LLiftEnvy$Trace;", true)
  | 9 => ("LiftEnvy", "housed", "Z", false)
  | 10 => ("LiftEnvy", "latestFault", "I", false)
  | _ => ("LiftEnvy", "finding", "I", false)
def tyX11 : Nat → FieldType := fun k => match k with
  | 0 => .array (.object "LiftEnvy$Row")
  | 1 => .object "LiftEnvy$Tape"
  | 2 => .object "LiftEnvy$House"
  | 3 => .object "LiftEnvy$House"
  | 4 => .array (.object "LiftEnvy$House")
  | 5 => .array .boolean
  | 6 => .object "LiftEnvy$Acts"
  | 7 => .array (.object "LiftEnvy$Person")
  | 8 => .object "LiftEnvy$Trace"
  | 9 => .boolean
  | 10 => .int
  | _ => .int
theorem nmX11 : ∀ a, a < 12 → ∀ b, b < 12 → a ≠ b → (TX11 a).2.1 ≠ (TX11 b).2.1 := by decide +kernel
theorem tyX11_ok : ∀ k, k < 12 → parseFieldDescriptor (TX11 k).2.2.1 = some (tyX11 k) := by decide +kernel
abbrev cX11_init : ByteArray := prog_1_method_1_code
def yX11_init : MethodName := ⟨RX11, "<init>", "()V"⟩
abbrev cX11_row : ByteArray := prog_1_method_2_code
def yX11_row : MethodName := ⟨RX11, "row", "(III)I"⟩
abbrev cX11_set : ByteArray := prog_1_method_3_code
def yX11_set : MethodName := ⟨RX11, "set", "(III)I"⟩
abbrev cX11_copy : ByteArray := prog_1_method_4_code
def yX11_copy : MethodName := ⟨RX11, "copy", "(IIIII)I"⟩
abbrev cX11_drop : ByteArray := prog_1_method_5_code
def yX11_drop : MethodName := ⟨RX11, "drop", "(I)I"⟩
abbrev cX11_feed : ByteArray := prog_1_method_6_code
def yX11_feed : MethodName := ⟨RX11, "feed", "(I)I"⟩
abbrev cX11_house : ByteArray := prog_1_method_7_code
def yX11_house : MethodName := ⟨RX11, "house", "()I"⟩
abbrev cX11_fault : ByteArray := prog_1_method_8_code
def yX11_fault : MethodName := ⟨RX11, "fault", "()I"⟩
abbrev cX11_steps : ByteArray := prog_1_method_9_code
def yX11_steps : MethodName := ⟨RX11, "steps", "(I)I"⟩
abbrev cX11_show : ByteArray := prog_1_method_10_code
def yX11_show : MethodName := ⟨RX11, "show", "(II)I"⟩
abbrev cX11_walk : ByteArray := prog_1_method_11_code
def yX11_walk : MethodName := ⟨RX11, "walk", "(II)I"⟩
abbrev cX11_undo : ByteArray := prog_1_method_12_code
def yX11_undo : MethodName := ⟨RX11, "undo", "()I"⟩
abbrev cX11_person : ByteArray := prog_1_method_13_code
def yX11_person : MethodName := ⟨RX11, "person", "(II)I"⟩
abbrev cX11_minds : ByteArray := prog_1_method_14_code
def yX11_minds : MethodName := ⟨RX11, "minds", "(II)I"⟩
abbrev cX11_car : ByteArray := prog_1_method_15_code
def yX11_car : MethodName := ⟨RX11, "car", "(I)I"⟩
abbrev cX11_ahead : ByteArray := prog_1_method_16_code
def yX11_ahead : MethodName := ⟨RX11, "ahead", "(II)I"⟩
abbrev cX11_when : ByteArray := prog_1_method_17_code
def yX11_when : MethodName := ⟨RX11, "when", "(I)I"⟩
abbrev cX11_first : ByteArray := prog_1_method_18_code
def yX11_first : MethodName := ⟨RX11, "first", "(I)I"⟩
abbrev cX11_never : ByteArray := prog_1_method_19_code
def yX11_never : MethodName := ⟨RX11, "never", "()I"⟩
abbrev cX11_least : ByteArray := prog_1_method_20_code
def yX11_least : MethodName := ⟨RX11, "least", "(II)I"⟩
abbrev cX11_hide : ByteArray := prog_1_method_21_code
def yX11_hide : MethodName := ⟨RX11, "hide", "(I)I"⟩
abbrev cX11_beside : ByteArray := prog_1_method_22_code
def yX11_beside : MethodName := ⟨RX11, "beside", "(II)I"⟩
abbrev cX11_fits : ByteArray := prog_1_method_23_code
def yX11_fits : MethodName := ⟨RX11, "fits", "(IIIII)I"⟩
abbrev cX11_hidden : ByteArray := prog_1_method_24_code
def yX11_hidden : MethodName := ⟨RX11, "hidden", "(IIII)I"⟩
abbrev cX11_drawn : ByteArray := prog_1_method_25_code
def yX11_drawn : MethodName := ⟨RX11, "drawn", "(III)I"⟩
abbrev cX11_image : ByteArray := prog_1_method_26_code
def yX11_image : MethodName := ⟨RX11, "image", "(I)I"⟩
abbrev cX11_restore : ByteArray := prog_1_method_27_code
def yX11_restore : MethodName := ⟨RX11, "restore", "(I)I"⟩
abbrev cX11_kind : ByteArray := prog_1_method_28_code
def yX11_kind : MethodName := ⟨RX11, "kind", "(I)I"⟩
abbrev cX11_as : ByteArray := prog_1_method_29_code
def yX11_as : MethodName := ⟨RX11, "as", "(II)I"⟩
abbrev cX11_ask : ByteArray := prog_1_method_30_code
def yX11_ask : MethodName := ⟨RX11, "ask", "(II)I"⟩
abbrev cX11_trace : ByteArray := prog_1_method_31_code
def yX11_trace : MethodName := ⟨RX11, "trace", "(I)I"⟩
abbrev cX11_count : ByteArray := prog_1_method_32_code
def yX11_count : MethodName := ⟨RX11, "count", "(I)I"⟩
abbrev cX11_status : ByteArray := prog_1_method_33_code
def yX11_status : MethodName := ⟨RX11, "status", "()I"⟩
abbrev cX11_isWithin : ByteArray := prog_1_method_34_code
def yX11_isWithin : MethodName := ⟨RX11, "isWithin", "(III)Z"⟩
abbrev cX11_isRow : ByteArray := prog_1_method_35_code
def yX11_isRow : MethodName := ⟨RX11, "isRow", "(I)Z"⟩
abbrev cX11_isPerson : ByteArray := prog_1_method_36_code
def yX11_isPerson : MethodName := ⟨RX11, "isPerson", "(I)Z"⟩
abbrev cX11_kindOf : ByteArray := prog_1_method_37_code
def yX11_kindOf : MethodName := ⟨RX11, "kindOf", "(I)LLiftEnvy$Person;"⟩
abbrev cX11_found : ByteArray := prog_1_method_38_code
def yX11_found : MethodName := ⟨RX11, "found", "(I)I"⟩
abbrev cX11_unhindered : ByteArray := prog_1_method_39_code
def yX11_unhindered : MethodName := ⟨RX11, "unhindered", "(I)I"⟩
abbrev cX11_orNone : ByteArray := prog_1_method_40_code
def yX11_orNone : MethodName := ⟨RX11, "orNone", "(I)I"⟩
abbrev cX11_rowsThere : ByteArray := prog_1_method_41_code
def yX11_rowsThere : MethodName := ⟨RX11, "rowsThere", "()I"⟩
abbrev cX11_worth : ByteArray := prog_1_method_42_code
def yX11_worth : MethodName := ⟨RX11, "worth", "(I)I"⟩
abbrev cX11_isBroughtHiding : ByteArray := prog_1_method_43_code
def yX11_isBroughtHiding : MethodName := ⟨RX11, "isBroughtHiding", "(III)Z"⟩
abbrev cX11_fitting : ByteArray := prog_1_method_44_code
def yX11_fitting : MethodName := ⟨RX11, "fitting", "(IILLiftEnvy$Row;II)I"⟩
abbrev cX11_power : ByteArray := prog_1_method_45_code
def yX11_power : MethodName := ⟨RX11, "power", "(II)I"⟩
abbrev cX11_commonDivisor : ByteArray := prog_1_method_46_code
def yX11_commonDivisor : MethodName := ⟨RX11, "commonDivisor", "(II)I"⟩
abbrev cX11_isOne : ByteArray := prog_1_method_47_code
def yX11_isOne : MethodName := ⟨RX11, "isOne", "(LLiftEnvy$Person;I)Z"⟩
def RX12 : String := "LiftEnvyModel"
def TX12 : u_T := fun k => match k with
  | 0 => ("LiftEnvyModel", "lane", "[I", true)
  | 1 => ("LiftEnvyModel", "many", "[I", true)
  | 2 => ("LiftEnvyModel", "items", "[I", true)
  | 3 => ("LiftEnvyModel", "spare", "[I", true)
  | 4 => ("LiftEnvyModel", "status", "I", false)
  | 5 => ("LiftEnvyModel", "tape", "[I", true)
  | 6 => ("LiftEnvyModel", "taped", "I", false)
  | 7 => ("LiftEnvyModel", "faultKind", "I", false)
  | 8 => ("LiftEnvyModel", "faultPlace", "I", false)
  | 9 => ("LiftEnvyModel", "at", "I", false)
  | 10 => ("LiftEnvyModel", "start", "I", false)
  | 11 => ("LiftEnvyModel", "token", "I", false)
  | 12 => ("LiftEnvyModel", "value", "I", false)
  | 13 => ("LiftEnvyModel", "now", "[I", true)
  | 14 => ("LiftEnvyModel", "draft", "[I", true)
  | 15 => ("LiftEnvyModel", "tried", "[I", true)
  | 16 => ("LiftEnvyModel", "past", "[I", true)
  | 17 => ("LiftEnvyModel", "acts", "I", false)
  | 18 => ("LiftEnvyModel", "images", "[I", true)
  | 19 => ("LiftEnvyModel", "kept", "[Z", true)
  | 20 => ("LiftEnvyModel", "trace", "[I", true)
  | _ => ("LiftEnvyModel", "traced", "I", false)
def tyX12 : Nat → FieldType := fun k => match k with
  | 0 => .array .int
  | 1 => .array .int
  | 2 => .array .int
  | 3 => .array .int
  | 4 => .int
  | 5 => .array .int
  | 6 => .int
  | 7 => .int
  | 8 => .int
  | 9 => .int
  | 10 => .int
  | 11 => .int
  | 12 => .int
  | 13 => .array .int
  | 14 => .array .int
  | 15 => .array .int
  | 16 => .array .int
  | 17 => .int
  | 18 => .array .int
  | 19 => .array .boolean
  | 20 => .array .int
  | _ => .int
theorem nmX12 : ∀ a, a < 22 → ∀ b, b < 22 → a ≠ b → (TX12 a).2.1 ≠ (TX12 b).2.1 := by decide +kernel
theorem tyX12_ok : ∀ k, k < 22 → parseFieldDescriptor (TX12 k).2.2.1 = some (tyX12 k) := by decide +kernel
abbrev cX12_init : ByteArray := prog_14_method_1_code
def yX12_init : MethodName := ⟨RX12, "<init>", "()V"⟩
abbrev cX12_in : ByteArray := prog_14_method_3_code
def yX12_in : MethodName := ⟨RX12, "in", "(III)Z"⟩
abbrev cX12_has : ByteArray := prog_14_method_4_code
def yX12_has : MethodName := ⟨RX12, "has", "(II)Z"⟩
abbrev cX12_ones : ByteArray := prog_14_method_5_code
def yX12_ones : MethodName := ⟨RX12, "ones", "(I)I"⟩
abbrev cX12_found : ByteArray := prog_14_method_6_code
def yX12_found : MethodName := ⟨RX12, "found", "(I)I"⟩
abbrev cX12_well : ByteArray := prog_14_method_7_code
def yX12_well : MethodName := ⟨RX12, "well", "(I)I"⟩
abbrev cX12_copies : ByteArray := prog_14_method_8_code
def yX12_copies : MethodName := ⟨RX12, "copies", "([II[II)V"⟩
abbrev cX12_isRow : ByteArray := prog_14_method_9_code
def yX12_isRow : MethodName := ⟨RX12, "isRow", "(I)Z"⟩
abbrev cX12_isMissing : ByteArray := prog_14_method_10_code
def yX12_isMissing : MethodName := ⟨RX12, "isMissing", "(I)Z"⟩
abbrev cX12_cut : ByteArray := prog_14_method_11_code
def yX12_cut : MethodName := ⟨RX12, "cut", "(II)I"⟩
abbrev cX12_row : ByteArray := prog_14_method_12_code
def yX12_row : MethodName := ⟨RX12, "row", "(III)I"⟩
abbrev cX12_set : ByteArray := prog_14_method_13_code
def yX12_set : MethodName := ⟨RX12, "set", "(III)I"⟩
abbrev cX12_isPart : ByteArray := prog_14_method_14_code
def yX12_isPart : MethodName := ⟨RX12, "isPart", "(III)Z"⟩
abbrev cX12_copy : ByteArray := prog_14_method_15_code
def yX12_copy : MethodName := ⟨RX12, "copy", "(IIIII)I"⟩
abbrev cX12_drop : ByteArray := prog_14_method_16_code
def yX12_drop : MethodName := ⟨RX12, "drop", "(I)I"⟩
abbrev cX12_feed : ByteArray := prog_14_method_17_code
def yX12_feed : MethodName := ⟨RX12, "feed", "(I)I"⟩
abbrev cX12_byteAt : ByteArray := prog_14_method_18_code
def yX12_byteAt : MethodName := ⟨RX12, "byteAt", "(I)I"⟩
abbrev cX12_advances : ByteArray := prog_14_method_19_code
def yX12_advances : MethodName := ⟨RX12, "advances", "()V"⟩
abbrev cX12_isWell : ByteArray := prog_14_method_20_code
def yX12_isWell : MethodName := ⟨RX12, "isWell", "()Z"⟩
abbrev cX12_takes : ByteArray := prog_14_method_21_code
def yX12_takes : MethodName := ⟨RX12, "takes", "(ZI)I"⟩
abbrev cX12_figure : ByteArray := prog_14_method_22_code
def yX12_figure : MethodName := ⟨RX12, "figure", "(II)I"⟩
abbrev cX12_kindOf : ByteArray := prog_14_method_23_code
def yX12_kindOf : MethodName := ⟨RX12, "kindOf", "(I)I"⟩
abbrev cX12_next : ByteArray := prog_14_method_24_code
def yX12_next : MethodName := ⟨RX12, "next", "(II)I"⟩
abbrev cX12_readsPerson : ByteArray := prog_14_method_25_code
def yX12_readsPerson : MethodName := ⟨RX12, "readsPerson", "()V"⟩
abbrev cX12_house : ByteArray := prog_14_method_26_code
def yX12_house : MethodName := ⟨RX12, "house", "()I"⟩
abbrev cX12_fault : ByteArray := prog_14_method_27_code
def yX12_fault : MethodName := ⟨RX12, "fault", "()I"⟩
abbrev cX12_isHouse : ByteArray := prog_14_method_28_code
def yX12_isHouse : MethodName := ⟨RX12, "isHouse", "()Z"⟩
abbrev cX12_isPerson : ByteArray := prog_14_method_29_code
def yX12_isPerson : MethodName := ⟨RX12, "isPerson", "(I)Z"⟩
abbrev cX12_isFar : ByteArray := prog_14_method_30_code
def yX12_isFar : MethodName := ⟨RX12, "isFar", "(I)Z"⟩
abbrev cX12_mindsOf : ByteArray := prog_14_method_31_code
def yX12_mindsOf : MethodName := ⟨RX12, "mindsOf", "([III)I"⟩
abbrev cX12_rides : ByteArray := prog_14_method_32_code
def yX12_rides : MethodName := ⟨RX12, "rides", "([II)Z"⟩
abbrev cX12_envyOf : ByteArray := prog_14_method_33_code
def yX12_envyOf : MethodName := ⟨RX12, "envyOf", "([II)I"⟩
abbrev cX12_calls : ByteArray := prog_14_method_34_code
def yX12_calls : MethodName := ⟨RX12, "calls", "([I)I"⟩
abbrev cX12_nearer : ByteArray := prog_14_method_35_code
def yX12_nearer : MethodName := ⟨RX12, "nearer", "(II)I"⟩
abbrev cX12_passes : ByteArray := prog_14_method_36_code
def yX12_passes : MethodName := ⟨RX12, "passes", "([I)V"⟩
abbrev cX12_broughtIn : ByteArray := prog_14_method_37_code
def yX12_broughtIn : MethodName := ⟨RX12, "broughtIn", "([I)I"⟩
abbrev cX12_tries : ByteArray := prog_14_method_38_code
def yX12_tries : MethodName := ⟨RX12, "tries", "(I)V"⟩
abbrev cX12_broughtBy : ByteArray := prog_14_method_39_code
def yX12_broughtBy : MethodName := ⟨RX12, "broughtBy", "(II)I"⟩
abbrev cX12_notes : ByteArray := prog_14_method_40_code
def yX12_notes : MethodName := ⟨RX12, "notes", "()V"⟩
abbrev cX12_steps : ByteArray := prog_14_method_41_code
def yX12_steps : MethodName := ⟨RX12, "steps", "(I)I"⟩
abbrev cX12_show : ByteArray := prog_14_method_42_code
def yX12_show : MethodName := ⟨RX12, "show", "(II)I"⟩
abbrev cX12_walk : ByteArray := prog_14_method_43_code
def yX12_walk : MethodName := ⟨RX12, "walk", "(II)I"⟩
abbrev cX12_undo : ByteArray := prog_14_method_44_code
def yX12_undo : MethodName := ⟨RX12, "undo", "()I"⟩
abbrev cX12_person : ByteArray := prog_14_method_45_code
def yX12_person : MethodName := ⟨RX12, "person", "(II)I"⟩
abbrev cX12_minds : ByteArray := prog_14_method_46_code
def yX12_minds : MethodName := ⟨RX12, "minds", "(II)I"⟩
abbrev cX12_riderIn : ByteArray := prog_14_method_47_code
def yX12_riderIn : MethodName := ⟨RX12, "riderIn", "([I)I"⟩
abbrev cX12_car : ByteArray := prog_14_method_48_code
def yX12_car : MethodName := ⟨RX12, "car", "(I)I"⟩
abbrev cX12_ahead : ByteArray := prog_14_method_49_code
def yX12_ahead : MethodName := ⟨RX12, "ahead", "(II)I"⟩
abbrev cX12_when : ByteArray := prog_14_method_50_code
def yX12_when : MethodName := ⟨RX12, "when", "(I)I"⟩
abbrev cX12_first : ByteArray := prog_14_method_51_code
def yX12_first : MethodName := ⟨RX12, "first", "(I)I"⟩
abbrev cX12_never : ByteArray := prog_14_method_52_code
def yX12_never : MethodName := ⟨RX12, "never", "()I"⟩
abbrev cX12_least : ByteArray := prog_14_method_53_code
def yX12_least : MethodName := ⟨RX12, "least", "(II)I"⟩
abbrev cX12_hides : ByteArray := prog_14_method_54_code
def yX12_hides : MethodName := ⟨RX12, "hides", "(I)V"⟩
abbrev cX12_hide : ByteArray := prog_14_method_55_code
def yX12_hide : MethodName := ⟨RX12, "hide", "(I)I"⟩
abbrev cX12_beside : ByteArray := prog_14_method_56_code
def yX12_beside : MethodName := ⟨RX12, "beside", "(II)I"⟩
abbrev cX12_goesSo : ByteArray := prog_14_method_57_code
def yX12_goesSo : MethodName := ⟨RX12, "goesSo", "(II)Z"⟩
abbrev cX12_fits : ByteArray := prog_14_method_58_code
def yX12_fits : MethodName := ⟨RX12, "fits", "(IIIII)I"⟩
abbrev cX12_hidden : ByteArray := prog_14_method_59_code
def yX12_hidden : MethodName := ⟨RX12, "hidden", "(IIII)I"⟩
abbrev cX12_drawn : ByteArray := prog_14_method_60_code
def yX12_drawn : MethodName := ⟨RX12, "drawn", "(III)I"⟩
abbrev cX12_image : ByteArray := prog_14_method_61_code
def yX12_image : MethodName := ⟨RX12, "image", "(I)I"⟩
abbrev cX12_restore : ByteArray := prog_14_method_62_code
def yX12_restore : MethodName := ⟨RX12, "restore", "(I)I"⟩
abbrev cX12_kindIn : ByteArray := prog_14_method_63_code
def yX12_kindIn : MethodName := ⟨RX12, "kindIn", "(I)I"⟩
abbrev cX12_kind : ByteArray := prog_14_method_64_code
def yX12_kind : MethodName := ⟨RX12, "kind", "(I)I"⟩
abbrev cX12_as : ByteArray := prog_14_method_65_code
def yX12_as : MethodName := ⟨RX12, "as", "(II)I"⟩
abbrev cX12_begins : ByteArray := prog_14_method_66_code
def yX12_begins : MethodName := ⟨RX12, "begins", "(I)V"⟩
abbrev cX12_clerkMark : ByteArray := prog_14_method_67_code
def yX12_clerkMark : MethodName := ⟨RX12, "clerkMark", "(I)I"⟩
abbrev cX12_chiefSize : ByteArray := prog_14_method_68_code
def yX12_chiefSize : MethodName := ⟨RX12, "chiefSize", "(I)I"⟩
abbrev cX12_clerkSize : ByteArray := prog_14_method_69_code
def yX12_clerkSize : MethodName := ⟨RX12, "clerkSize", "(I)I"⟩
abbrev cX12_chiefMark : ByteArray := prog_14_method_70_code
def yX12_chiefMark : MethodName := ⟨RX12, "chiefMark", "(I)I"⟩
abbrev cX12_ask : ByteArray := prog_14_method_71_code
def yX12_ask : MethodName := ⟨RX12, "ask", "(II)I"⟩
abbrev cX12_trace : ByteArray := prog_14_method_72_code
def yX12_trace : MethodName := ⟨RX12, "trace", "(I)I"⟩
abbrev cX12_count : ByteArray := prog_14_method_73_code
def yX12_count : MethodName := ⟨RX12, "count", "(I)I"⟩
abbrev cX12_status : ByteArray := prog_14_method_74_code
def yX12_status : MethodName := ⟨RX12, "status", "()I"⟩
def RJ6 : String := "java/lang/Integer"
def TJ6 : u_T := fun k => match k with
  | _ => ("", "", "", false)
def tyJ6 : Nat → FieldType := fun k => match k with
  | _ => .int
theorem nmJ6 : ∀ a, a < 0 → ∀ b, b < 0 → a ≠ b → (TJ6 a).2.1 ≠ (TJ6 b).2.1 := by decide +kernel
theorem tyJ6_ok : ∀ k, k < 0 → parseFieldDescriptor (TJ6 k).2.2.1 = some (tyJ6 k) := by decide +kernel
abbrev cJ6_compare_7cf53 : ByteArray := prog_15_method_40_code
def yJ6_compare_7cf53 : MethodName := ⟨RJ6, "compare", "(II)I"⟩
abbrev cJ6_bitCount_0f7a4 : ByteArray := prog_15_method_49_code
def yJ6_bitCount_0f7a4 : MethodName := ⟨RJ6, "bitCount", "(I)I"⟩
def RJ9 : String := "java/lang/Math"
def TJ9 : u_T := fun k => match k with
  | _ => ("", "", "", false)
def tyJ9 : Nat → FieldType := fun k => match k with
  | _ => .int
theorem nmJ9 : ∀ a, a < 0 → ∀ b, b < 0 → a ≠ b → (TJ9 a).2.1 ≠ (TJ9 b).2.1 := by decide +kernel
theorem tyJ9_ok : ∀ k, k < 0 → parseFieldDescriptor (TJ9 k).2.2.1 = some (tyJ9 k) := by decide +kernel
abbrev cJ9_max_7cf53 : ByteArray := prog_16_method_65_code
def yJ9_max_7cf53 : MethodName := ⟨RJ9, "max", "(II)I"⟩
abbrev cJ9_min_7cf53 : ByteArray := prog_16_method_69_code
def yJ9_min_7cf53 : MethodName := ⟨RJ9, "min", "(II)I"⟩
def RJ10 : String := "java/lang/System"
def TJ10 : u_T := fun k => match k with
  | _ => ("", "", "", false)
def tyJ10 : Nat → FieldType := fun k => match k with
  | _ => .int
theorem nmJ10 : ∀ a, a < 0 → ∀ b, b < 0 → a ≠ b → (TJ10 a).2.1 ≠ (TJ10 b).2.1 := by decide +kernel
theorem tyJ10_ok : ∀ k, k < 0 → parseFieldDescriptor (TJ10 k).2.2.1 = some (tyJ10 k) := by decide +kernel
def RL : String := "LiftEnvyLaw"
abbrev cL_law : ByteArray := code
def yL_law : MethodName := ⟨RL, "law", "([I)Z"⟩
abbrev vwCl : List vw_C := [(RX0, TX0, 3), (RX1, TX1, 0), (RX2, TX2, 0), (RX3, TX3, 0), (RX4, TX4, 12), (RX5, TX5, 0), (RX7, TX7, 3), (RX8, TX8, 5), (RX9, TX9, 2), (RX10, TX10, 0), (RX11, TX11, 12), (RX12, TX12, 22)]
end
section
theorem tw0 : Cond.selects RX11 yX11_found yX11_found ∈ tG := tG_mk 0 (by decide +kernel) (by decide +kernel)
theorem tw1 : Cond.selects RX11 yX11_unhindered yX11_unhindered ∈ tG := tG_mk 1 (by decide +kernel) (by decide +kernel)
theorem tw2 : Cond.selects RX8 yX8_tellsLaw yX8_tellsLaw ∈ tG := tG_mk 2 (by decide +kernel) (by decide +kernel)
theorem tw3 : Cond.selects RX8 yX8_takesSign yX8_takesSign ∈ tG := tG_mk 3 (by decide +kernel) (by decide +kernel)
theorem tw4 : Cond.selects RX8 yX8_refuses yX8_refuses ∈ tG := tG_mk 4 (by decide +kernel) (by decide +kernel)
theorem tw5 : Cond.selects RX8 yX8_takesNumber yX8_takesNumber ∈ tG := tG_mk 5 (by decide +kernel) (by decide +kernel)
theorem tw6 : Cond.selects RX8 yX8_tellsPerson yX8_tellsPerson ∈ tG := tG_mk 6 (by decide +kernel) (by decide +kernel)
theorem tw7 : Cond.selects RX8 yX8_sort yX8_sort ∈ tG := tG_mk 7 (by decide +kernel) (by decide +kernel)
theorem tw8 : Cond.selects RX4 yX4_carry yX4_carry ∈ tG := tG_mk 8 (by decide +kernel) (by decide +kernel)
theorem tw9 : Cond.selects RX11 yX11_isPerson yX11_isPerson ∈ tG := tG_mk 9 (by decide +kernel) (by decide +kernel)
theorem tw10 : Cond.selects RX4 yX4_rests yX4_rests ∈ tG := tG_mk 10 (by decide +kernel) (by decide +kernel)
theorem tw11 : Cond.selects RX11 yX11_worth yX11_worth ∈ tG := tG_mk 11 (by decide +kernel) (by decide +kernel)
theorem tw12 : Cond.selects RX11 yX11_fitting yX11_fitting ∈ tG := tG_mk 12 (by decide +kernel) (by decide +kernel)
theorem tw13 : Cond.selects RX11 yX11_isBroughtHiding yX11_isBroughtHiding ∈ tG := tG_mk 13 (by decide +kernel) (by decide +kernel)
theorem tw14 : Cond.selects RX11 yX11_kindOf yX11_kindOf ∈ tG := tG_mk 14 (by decide +kernel) (by decide +kernel)
theorem tw15 : Cond.selects RX11 yX11_rowsThere yX11_rowsThere ∈ tG := tG_mk 15 (by decide +kernel) (by decide +kernel)
theorem tw16 : Cond.selects RX12 yX12_found yX12_found ∈ tG := tG_mk 16 (by decide +kernel) (by decide +kernel)
theorem tw17 : Cond.selects RX12 yX12_well yX12_well ∈ tG := tG_mk 17 (by decide +kernel) (by decide +kernel)
theorem tw18 : Cond.selects RX12 yX12_isMissing yX12_isMissing ∈ tG := tG_mk 18 (by decide +kernel) (by decide +kernel)
theorem tw19 : Cond.selects RX12 yX12_isPart yX12_isPart ∈ tG := tG_mk 19 (by decide +kernel) (by decide +kernel)
theorem tw20 : Cond.selects RX12 yX12_advances yX12_advances ∈ tG := tG_mk 20 (by decide +kernel) (by decide +kernel)
theorem tw21 : Cond.selects RX12 yX12_byteAt yX12_byteAt ∈ tG := tG_mk 21 (by decide +kernel) (by decide +kernel)
theorem tw22 : Cond.selects RX12 yX12_takes yX12_takes ∈ tG := tG_mk 22 (by decide +kernel) (by decide +kernel)
theorem tw23 : Cond.selects RX12 yX12_isWell yX12_isWell ∈ tG := tG_mk 23 (by decide +kernel) (by decide +kernel)
theorem tw24 : Cond.selects RX12 yX12_figure yX12_figure ∈ tG := tG_mk 24 (by decide +kernel) (by decide +kernel)
theorem tw25 : Cond.selects RX12 yX12_next yX12_next ∈ tG := tG_mk 25 (by decide +kernel) (by decide +kernel)
theorem tw26 : Cond.selects RX12 yX12_readsPerson yX12_readsPerson ∈ tG := tG_mk 26 (by decide +kernel) (by decide +kernel)
theorem tw27 : Cond.selects RX12 yX12_isHouse yX12_isHouse ∈ tG := tG_mk 27 (by decide +kernel) (by decide +kernel)
theorem tw28 : Cond.selects RX12 yX12_notes yX12_notes ∈ tG := tG_mk 28 (by decide +kernel) (by decide +kernel)
theorem tw29 : Cond.selects RX12 yX12_isPerson yX12_isPerson ∈ tG := tG_mk 29 (by decide +kernel) (by decide +kernel)
theorem tw30 : Cond.selects RX12 yX12_tries yX12_tries ∈ tG := tG_mk 30 (by decide +kernel) (by decide +kernel)
theorem tw31 : Cond.selects RX12 yX12_broughtBy yX12_broughtBy ∈ tG := tG_mk 31 (by decide +kernel) (by decide +kernel)
theorem tw32 : Cond.selects RX12 yX12_hides yX12_hides ∈ tG := tG_mk 32 (by decide +kernel) (by decide +kernel)
theorem tw33 : Cond.selects RX12 yX12_goesSo yX12_goesSo ∈ tG := tG_mk 33 (by decide +kernel) (by decide +kernel)
theorem tw34 : Cond.selects RX12 yX12_kindIn yX12_kindIn ∈ tG := tG_mk 34 (by decide +kernel) (by decide +kernel)
theorem tw35 : Cond.selects RX12 yX12_chiefSize yX12_chiefSize ∈ tG := tG_mk 35 (by decide +kernel) (by decide +kernel)
theorem tw36 : Cond.selects RX12 yX12_begins yX12_begins ∈ tG := tG_mk 36 (by decide +kernel) (by decide +kernel)
theorem tw37 : Cond.selects RX12 yX12_clerkSize yX12_clerkSize ∈ tG := tG_mk 37 (by decide +kernel) (by decide +kernel)
theorem tw38 : Cond.selects RX12 yX12_clerkMark yX12_clerkMark ∈ tG := tG_mk 38 (by decide +kernel) (by decide +kernel)
theorem tw39 : Cond.selects RX12 yX12_chiefMark yX12_chiefMark ∈ tG := tG_mk 39 (by decide +kernel) (by decide +kernel)
theorem tw40 : Cond.initialized RL ∈ tG := tG_mk 40 (by decide +kernel) (by decide +kernel)
theorem tw41 : Cond.initialized RX11 ∈ tG := tG_mk 41 (by decide +kernel) (by decide +kernel)
theorem tw42 : Cond.initialized RX8 ∈ tG := tG_mk 42 (by decide +kernel) (by decide +kernel)
theorem tw43 : Cond.initialized RX4 ∈ tG := tG_mk 43 (by decide +kernel) (by decide +kernel)
theorem tw44 : Cond.initialized RX0 ∈ tG := tG_mk 44 (by decide +kernel) (by decide +kernel)
theorem tw45 : Cond.initialized RX6 ∈ tG := tG_mk 45 (by decide +kernel) (by decide +kernel)
theorem tw46 : Cond.initialized RX2 ∈ tG := tG_mk 46 (by decide +kernel) (by decide +kernel)
theorem tw47 : Cond.initialized RX10 ∈ tG := tG_mk 47 (by decide +kernel) (by decide +kernel)
theorem tw48 : Cond.initialized RX5 ∈ tG := tG_mk 48 (by decide +kernel) (by decide +kernel)
theorem tw49 : Cond.initialized RX1 ∈ tG := tG_mk 49 (by decide +kernel) (by decide +kernel)
theorem tw50 : Cond.initialized RX3 ∈ tG := tG_mk 50 (by decide +kernel) (by decide +kernel)
theorem tw51 : Cond.initialized RX9 ∈ tG := tG_mk 51 (by decide +kernel) (by decide +kernel)
theorem tw52 : Cond.initialized RX7 ∈ tG := tG_mk 52 (by decide +kernel) (by decide +kernel)
theorem tw53 : Cond.initialized RX12 ∈ tG := tG_mk 53 (by decide +kernel) (by decide +kernel)
theorem tw54 : Cond.initialized RJ10 ∈ tG := tG_mk 54 (by decide +kernel) (by decide +kernel)
theorem tw55 : Cond.initialized RJ9 ∈ tG := tG_mk 55 (by decide +kernel) (by decide +kernel)
theorem tw56 : Cond.initialized RJ6 ∈ tG := tG_mk 56 (by decide +kernel) (by decide +kernel)
theorem tw57 : Cond.classLink RL 7 RX11 ∈ tG := tG_mk 57 (by decide +kernel) (by decide +kernel)
theorem tw59 : Cond.methodLink RL 9 yX11_init ∈ tG := tG_mk 59 (by decide +kernel) (by decide +kernel)
theorem tw60 : Cond.instanceMethod yX11_init ∈ tG := tG_mk 60 (by decide +kernel) (by decide +kernel)
theorem tw61 : Cond.code yX11_init prog_1_method_1_code 2 none ∈ tG := tG_mk 61 (by decide +kernel) (by decide +kernel)
theorem tw62 : Cond.methodLink RX11 1 objectInit ∈ tG := tG_mk 62 (by decide +kernel) (by decide +kernel)
theorem tw63 : Cond.instanceMethod objectInit ∈ tG := tG_mk 63 (by decide +kernel) (by decide +kernel)
theorem tw64 : Cond.code objectInit object_method_1_code 1 none ∈ tG := tG_mk 64 (by decide +kernel) (by decide +kernel)
theorem tw65 : Cond.classLink RX11 9 RX7 ∈ tG := tG_mk 65 (by decide +kernel) (by decide +kernel)
theorem tw67 : Cond.classLink RX11 15 RX8 ∈ tG := tG_mk 67 (by decide +kernel) (by decide +kernel)
theorem tw70 : Cond.instanceMethod yX8_init ∈ tG := tG_mk 70 (by decide +kernel) (by decide +kernel)
theorem tw71 : Cond.code yX8_init prog_10_method_1_code 1 none ∈ tG := tG_mk 71 (by decide +kernel) (by decide +kernel)
theorem tw72 : Cond.methodLink RX8 1 objectInit ∈ tG := tG_mk 72 (by decide +kernel) (by decide +kernel)
theorem tw73 : Cond.fieldLink RX8 9 "LiftEnvy$Tape" "bytes" "[I" ∈ tG := tG_mk 73 (by decide +kernel) (by decide +kernel)
theorem tw74 : Cond.fieldLink RX11 126 "LiftEnvy$Tape" "bytes" "[I" ∈ tG := tG_mk 74 (by decide +kernel) (by decide +kernel)
theorem tw75 : Cond.fieldLink RX8 23 "LiftEnvy$Tape" "length" "I" ∈ tG := tG_mk 75 (by decide +kernel) (by decide +kernel)
theorem tw76 : Cond.fieldLink RX11 124 "LiftEnvy$Tape" "length" "I" ∈ tG := tG_mk 76 (by decide +kernel) (by decide +kernel)
theorem tw77 : Cond.fieldLink RX8 13 "LiftEnvy$Tape" "place" "I" ∈ tG := tG_mk 77 (by decide +kernel) (by decide +kernel)
theorem tw78 : Cond.fieldLink RX11 140 "LiftEnvy$Tape" "place" "I" ∈ tG := tG_mk 78 (by decide +kernel) (by decide +kernel)
theorem tw79 : Cond.fieldLink RX11 133 "LiftEnvy$Tape" "fault" "I" ∈ tG := tG_mk 79 (by decide +kernel) (by decide +kernel)
theorem tw80 : Cond.fieldLink RX8 77 "LiftEnvy$Tape" "fault" "I" ∈ tG := tG_mk 80 (by decide +kernel) (by decide +kernel)
theorem tw81 : Cond.fieldLink RX8 38 "LiftEnvy$Tape" "number" "I" ∈ tG := tG_mk 81 (by decide +kernel) (by decide +kernel)
theorem tw92 : Cond.superclass RX8 "java/lang/Object" ∈ tG := tG_mk 92 (by decide +kernel) (by decide +kernel)
theorem tw94 : Cond.classLink RX11 22 RX4 ∈ tG := tG_mk 94 (by decide +kernel) (by decide +kernel)
theorem tw97 : Cond.instanceMethod yX4_init ∈ tG := tG_mk 97 (by decide +kernel) (by decide +kernel)
theorem tw98 : Cond.code yX4_init prog_6_method_1_code 1 none ∈ tG := tG_mk 98 (by decide +kernel) (by decide +kernel)
theorem tw99 : Cond.methodLink RX4 1 objectInit ∈ tG := tG_mk 99 (by decide +kernel) (by decide +kernel)
theorem tw100 : Cond.fieldLink RX4 9 "LiftEnvy$House" "kind" "[I" ∈ tG := tG_mk 100 (by decide +kernel) (by decide +kernel)
theorem tw101 : Cond.fieldLink RX8 68 "LiftEnvy$House" "kind" "[I" ∈ tG := tG_mk 101 (by decide +kernel) (by decide +kernel)
theorem tw102 : Cond.fieldLink RX11 260 "LiftEnvy$House" "kind" "[I" ∈ tG := tG_mk 102 (by decide +kernel) (by decide +kernel)
theorem tw103 : Cond.fieldLink RX4 13 "LiftEnvy$House" "floor" "[I" ∈ tG := tG_mk 103 (by decide +kernel) (by decide +kernel)
theorem tw104 : Cond.fieldLink RX8 56 "LiftEnvy$House" "floor" "[I" ∈ tG := tG_mk 104 (by decide +kernel) (by decide +kernel)
theorem tw105 : Cond.fieldLink RX11 179 "LiftEnvy$House" "floor" "[I" ∈ tG := tG_mk 105 (by decide +kernel) (by decide +kernel)
theorem tw106 : Cond.fieldLink RX4 16 "LiftEnvy$House" "wants" "[I" ∈ tG := tG_mk 106 (by decide +kernel) (by decide +kernel)
theorem tw107 : Cond.fieldLink RX6 13 "LiftEnvy$House" "wants" "[I" ∈ tG := tG_mk 107 (by decide +kernel) (by decide +kernel)
theorem tw108 : Cond.fieldLink RX8 59 "LiftEnvy$House" "wants" "[I" ∈ tG := tG_mk 108 (by decide +kernel) (by decide +kernel)
theorem tw109 : Cond.fieldLink RX11 194 "LiftEnvy$House" "wants" "[I" ∈ tG := tG_mk 109 (by decide +kernel) (by decide +kernel)
theorem tw110 : Cond.fieldLink RX4 19 "LiftEnvy$House" "shows" "[I" ∈ tG := tG_mk 110 (by decide +kernel) (by decide +kernel)
theorem tw111 : Cond.fieldLink RX8 62 "LiftEnvy$House" "shows" "[I" ∈ tG := tG_mk 111 (by decide +kernel) (by decide +kernel)
theorem tw112 : Cond.fieldLink RX11 172 "LiftEnvy$House" "shows" "[I" ∈ tG := tG_mk 112 (by decide +kernel) (by decide +kernel)
theorem tw113 : Cond.fieldLink RX4 22 "LiftEnvy$House" "temper" "[I" ∈ tG := tG_mk 113 (by decide +kernel) (by decide +kernel)
theorem tw114 : Cond.fieldLink RX8 65 "LiftEnvy$House" "temper" "[I" ∈ tG := tG_mk 114 (by decide +kernel) (by decide +kernel)
theorem tw115 : Cond.fieldLink RX11 197 "LiftEnvy$House" "temper" "[I" ∈ tG := tG_mk 115 (by decide +kernel) (by decide +kernel)
theorem tw116 : Cond.fieldLink RX4 32 "LiftEnvy$House" "people" "I" ∈ tG := tG_mk 116 (by decide +kernel) (by decide +kernel)
theorem tw117 : Cond.fieldLink RX8 71 "LiftEnvy$House" "people" "I" ∈ tG := tG_mk 117 (by decide +kernel) (by decide +kernel)
theorem tw118 : Cond.fieldLink RX11 153 "LiftEnvy$House" "people" "I" ∈ tG := tG_mk 118 (by decide +kernel) (by decide +kernel)
theorem tw119 : Cond.fieldLink RX4 35 "LiftEnvy$House" "top" "I" ∈ tG := tG_mk 119 (by decide +kernel) (by decide +kernel)
theorem tw120 : Cond.fieldLink RX8 53 "LiftEnvy$House" "top" "I" ∈ tG := tG_mk 120 (by decide +kernel) (by decide +kernel)
theorem tw121 : Cond.fieldLink RX11 185 "LiftEnvy$House" "top" "I" ∈ tG := tG_mk 121 (by decide +kernel) (by decide +kernel)
theorem tw122 : Cond.fieldLink RX4 38 "LiftEnvy$House" "car" "I" ∈ tG := tG_mk 122 (by decide +kernel) (by decide +kernel)
theorem tw123 : Cond.fieldLink RX11 166 "LiftEnvy$House" "car" "I" ∈ tG := tG_mk 123 (by decide +kernel) (by decide +kernel)
theorem tw124 : Cond.fieldLink RX4 25 "LiftEnvy$House" "rider" "I" ∈ tG := tG_mk 124 (by decide +kernel) (by decide +kernel)
theorem tw125 : Cond.fieldLink RX11 182 "LiftEnvy$House" "rider" "I" ∈ tG := tG_mk 125 (by decide +kernel) (by decide +kernel)
theorem tw126 : Cond.fieldLink RX4 41 "LiftEnvy$House" "brought" "I" ∈ tG := tG_mk 126 (by decide +kernel) (by decide +kernel)
theorem tw127 : Cond.fieldLink RX11 217 "LiftEnvy$House" "brought" "I" ∈ tG := tG_mk 127 (by decide +kernel) (by decide +kernel)
theorem tw128 : Cond.fieldLink RX4 44 "LiftEnvy$House" "step" "I" ∈ tG := tG_mk 128 (by decide +kernel) (by decide +kernel)
theorem tw129 : Cond.fieldLink RX11 157 "LiftEnvy$House" "step" "I" ∈ tG := tG_mk 129 (by decide +kernel) (by decide +kernel)
theorem tw130 : Cond.fieldLink RX4 29 "LiftEnvy$House" "goal" "I" ∈ tG := tG_mk 130 (by decide +kernel) (by decide +kernel)
theorem tw155 : Cond.superclass RX4 "java/lang/Object" ∈ tG := tG_mk 155 (by decide +kernel) (by decide +kernel)
theorem tw157 : Cond.classLink RX11 40 RX0 ∈ tG := tG_mk 157 (by decide +kernel) (by decide +kernel)
theorem tw159 : Cond.methodLink RX11 42 yX0_init ∈ tG := tG_mk 159 (by decide +kernel) (by decide +kernel)
theorem tw160 : Cond.instanceMethod yX0_init ∈ tG := tG_mk 160 (by decide +kernel) (by decide +kernel)
theorem tw161 : Cond.code yX0_init prog_2_method_1_code 2 none ∈ tG := tG_mk 161 (by decide +kernel) (by decide +kernel)
theorem tw162 : Cond.methodLink RX0 1 objectInit ∈ tG := tG_mk 162 (by decide +kernel) (by decide +kernel)
theorem tw163 : Cond.classLink RX0 9 RX4 ∈ tG := tG_mk 163 (by decide +kernel) (by decide +kernel)
theorem tw165 : Cond.fieldLink RX0 11 "LiftEnvy$Acts" "before" "[LLiftEnvy$House;" ∈ tG := tG_mk 165 (by decide +kernel) (by decide +kernel)
theorem tw166 : Cond.fieldLink RX0 20 "LiftEnvy$Acts" "next" "I" ∈ tG := tG_mk 166 (by decide +kernel) (by decide +kernel)
theorem tw167 : Cond.fieldLink RX0 16 "LiftEnvy$Acts" "number" "I" ∈ tG := tG_mk 167 (by decide +kernel) (by decide +kernel)
theorem tw168 : Cond.fieldLink RX11 188 "LiftEnvy$Acts" "number" "I" ∈ tG := tG_mk 168 (by decide +kernel) (by decide +kernel)
theorem tw175 : Cond.superclass RX0 "java/lang/Object" ∈ tG := tG_mk 175 (by decide +kernel) (by decide +kernel)
theorem tw177 : Cond.classLink RX11 47 RX6 ∈ tG := tG_mk 177 (by decide +kernel) (by decide +kernel)
theorem tw179 : Cond.classLink RX11 49 RX2 ∈ tG := tG_mk 179 (by decide +kernel) (by decide +kernel)
theorem tw182 : Cond.instanceMethod yX2_init ∈ tG := tG_mk 182 (by decide +kernel) (by decide +kernel)
theorem tw183 : Cond.code yX2_init prog_4_method_1_code 1 none ∈ tG := tG_mk 183 (by decide +kernel) (by decide +kernel)
theorem tw185 : Cond.instanceMethod yX6_init ∈ tG := tG_mk 185 (by decide +kernel) (by decide +kernel)
theorem tw186 : Cond.code yX6_init prog_8_method_1_code 1 none ∈ tG := tG_mk 186 (by decide +kernel) (by decide +kernel)
theorem tw187 : Cond.methodLink RX6 1 objectInit ∈ tG := tG_mk 187 (by decide +kernel) (by decide +kernel)
theorem tw188 : Cond.superclass RX2 RX6 ∈ tG := tG_mk 188 (by decide +kernel) (by decide +kernel)
theorem tw189 : Cond.classLink RX11 52 RX10 ∈ tG := tG_mk 189 (by decide +kernel) (by decide +kernel)
theorem tw192 : Cond.instanceMethod yX10_init ∈ tG := tG_mk 192 (by decide +kernel) (by decide +kernel)
theorem tw193 : Cond.code yX10_init prog_12_method_1_code 1 none ∈ tG := tG_mk 193 (by decide +kernel) (by decide +kernel)
theorem tw195 : Cond.superclass RX10 RX2 ∈ tG := tG_mk 195 (by decide +kernel) (by decide +kernel)
theorem tw196 : Cond.classLink RX11 55 RX5 ∈ tG := tG_mk 196 (by decide +kernel) (by decide +kernel)
theorem tw199 : Cond.instanceMethod yX5_init ∈ tG := tG_mk 199 (by decide +kernel) (by decide +kernel)
theorem tw200 : Cond.code yX5_init prog_7_method_1_code 1 none ∈ tG := tG_mk 200 (by decide +kernel) (by decide +kernel)
theorem tw202 : Cond.superclass RX5 RX2 ∈ tG := tG_mk 202 (by decide +kernel) (by decide +kernel)
theorem tw203 : Cond.classLink RX11 58 RX1 ∈ tG := tG_mk 203 (by decide +kernel) (by decide +kernel)
theorem tw206 : Cond.instanceMethod yX1_init ∈ tG := tG_mk 206 (by decide +kernel) (by decide +kernel)
theorem tw207 : Cond.code yX1_init prog_3_method_1_code 1 none ∈ tG := tG_mk 207 (by decide +kernel) (by decide +kernel)
theorem tw209 : Cond.superclass RX1 RX6 ∈ tG := tG_mk 209 (by decide +kernel) (by decide +kernel)
theorem tw210 : Cond.classLink RX11 61 RX3 ∈ tG := tG_mk 210 (by decide +kernel) (by decide +kernel)
theorem tw213 : Cond.instanceMethod yX3_init ∈ tG := tG_mk 213 (by decide +kernel) (by decide +kernel)
theorem tw214 : Cond.code yX3_init prog_5_method_1_code 1 none ∈ tG := tG_mk 214 (by decide +kernel) (by decide +kernel)
theorem tw216 : Cond.superclass RX3 RX1 ∈ tG := tG_mk 216 (by decide +kernel) (by decide +kernel)
theorem tw217 : Cond.classLink RX11 68 RX9 ∈ tG := tG_mk 217 (by decide +kernel) (by decide +kernel)
theorem tw220 : Cond.instanceMethod yX9_init ∈ tG := tG_mk 220 (by decide +kernel) (by decide +kernel)
theorem tw221 : Cond.code yX9_init prog_11_method_1_code 1 none ∈ tG := tG_mk 221 (by decide +kernel) (by decide +kernel)
theorem tw222 : Cond.methodLink RX9 1 objectInit ∈ tG := tG_mk 222 (by decide +kernel) (by decide +kernel)
theorem tw223 : Cond.fieldLink RX9 9 "LiftEnvy$Trace" "bodies" "[I" ∈ tG := tG_mk 223 (by decide +kernel) (by decide +kernel)
theorem tw224 : Cond.fieldLink RX11 279 "LiftEnvy$Trace" "bodies" "[I" ∈ tG := tG_mk 224 (by decide +kernel) (by decide +kernel)
theorem tw225 : Cond.fieldLink RX9 13 "LiftEnvy$Trace" "length" "I" ∈ tG := tG_mk 225 (by decide +kernel) (by decide +kernel)
theorem tw226 : Cond.fieldLink RX11 271 "LiftEnvy$Trace" "length" "I" ∈ tG := tG_mk 226 (by decide +kernel) (by decide +kernel)
theorem tw231 : Cond.superclass RX9 "java/lang/Object" ∈ tG := tG_mk 231 (by decide +kernel) (by decide +kernel)
theorem tw234 : Cond.instanceMethod yX7_init ∈ tG := tG_mk 234 (by decide +kernel) (by decide +kernel)
theorem tw235 : Cond.code yX7_init prog_9_method_1_code 1 none ∈ tG := tG_mk 235 (by decide +kernel) (by decide +kernel)
theorem tw236 : Cond.methodLink RX7 1 objectInit ∈ tG := tG_mk 236 (by decide +kernel) (by decide +kernel)
theorem tw237 : Cond.fieldLink RX7 9 "LiftEnvy$Row" "items" "[I" ∈ tG := tG_mk 237 (by decide +kernel) (by decide +kernel)
theorem tw238 : Cond.fieldLink RX11 104 "LiftEnvy$Row" "items" "[I" ∈ tG := tG_mk 238 (by decide +kernel) (by decide +kernel)
theorem tw239 : Cond.fieldLink RX7 13 "LiftEnvy$Row" "lane" "I" ∈ tG := tG_mk 239 (by decide +kernel) (by decide +kernel)
theorem tw240 : Cond.fieldLink RX11 111 "LiftEnvy$Row" "lane" "I" ∈ tG := tG_mk 240 (by decide +kernel) (by decide +kernel)
theorem tw241 : Cond.fieldLink RX7 17 "LiftEnvy$Row" "length" "I" ∈ tG := tG_mk 241 (by decide +kernel) (by decide +kernel)
theorem tw242 : Cond.fieldLink RX11 121 "LiftEnvy$Row" "length" "I" ∈ tG := tG_mk 242 (by decide +kernel) (by decide +kernel)
theorem tw249 : Cond.superclass RX7 "java/lang/Object" ∈ tG := tG_mk 249 (by decide +kernel) (by decide +kernel)
theorem tw250 : Cond.fieldLink RX11 11 "LiftEnvy" "rows" "[LLiftEnvy$Row;" ∈ tG := tG_mk 250 (by decide +kernel) (by decide +kernel)
theorem tw251 : Cond.fieldLink RX11 18 "LiftEnvy" "tape" "LLiftEnvy$Tape;" ∈ tG := tG_mk 251 (by decide +kernel) (by decide +kernel)
theorem tw252 : Cond.fieldLink RX11 25 "LiftEnvy" "now" "LLiftEnvy$House;" ∈ tG := tG_mk 252 (by decide +kernel) (by decide +kernel)
theorem tw253 : Cond.fieldLink RX11 29 "LiftEnvy" "supposed" "LLiftEnvy$House;" ∈ tG := tG_mk 253 (by decide +kernel) (by decide +kernel)
theorem tw254 : Cond.fieldLink RX11 32 "LiftEnvy" "images" "[LLiftEnvy$House;" ∈ tG := tG_mk 254 (by decide +kernel) (by decide +kernel)
theorem tw255 : Cond.fieldLink RX11 36 "LiftEnvy" "kept" "[Z" ∈ tG := tG_mk 255 (by decide +kernel) (by decide +kernel)
theorem tw256 : Cond.fieldLink RX11 43 "LiftEnvy" "acts" "LLiftEnvy$Acts;" ∈ tG := tG_mk 256 (by decide +kernel) (by decide +kernel)
theorem tw257 : Cond.fieldLink RX11 64 "LiftEnvy" "kinds" "[LLiftEnvy$Person;" ∈ tG := tG_mk 257 (by decide +kernel) (by decide +kernel)
theorem tw258 : Cond.fieldLink RX11 71 "LiftEnvy" "left" "LLiftEnvy$Trace;" ∈ tG := tG_mk 258 (by decide +kernel) (by decide +kernel)
theorem tw259 : Cond.fieldLink RX11 149 "LiftEnvy" "housed" "Z" ∈ tG := tG_mk 259 (by decide +kernel) (by decide +kernel)
theorem tw260 : Cond.fieldLink RX11 136 "LiftEnvy" "latestFault" "I" ∈ tG := tG_mk 260 (by decide +kernel) (by decide +kernel)
theorem tw261 : Cond.fieldLink RX11 285 "LiftEnvy" "finding" "I" ∈ tG := tG_mk 261 (by decide +kernel) (by decide +kernel)
theorem tw286 : Cond.superclass RX11 "java/lang/Object" ∈ tG := tG_mk 286 (by decide +kernel) (by decide +kernel)
theorem tw287 : Cond.methodLink RL 13 yX11_row ∈ tG := tG_mk 287 (by decide +kernel) (by decide +kernel)
theorem tw288 : Cond.instanceMethod yX11_row ∈ tG := tG_mk 288 (by decide +kernel) (by decide +kernel)
theorem tw289 : Cond.selects RX11 yX11_row yX11_row ∈ tG := tG_mk 289 (by decide +kernel) (by decide +kernel)
theorem tw290 : Cond.code yX11_row prog_1_method_2_code 4 (some .int) ∈ tG := tG_mk 290 (by decide +kernel) (by decide +kernel)
theorem tw291 : Cond.methodLink RX11 76 yX11_isRow ∈ tG := tG_mk 291 (by decide +kernel) (by decide +kernel)
theorem tw292 : Cond.static yX11_isRow ∈ tG := tG_mk 292 (by decide +kernel) (by decide +kernel)
theorem tw293 : Cond.code yX11_isRow prog_1_method_35_code 1 (some .boolean) ∈ tG := tG_mk 293 (by decide +kernel) (by decide +kernel)
theorem tw294 : Cond.methodLink RX11 80 yX11_isWithin ∈ tG := tG_mk 294 (by decide +kernel) (by decide +kernel)
theorem tw295 : Cond.static yX11_isWithin ∈ tG := tG_mk 295 (by decide +kernel) (by decide +kernel)
theorem tw296 : Cond.code yX11_isWithin prog_1_method_34_code 3 (some .boolean) ∈ tG := tG_mk 296 (by decide +kernel) (by decide +kernel)
theorem tw297 : Cond.constant RX11 84 (-1000001) ∈ tG := tG_mk 297 (by decide +kernel) (by decide +kernel)
theorem tw298 : Cond.methodLink RX11 85 yX11_found ∈ tG := tG_mk 298 (by decide +kernel) (by decide +kernel)
theorem tw300 : Cond.instanceMethod yX11_found ∈ tG := tG_mk 300 (by decide +kernel) (by decide +kernel)
theorem tw301 : Cond.code yX11_found prog_1_method_38_code 2 (some .int) ∈ tG := tG_mk 301 (by decide +kernel) (by decide +kernel)
theorem tw302 : Cond.constant RX11 288 (-1000010) ∈ tG := tG_mk 302 (by decide +kernel) (by decide +kernel)
theorem tw303 : Cond.methodLink RX11 89 yX7_become ∈ tG := tG_mk 303 (by decide +kernel) (by decide +kernel)
theorem tw304 : Cond.instanceMethod yX7_become ∈ tG := tG_mk 304 (by decide +kernel) (by decide +kernel)
theorem tw305 : Cond.selects RX7 yX7_become yX7_become ∈ tG := tG_mk 305 (by decide +kernel) (by decide +kernel)
theorem tw306 : Cond.code yX7_become prog_9_method_3_code 4 none ∈ tG := tG_mk 306 (by decide +kernel) (by decide +kernel)
theorem tw307 : Cond.methodLink RX11 93 yX11_unhindered ∈ tG := tG_mk 307 (by decide +kernel) (by decide +kernel)
theorem tw309 : Cond.instanceMethod yX11_unhindered ∈ tG := tG_mk 309 (by decide +kernel) (by decide +kernel)
theorem tw310 : Cond.code yX11_unhindered prog_1_method_39_code 2 (some .int) ∈ tG := tG_mk 310 (by decide +kernel) (by decide +kernel)
theorem tw311 : Cond.methodLink RL 18 yX11_set ∈ tG := tG_mk 311 (by decide +kernel) (by decide +kernel)
theorem tw312 : Cond.instanceMethod yX11_set ∈ tG := tG_mk 312 (by decide +kernel) (by decide +kernel)
theorem tw313 : Cond.selects RX11 yX11_set yX11_set ∈ tG := tG_mk 313 (by decide +kernel) (by decide +kernel)
theorem tw314 : Cond.code yX11_set prog_1_method_3_code 5 (some .int) ∈ tG := tG_mk 314 (by decide +kernel) (by decide +kernel)
theorem tw315 : Cond.methodLink RX11 96 yX7_isMissing ∈ tG := tG_mk 315 (by decide +kernel) (by decide +kernel)
theorem tw316 : Cond.instanceMethod yX7_isMissing ∈ tG := tG_mk 316 (by decide +kernel) (by decide +kernel)
theorem tw317 : Cond.selects RX7 yX7_isMissing yX7_isMissing ∈ tG := tG_mk 317 (by decide +kernel) (by decide +kernel)
theorem tw318 : Cond.code yX7_isMissing prog_9_method_2_code 1 (some .boolean) ∈ tG := tG_mk 318 (by decide +kernel) (by decide +kernel)
theorem tw319 : Cond.methodLink RX11 100 yX7_holds ∈ tG := tG_mk 319 (by decide +kernel) (by decide +kernel)
theorem tw320 : Cond.instanceMethod yX7_holds ∈ tG := tG_mk 320 (by decide +kernel) (by decide +kernel)
theorem tw321 : Cond.selects RX7 yX7_holds yX7_holds ∈ tG := tG_mk 321 (by decide +kernel) (by decide +kernel)
theorem tw322 : Cond.code yX7_holds prog_9_method_4_code 3 (some .boolean) ∈ tG := tG_mk 322 (by decide +kernel) (by decide +kernel)
theorem tw323 : Cond.methodLink RX11 108 yX7_cut ∈ tG := tG_mk 323 (by decide +kernel) (by decide +kernel)
theorem tw324 : Cond.instanceMethod yX7_cut ∈ tG := tG_mk 324 (by decide +kernel) (by decide +kernel)
theorem tw325 : Cond.selects RX7 yX7_cut yX7_cut ∈ tG := tG_mk 325 (by decide +kernel) (by decide +kernel)
theorem tw326 : Cond.code yX7_cut prog_9_method_5_code 2 (some .int) ∈ tG := tG_mk 326 (by decide +kernel) (by decide +kernel)
theorem tw327 : Cond.methodLink RL 22 yX11_copy ∈ tG := tG_mk 327 (by decide +kernel) (by decide +kernel)
theorem tw328 : Cond.instanceMethod yX11_copy ∈ tG := tG_mk 328 (by decide +kernel) (by decide +kernel)
theorem tw329 : Cond.selects RX11 yX11_copy yX11_copy ∈ tG := tG_mk 329 (by decide +kernel) (by decide +kernel)
theorem tw330 : Cond.code yX11_copy prog_1_method_4_code 8 (some .int) ∈ tG := tG_mk 330 (by decide +kernel) (by decide +kernel)
theorem tw331 : Cond.methodLink RX11 115 arraycopyName ∈ tG := tG_mk 331 (by decide +kernel) (by decide +kernel)
theorem tw332 : Cond.static arraycopyName ∈ tG := tG_mk 332 (by decide +kernel) (by decide +kernel)
theorem tw333 : Cond.native arraycopyName ∈ tG := tG_mk 333 (by decide +kernel) (by decide +kernel)
theorem tw334 : Cond.methodLink RL 27 yX11_drop ∈ tG := tG_mk 334 (by decide +kernel) (by decide +kernel)
theorem tw335 : Cond.instanceMethod yX11_drop ∈ tG := tG_mk 335 (by decide +kernel) (by decide +kernel)
theorem tw336 : Cond.selects RX11 yX11_drop yX11_drop ∈ tG := tG_mk 336 (by decide +kernel) (by decide +kernel)
theorem tw337 : Cond.code yX11_drop prog_1_method_5_code 3 (some .int) ∈ tG := tG_mk 337 (by decide +kernel) (by decide +kernel)
theorem tw338 : Cond.methodLink RL 32 yX11_feed ∈ tG := tG_mk 338 (by decide +kernel) (by decide +kernel)
theorem tw339 : Cond.instanceMethod yX11_feed ∈ tG := tG_mk 339 (by decide +kernel) (by decide +kernel)
theorem tw340 : Cond.selects RX11 yX11_feed yX11_feed ∈ tG := tG_mk 340 (by decide +kernel) (by decide +kernel)
theorem tw341 : Cond.code yX11_feed prog_1_method_6_code 2 (some .int) ∈ tG := tG_mk 341 (by decide +kernel) (by decide +kernel)
theorem tw342 : Cond.constant RX11 125 (-1000003) ∈ tG := tG_mk 342 (by decide +kernel) (by decide +kernel)
theorem tw343 : Cond.methodLink RL 36 yX11_house ∈ tG := tG_mk 343 (by decide +kernel) (by decide +kernel)
theorem tw344 : Cond.instanceMethod yX11_house ∈ tG := tG_mk 344 (by decide +kernel) (by decide +kernel)
theorem tw345 : Cond.selects RX11 yX11_house yX11_house ∈ tG := tG_mk 345 (by decide +kernel) (by decide +kernel)
theorem tw346 : Cond.code yX11_house prog_1_method_7_code 2 (some .int) ∈ tG := tG_mk 346 (by decide +kernel) (by decide +kernel)
theorem tw347 : Cond.methodLink RX11 129 yX8_tellsHouse ∈ tG := tG_mk 347 (by decide +kernel) (by decide +kernel)
theorem tw348 : Cond.instanceMethod yX8_tellsHouse ∈ tG := tG_mk 348 (by decide +kernel) (by decide +kernel)
theorem tw349 : Cond.selects RX8 yX8_tellsHouse yX8_tellsHouse ∈ tG := tG_mk 349 (by decide +kernel) (by decide +kernel)
theorem tw350 : Cond.code yX8_tellsHouse prog_10_method_2_code 3 (some .boolean) ∈ tG := tG_mk 350 (by decide +kernel) (by decide +kernel)
theorem tw351 : Cond.methodLink RX8 17 yX8_tellsLaw ∈ tG := tG_mk 351 (by decide +kernel) (by decide +kernel)
theorem tw353 : Cond.instanceMethod yX8_tellsLaw ∈ tG := tG_mk 353 (by decide +kernel) (by decide +kernel)
theorem tw354 : Cond.code yX8_tellsLaw prog_10_method_3_code 3 (some .boolean) ∈ tG := tG_mk 354 (by decide +kernel) (by decide +kernel)
theorem tw355 : Cond.methodLink RX8 30 yX8_takesSign ∈ tG := tG_mk 355 (by decide +kernel) (by decide +kernel)
theorem tw357 : Cond.instanceMethod yX8_takesSign ∈ tG := tG_mk 357 (by decide +kernel) (by decide +kernel)
theorem tw358 : Cond.code yX8_takesSign prog_10_method_6_code 2 (some .boolean) ∈ tG := tG_mk 358 (by decide +kernel) (by decide +kernel)
theorem tw359 : Cond.methodLink RX8 49 yX8_refuses ∈ tG := tG_mk 359 (by decide +kernel) (by decide +kernel)
theorem tw361 : Cond.instanceMethod yX8_refuses ∈ tG := tG_mk 361 (by decide +kernel) (by decide +kernel)
theorem tw362 : Cond.code yX8_refuses prog_10_method_9_code 2 (some .boolean) ∈ tG := tG_mk 362 (by decide +kernel) (by decide +kernel)
theorem tw363 : Cond.methodLink RX8 34 yX8_takesNumber ∈ tG := tG_mk 363 (by decide +kernel) (by decide +kernel)
theorem tw365 : Cond.instanceMethod yX8_takesNumber ∈ tG := tG_mk 365 (by decide +kernel) (by decide +kernel)
theorem tw366 : Cond.code yX8_takesNumber prog_10_method_7_code 6 (some .boolean) ∈ tG := tG_mk 366 (by decide +kernel) (by decide +kernel)
theorem tw367 : Cond.methodLink RX8 74 yX8_isFigure ∈ tG := tG_mk 367 (by decide +kernel) (by decide +kernel)
theorem tw368 : Cond.static yX8_isFigure ∈ tG := tG_mk 368 (by decide +kernel) (by decide +kernel)
theorem tw369 : Cond.code yX8_isFigure prog_10_method_8_code 1 (some .boolean) ∈ tG := tG_mk 369 (by decide +kernel) (by decide +kernel)
theorem tw370 : Cond.methodLink RX8 41 yX4_begin ∈ tG := tG_mk 370 (by decide +kernel) (by decide +kernel)
theorem tw371 : Cond.instanceMethod yX4_begin ∈ tG := tG_mk 371 (by decide +kernel) (by decide +kernel)
theorem tw372 : Cond.selects RX4 yX4_begin yX4_begin ∈ tG := tG_mk 372 (by decide +kernel) (by decide +kernel)
theorem tw373 : Cond.code yX4_begin prog_6_method_2_code 3 none ∈ tG := tG_mk 373 (by decide +kernel) (by decide +kernel)
theorem tw374 : Cond.methodLink RX8 26 yX8_tellsPerson ∈ tG := tG_mk 374 (by decide +kernel) (by decide +kernel)
theorem tw376 : Cond.instanceMethod yX8_tellsPerson ∈ tG := tG_mk 376 (by decide +kernel) (by decide +kernel)
theorem tw377 : Cond.code yX8_tellsPerson prog_10_method_4_code 4 (some .boolean) ∈ tG := tG_mk 377 (by decide +kernel) (by decide +kernel)
theorem tw378 : Cond.methodLink RX8 45 yX8_sort ∈ tG := tG_mk 378 (by decide +kernel) (by decide +kernel)
theorem tw380 : Cond.instanceMethod yX8_sort ∈ tG := tG_mk 380 (by decide +kernel) (by decide +kernel)
theorem tw381 : Cond.code yX8_sort prog_10_method_5_code 1 (some .int) ∈ tG := tG_mk 381 (by decide +kernel) (by decide +kernel)
theorem tw382 : Cond.constant RX11 139 (-1000100) ∈ tG := tG_mk 382 (by decide +kernel) (by decide +kernel)
theorem tw383 : Cond.methodLink RX11 143 yX4_become ∈ tG := tG_mk 383 (by decide +kernel) (by decide +kernel)
theorem tw384 : Cond.instanceMethod yX4_become ∈ tG := tG_mk 384 (by decide +kernel) (by decide +kernel)
theorem tw385 : Cond.selects RX4 yX4_become yX4_become ∈ tG := tG_mk 385 (by decide +kernel) (by decide +kernel)
theorem tw386 : Cond.code yX4_become prog_6_method_3_code 2 none ∈ tG := tG_mk 386 (by decide +kernel) (by decide +kernel)
theorem tw387 : Cond.methodLink RX4 47 arraycopyName ∈ tG := tG_mk 387 (by decide +kernel) (by decide +kernel)
theorem tw388 : Cond.methodLink RX11 146 yX0_forget ∈ tG := tG_mk 388 (by decide +kernel) (by decide +kernel)
theorem tw389 : Cond.instanceMethod yX0_forget ∈ tG := tG_mk 389 (by decide +kernel) (by decide +kernel)
theorem tw390 : Cond.selects RX0 yX0_forget yX0_forget ∈ tG := tG_mk 390 (by decide +kernel) (by decide +kernel)
theorem tw391 : Cond.code yX0_forget prog_2_method_2_code 1 none ∈ tG := tG_mk 391 (by decide +kernel) (by decide +kernel)
theorem tw392 : Cond.methodLink RL 41 yX11_fault ∈ tG := tG_mk 392 (by decide +kernel) (by decide +kernel)
theorem tw393 : Cond.instanceMethod yX11_fault ∈ tG := tG_mk 393 (by decide +kernel) (by decide +kernel)
theorem tw394 : Cond.selects RX11 yX11_fault yX11_fault ∈ tG := tG_mk 394 (by decide +kernel) (by decide +kernel)
theorem tw395 : Cond.code yX11_fault prog_1_method_8_code 1 (some .int) ∈ tG := tG_mk 395 (by decide +kernel) (by decide +kernel)
theorem tw396 : Cond.methodLink RL 45 yX11_steps ∈ tG := tG_mk 396 (by decide +kernel) (by decide +kernel)
theorem tw397 : Cond.instanceMethod yX11_steps ∈ tG := tG_mk 397 (by decide +kernel) (by decide +kernel)
theorem tw398 : Cond.selects RX11 yX11_steps yX11_steps ∈ tG := tG_mk 398 (by decide +kernel) (by decide +kernel)
theorem tw399 : Cond.code yX11_steps prog_1_method_9_code 3 (some .int) ∈ tG := tG_mk 399 (by decide +kernel) (by decide +kernel)
theorem tw400 : Cond.constant RX11 156 (-1000002) ∈ tG := tG_mk 400 (by decide +kernel) (by decide +kernel)
theorem tw401 : Cond.methodLink RX11 160 yX0_keep ∈ tG := tG_mk 401 (by decide +kernel) (by decide +kernel)
theorem tw402 : Cond.instanceMethod yX0_keep ∈ tG := tG_mk 402 (by decide +kernel) (by decide +kernel)
theorem tw403 : Cond.selects RX0 yX0_keep yX0_keep ∈ tG := tG_mk 403 (by decide +kernel) (by decide +kernel)
theorem tw404 : Cond.code yX0_keep prog_2_method_3_code 2 none ∈ tG := tG_mk 404 (by decide +kernel) (by decide +kernel)
theorem tw405 : Cond.methodLink RX0 23 yX4_become ∈ tG := tG_mk 405 (by decide +kernel) (by decide +kernel)
theorem tw406 : Cond.methodLink RX0 27 yJ9_min_7cf53 ∈ tG := tG_mk 406 (by decide +kernel) (by decide +kernel)
theorem tw407 : Cond.static yJ9_min_7cf53 ∈ tG := tG_mk 407 (by decide +kernel) (by decide +kernel)
theorem tw408 : Cond.code yJ9_min_7cf53 prog_16_method_69_code 2 (some .int) ∈ tG := tG_mk 408 (by decide +kernel) (by decide +kernel)
theorem tw409 : Cond.methodLink RX11 163 yX4_advance ∈ tG := tG_mk 409 (by decide +kernel) (by decide +kernel)
theorem tw410 : Cond.instanceMethod yX4_advance ∈ tG := tG_mk 410 (by decide +kernel) (by decide +kernel)
theorem tw411 : Cond.selects RX4 yX4_advance yX4_advance ∈ tG := tG_mk 411 (by decide +kernel) (by decide +kernel)
theorem tw412 : Cond.code yX4_advance prog_6_method_12_code 2 none ∈ tG := tG_mk 412 (by decide +kernel) (by decide +kernel)
theorem tw413 : Cond.methodLink RX4 69 yX4_carry ∈ tG := tG_mk 413 (by decide +kernel) (by decide +kernel)
theorem tw415 : Cond.instanceMethod yX4_carry ∈ tG := tG_mk 415 (by decide +kernel) (by decide +kernel)
theorem tw416 : Cond.code yX4_carry prog_6_method_13_code 1 none ∈ tG := tG_mk 416 (by decide +kernel) (by decide +kernel)
theorem tw417 : Cond.methodLink RX4 75 yJ6_compare_7cf53 ∈ tG := tG_mk 417 (by decide +kernel) (by decide +kernel)
theorem tw418 : Cond.static yJ6_compare_7cf53 ∈ tG := tG_mk 418 (by decide +kernel) (by decide +kernel)
theorem tw419 : Cond.code yJ6_compare_7cf53 prog_15_method_40_code 2 (some .int) ∈ tG := tG_mk 419 (by decide +kernel) (by decide +kernel)
theorem tw420 : Cond.methodLink RX4 72 yX4_goal ∈ tG := tG_mk 420 (by decide +kernel) (by decide +kernel)
theorem tw421 : Cond.instanceMethod yX4_goal ∈ tG := tG_mk 421 (by decide +kernel) (by decide +kernel)
theorem tw422 : Cond.selects RX4 yX4_goal yX4_goal ∈ tG := tG_mk 422 (by decide +kernel) (by decide +kernel)
theorem tw423 : Cond.code yX4_goal prog_6_method_11_code 4 (some .int) ∈ tG := tG_mk 423 (by decide +kernel) (by decide +kernel)
theorem tw424 : Cond.methodLink RX4 61 yX4_isBrought ∈ tG := tG_mk 424 (by decide +kernel) (by decide +kernel)
theorem tw425 : Cond.instanceMethod yX4_isBrought ∈ tG := tG_mk 425 (by decide +kernel) (by decide +kernel)
theorem tw426 : Cond.selects RX4 yX4_isBrought yX4_isBrought ∈ tG := tG_mk 426 (by decide +kernel) (by decide +kernel)
theorem tw427 : Cond.code yX4_isBrought prog_6_method_8_code 2 (some .boolean) ∈ tG := tG_mk 427 (by decide +kernel) (by decide +kernel)
theorem tw428 : Cond.methodLink RX4 65 yX4_envy ∈ tG := tG_mk 428 (by decide +kernel) (by decide +kernel)
theorem tw429 : Cond.instanceMethod yX4_envy ∈ tG := tG_mk 429 (by decide +kernel) (by decide +kernel)
theorem tw430 : Cond.selects RX4 yX4_envy yX4_envy ∈ tG := tG_mk 430 (by decide +kernel) (by decide +kernel)
theorem tw431 : Cond.code yX4_envy prog_6_method_10_code 4 (some .int) ∈ tG := tG_mk 431 (by decide +kernel) (by decide +kernel)
theorem tw432 : Cond.methodLink RX4 57 yX4_minding ∈ tG := tG_mk 432 (by decide +kernel) (by decide +kernel)
theorem tw433 : Cond.instanceMethod yX4_minding ∈ tG := tG_mk 433 (by decide +kernel) (by decide +kernel)
theorem tw434 : Cond.selects RX4 yX4_minding yX4_minding ∈ tG := tG_mk 434 (by decide +kernel) (by decide +kernel)
theorem tw435 : Cond.code yX4_minding prog_6_method_9_code 4 (some .int) ∈ tG := tG_mk 435 (by decide +kernel) (by decide +kernel)
theorem tw436 : Cond.methodLink RL 49 yX11_show ∈ tG := tG_mk 436 (by decide +kernel) (by decide +kernel)
theorem tw437 : Cond.instanceMethod yX11_show ∈ tG := tG_mk 437 (by decide +kernel) (by decide +kernel)
theorem tw438 : Cond.selects RX11 yX11_show yX11_show ∈ tG := tG_mk 438 (by decide +kernel) (by decide +kernel)
theorem tw439 : Cond.code yX11_show prog_1_method_10_code 4 (some .int) ∈ tG := tG_mk 439 (by decide +kernel) (by decide +kernel)
theorem tw440 : Cond.methodLink RX11 169 yX11_isPerson ∈ tG := tG_mk 440 (by decide +kernel) (by decide +kernel)
theorem tw442 : Cond.instanceMethod yX11_isPerson ∈ tG := tG_mk 442 (by decide +kernel) (by decide +kernel)
theorem tw443 : Cond.code yX11_isPerson prog_1_method_36_code 2 (some .boolean) ∈ tG := tG_mk 443 (by decide +kernel) (by decide +kernel)
theorem tw444 : Cond.methodLink RX11 175 yX4_put ∈ tG := tG_mk 444 (by decide +kernel) (by decide +kernel)
theorem tw445 : Cond.instanceMethod yX4_put ∈ tG := tG_mk 445 (by decide +kernel) (by decide +kernel)
theorem tw446 : Cond.selects RX4 yX4_put yX4_put ∈ tG := tG_mk 446 (by decide +kernel) (by decide +kernel)
theorem tw447 : Cond.code yX4_put prog_6_method_4_code 4 none ∈ tG := tG_mk 447 (by decide +kernel) (by decide +kernel)
theorem tw448 : Cond.methodLink RL 54 yX11_walk ∈ tG := tG_mk 448 (by decide +kernel) (by decide +kernel)
theorem tw449 : Cond.instanceMethod yX11_walk ∈ tG := tG_mk 449 (by decide +kernel) (by decide +kernel)
theorem tw450 : Cond.selects RX11 yX11_walk yX11_walk ∈ tG := tG_mk 450 (by decide +kernel) (by decide +kernel)
theorem tw451 : Cond.code yX11_walk prog_1_method_11_code 4 (some .int) ∈ tG := tG_mk 451 (by decide +kernel) (by decide +kernel)
theorem tw452 : Cond.methodLink RL 58 yX11_undo ∈ tG := tG_mk 452 (by decide +kernel) (by decide +kernel)
theorem tw453 : Cond.instanceMethod yX11_undo ∈ tG := tG_mk 453 (by decide +kernel) (by decide +kernel)
theorem tw454 : Cond.selects RX11 yX11_undo yX11_undo ∈ tG := tG_mk 454 (by decide +kernel) (by decide +kernel)
theorem tw455 : Cond.code yX11_undo prog_1_method_12_code 1 (some .int) ∈ tG := tG_mk 455 (by decide +kernel) (by decide +kernel)
theorem tw456 : Cond.methodLink RX11 191 yX0_takeBack ∈ tG := tG_mk 456 (by decide +kernel) (by decide +kernel)
theorem tw457 : Cond.instanceMethod yX0_takeBack ∈ tG := tG_mk 457 (by decide +kernel) (by decide +kernel)
theorem tw458 : Cond.selects RX0 yX0_takeBack yX0_takeBack ∈ tG := tG_mk 458 (by decide +kernel) (by decide +kernel)
theorem tw459 : Cond.code yX0_takeBack prog_2_method_4_code 2 none ∈ tG := tG_mk 459 (by decide +kernel) (by decide +kernel)
theorem tw460 : Cond.methodLink RL 62 yX11_person ∈ tG := tG_mk 460 (by decide +kernel) (by decide +kernel)
theorem tw461 : Cond.instanceMethod yX11_person ∈ tG := tG_mk 461 (by decide +kernel) (by decide +kernel)
theorem tw462 : Cond.selects RX11 yX11_person yX11_person ∈ tG := tG_mk 462 (by decide +kernel) (by decide +kernel)
theorem tw463 : Cond.code yX11_person prog_1_method_13_code 3 (some .int) ∈ tG := tG_mk 463 (by decide +kernel) (by decide +kernel)
theorem tw464 : Cond.methodLink RX11 200 yX4_envy ∈ tG := tG_mk 464 (by decide +kernel) (by decide +kernel)
theorem tw465 : Cond.methodLink RX11 203 yX4_isBrought ∈ tG := tG_mk 465 (by decide +kernel) (by decide +kernel)
theorem tw466 : Cond.methodLink RL 66 yX11_minds ∈ tG := tG_mk 466 (by decide +kernel) (by decide +kernel)
theorem tw467 : Cond.instanceMethod yX11_minds ∈ tG := tG_mk 467 (by decide +kernel) (by decide +kernel)
theorem tw468 : Cond.selects RX11 yX11_minds yX11_minds ∈ tG := tG_mk 468 (by decide +kernel) (by decide +kernel)
theorem tw469 : Cond.code yX11_minds prog_1_method_14_code 3 (some .int) ∈ tG := tG_mk 469 (by decide +kernel) (by decide +kernel)
theorem tw470 : Cond.methodLink RX11 206 yX4_minding ∈ tG := tG_mk 470 (by decide +kernel) (by decide +kernel)
theorem tw471 : Cond.methodLink RL 70 yX11_car ∈ tG := tG_mk 471 (by decide +kernel) (by decide +kernel)
theorem tw472 : Cond.instanceMethod yX11_car ∈ tG := tG_mk 472 (by decide +kernel) (by decide +kernel)
theorem tw473 : Cond.selects RX11 yX11_car yX11_car ∈ tG := tG_mk 473 (by decide +kernel) (by decide +kernel)
theorem tw474 : Cond.code yX11_car prog_1_method_15_code 2 (some .int) ∈ tG := tG_mk 474 (by decide +kernel) (by decide +kernel)
theorem tw475 : Cond.methodLink RX11 210 yX11_orNone ∈ tG := tG_mk 475 (by decide +kernel) (by decide +kernel)
theorem tw476 : Cond.static yX11_orNone ∈ tG := tG_mk 476 (by decide +kernel) (by decide +kernel)
theorem tw477 : Cond.code yX11_orNone prog_1_method_40_code 1 (some .int) ∈ tG := tG_mk 477 (by decide +kernel) (by decide +kernel)
theorem tw478 : Cond.constant RX11 226 (-1000000) ∈ tG := tG_mk 478 (by decide +kernel) (by decide +kernel)
theorem tw479 : Cond.methodLink RX11 213 yX4_goal ∈ tG := tG_mk 479 (by decide +kernel) (by decide +kernel)
theorem tw480 : Cond.methodLink RL 74 yX11_ahead ∈ tG := tG_mk 480 (by decide +kernel) (by decide +kernel)
theorem tw481 : Cond.instanceMethod yX11_ahead ∈ tG := tG_mk 481 (by decide +kernel) (by decide +kernel)
theorem tw482 : Cond.selects RX11 yX11_ahead yX11_ahead ∈ tG := tG_mk 482 (by decide +kernel) (by decide +kernel)
theorem tw483 : Cond.code yX11_ahead prog_1_method_16_code 3 (some .int) ∈ tG := tG_mk 483 (by decide +kernel) (by decide +kernel)
theorem tw484 : Cond.methodLink RX11 220 yX4_lastWithin ∈ tG := tG_mk 484 (by decide +kernel) (by decide +kernel)
theorem tw485 : Cond.instanceMethod yX4_lastWithin ∈ tG := tG_mk 485 (by decide +kernel) (by decide +kernel)
theorem tw486 : Cond.selects RX4 yX4_lastWithin yX4_lastWithin ∈ tG := tG_mk 486 (by decide +kernel) (by decide +kernel)
theorem tw487 : Cond.code yX4_lastWithin prog_6_method_15_code 5 (some .int) ∈ tG := tG_mk 487 (by decide +kernel) (by decide +kernel)
theorem tw488 : Cond.methodLink RX4 80 yX4_rests ∈ tG := tG_mk 488 (by decide +kernel) (by decide +kernel)
theorem tw490 : Cond.instanceMethod yX4_rests ∈ tG := tG_mk 490 (by decide +kernel) (by decide +kernel)
theorem tw491 : Cond.code yX4_rests prog_6_method_14_code 1 (some .boolean) ∈ tG := tG_mk 491 (by decide +kernel) (by decide +kernel)
theorem tw492 : Cond.methodLink RX4 84 yX4_advance ∈ tG := tG_mk 492 (by decide +kernel) (by decide +kernel)
theorem tw493 : Cond.methodLink RL 78 yX11_when ∈ tG := tG_mk 493 (by decide +kernel) (by decide +kernel)
theorem tw494 : Cond.instanceMethod yX11_when ∈ tG := tG_mk 494 (by decide +kernel) (by decide +kernel)
theorem tw495 : Cond.selects RX11 yX11_when yX11_when ∈ tG := tG_mk 495 (by decide +kernel) (by decide +kernel)
theorem tw496 : Cond.code yX11_when prog_1_method_17_code 2 (some .int) ∈ tG := tG_mk 496 (by decide +kernel) (by decide +kernel)
theorem tw497 : Cond.methodLink RX11 223 yX4_until ∈ tG := tG_mk 497 (by decide +kernel) (by decide +kernel)
theorem tw498 : Cond.instanceMethod yX4_until ∈ tG := tG_mk 498 (by decide +kernel) (by decide +kernel)
theorem tw499 : Cond.selects RX4 yX4_until yX4_until ∈ tG := tG_mk 499 (by decide +kernel) (by decide +kernel)
theorem tw500 : Cond.code yX4_until prog_6_method_16_code 4 (some .int) ∈ tG := tG_mk 500 (by decide +kernel) (by decide +kernel)
theorem tw501 : Cond.methodLink RL 82 yX11_first ∈ tG := tG_mk 501 (by decide +kernel) (by decide +kernel)
theorem tw502 : Cond.instanceMethod yX11_first ∈ tG := tG_mk 502 (by decide +kernel) (by decide +kernel)
theorem tw503 : Cond.selects RX11 yX11_first yX11_first ∈ tG := tG_mk 503 (by decide +kernel) (by decide +kernel)
theorem tw504 : Cond.code yX11_first prog_1_method_18_code 4 (some .int) ∈ tG := tG_mk 504 (by decide +kernel) (by decide +kernel)
theorem tw505 : Cond.methodLink RL 86 yX11_never ∈ tG := tG_mk 505 (by decide +kernel) (by decide +kernel)
theorem tw506 : Cond.instanceMethod yX11_never ∈ tG := tG_mk 506 (by decide +kernel) (by decide +kernel)
theorem tw507 : Cond.selects RX11 yX11_never yX11_never ∈ tG := tG_mk 507 (by decide +kernel) (by decide +kernel)
theorem tw508 : Cond.code yX11_never prog_1_method_19_code 1 (some .int) ∈ tG := tG_mk 508 (by decide +kernel) (by decide +kernel)
theorem tw509 : Cond.methodLink RL 90 yX11_least ∈ tG := tG_mk 509 (by decide +kernel) (by decide +kernel)
theorem tw510 : Cond.instanceMethod yX11_least ∈ tG := tG_mk 510 (by decide +kernel) (by decide +kernel)
theorem tw511 : Cond.selects RX11 yX11_least yX11_least ∈ tG := tG_mk 511 (by decide +kernel) (by decide +kernel)
theorem tw512 : Cond.code yX11_least prog_1_method_20_code 4 (some .int) ∈ tG := tG_mk 512 (by decide +kernel) (by decide +kernel)
theorem tw513 : Cond.methodLink RL 94 yX11_hide ∈ tG := tG_mk 513 (by decide +kernel) (by decide +kernel)
theorem tw514 : Cond.instanceMethod yX11_hide ∈ tG := tG_mk 514 (by decide +kernel) (by decide +kernel)
theorem tw515 : Cond.selects RX11 yX11_hide yX11_hide ∈ tG := tG_mk 515 (by decide +kernel) (by decide +kernel)
theorem tw516 : Cond.code yX11_hide prog_1_method_21_code 7 (some .int) ∈ tG := tG_mk 516 (by decide +kernel) (by decide +kernel)
theorem tw517 : Cond.methodLink RX11 227 yX11_worth ∈ tG := tG_mk 517 (by decide +kernel) (by decide +kernel)
theorem tw519 : Cond.instanceMethod yX11_worth ∈ tG := tG_mk 519 (by decide +kernel) (by decide +kernel)
theorem tw520 : Cond.code yX11_worth prog_1_method_42_code 4 (some .int) ∈ tG := tG_mk 520 (by decide +kernel) (by decide +kernel)
theorem tw521 : Cond.methodLink RX11 289 yX4_conceal ∈ tG := tG_mk 521 (by decide +kernel) (by decide +kernel)
theorem tw522 : Cond.instanceMethod yX4_conceal ∈ tG := tG_mk 522 (by decide +kernel) (by decide +kernel)
theorem tw523 : Cond.selects RX4 yX4_conceal yX4_conceal ∈ tG := tG_mk 523 (by decide +kernel) (by decide +kernel)
theorem tw524 : Cond.code yX4_conceal prog_6_method_6_code 3 none ∈ tG := tG_mk 524 (by decide +kernel) (by decide +kernel)
theorem tw525 : Cond.methodLink RX4 53 yX4_put ∈ tG := tG_mk 525 (by decide +kernel) (by decide +kernel)
theorem tw526 : Cond.methodLink RX11 237 yJ6_bitCount_0f7a4 ∈ tG := tG_mk 526 (by decide +kernel) (by decide +kernel)
theorem tw527 : Cond.static yJ6_bitCount_0f7a4 ∈ tG := tG_mk 527 (by decide +kernel) (by decide +kernel)
theorem tw528 : Cond.code yJ6_bitCount_0f7a4 prog_15_method_49_code 1 (some .int) ∈ tG := tG_mk 528 (by decide +kernel) (by decide +kernel)
theorem tw529 : Cond.constant RJ6 265 (1431655765) ∈ tG := tG_mk 529 (by decide +kernel) (by decide +kernel)
theorem tw530 : Cond.constant RJ6 266 (858993459) ∈ tG := tG_mk 530 (by decide +kernel) (by decide +kernel)
theorem tw531 : Cond.constant RJ6 267 (252645135) ∈ tG := tG_mk 531 (by decide +kernel) (by decide +kernel)
theorem tw532 : Cond.methodLink RL 98 yX11_beside ∈ tG := tG_mk 532 (by decide +kernel) (by decide +kernel)
theorem tw533 : Cond.instanceMethod yX11_beside ∈ tG := tG_mk 533 (by decide +kernel) (by decide +kernel)
theorem tw534 : Cond.selects RX11 yX11_beside yX11_beside ∈ tG := tG_mk 534 (by decide +kernel) (by decide +kernel)
theorem tw535 : Cond.code yX11_beside prog_1_method_22_code 7 (some .int) ∈ tG := tG_mk 535 (by decide +kernel) (by decide +kernel)
theorem tw536 : Cond.methodLink RL 102 yX11_fits ∈ tG := tG_mk 536 (by decide +kernel) (by decide +kernel)
theorem tw537 : Cond.instanceMethod yX11_fits ∈ tG := tG_mk 537 (by decide +kernel) (by decide +kernel)
theorem tw538 : Cond.selects RX11 yX11_fits yX11_fits ∈ tG := tG_mk 538 (by decide +kernel) (by decide +kernel)
theorem tw539 : Cond.code yX11_fits prog_1_method_23_code 7 (some .int) ∈ tG := tG_mk 539 (by decide +kernel) (by decide +kernel)
theorem tw540 : Cond.methodLink RX11 230 yX11_fitting ∈ tG := tG_mk 540 (by decide +kernel) (by decide +kernel)
theorem tw542 : Cond.instanceMethod yX11_fitting ∈ tG := tG_mk 542 (by decide +kernel) (by decide +kernel)
theorem tw543 : Cond.code yX11_fitting prog_1_method_44_code 9 (some .int) ∈ tG := tG_mk 543 (by decide +kernel) (by decide +kernel)
theorem tw544 : Cond.methodLink RX11 293 yX4_mostOf ∈ tG := tG_mk 544 (by decide +kernel) (by decide +kernel)
theorem tw545 : Cond.instanceMethod yX4_mostOf ∈ tG := tG_mk 545 (by decide +kernel) (by decide +kernel)
theorem tw546 : Cond.selects RX4 yX4_mostOf yX4_mostOf ∈ tG := tG_mk 546 (by decide +kernel) (by decide +kernel)
theorem tw547 : Cond.code yX4_mostOf prog_6_method_5_code 2 (some .int) ∈ tG := tG_mk 547 (by decide +kernel) (by decide +kernel)
theorem tw548 : Cond.methodLink RX11 296 yX4_goesAs ∈ tG := tG_mk 548 (by decide +kernel) (by decide +kernel)
theorem tw549 : Cond.instanceMethod yX4_goesAs ∈ tG := tG_mk 549 (by decide +kernel) (by decide +kernel)
theorem tw550 : Cond.selects RX4 yX4_goesAs yX4_goesAs ∈ tG := tG_mk 550 (by decide +kernel) (by decide +kernel)
theorem tw551 : Cond.code yX4_goesAs prog_6_method_17_code 5 (some .boolean) ∈ tG := tG_mk 551 (by decide +kernel) (by decide +kernel)
theorem tw552 : Cond.methodLink RL 106 yX11_hidden ∈ tG := tG_mk 552 (by decide +kernel) (by decide +kernel)
theorem tw553 : Cond.instanceMethod yX11_hidden ∈ tG := tG_mk 553 (by decide +kernel) (by decide +kernel)
theorem tw554 : Cond.selects RX11 yX11_hidden yX11_hidden ∈ tG := tG_mk 554 (by decide +kernel) (by decide +kernel)
theorem tw555 : Cond.code yX11_hidden prog_1_method_24_code 11 (some .int) ∈ tG := tG_mk 555 (by decide +kernel) (by decide +kernel)
theorem tw556 : Cond.methodLink RX11 234 yX4_showing ∈ tG := tG_mk 556 (by decide +kernel) (by decide +kernel)
theorem tw557 : Cond.instanceMethod yX4_showing ∈ tG := tG_mk 557 (by decide +kernel) (by decide +kernel)
theorem tw558 : Cond.selects RX4 yX4_showing yX4_showing ∈ tG := tG_mk 558 (by decide +kernel) (by decide +kernel)
theorem tw559 : Cond.code yX4_showing prog_6_method_7_code 3 (some .int) ∈ tG := tG_mk 559 (by decide +kernel) (by decide +kernel)
theorem tw560 : Cond.methodLink RX11 242 yX11_power ∈ tG := tG_mk 560 (by decide +kernel) (by decide +kernel)
theorem tw561 : Cond.static yX11_power ∈ tG := tG_mk 561 (by decide +kernel) (by decide +kernel)
theorem tw562 : Cond.code yX11_power prog_1_method_45_code 4 (some .int) ∈ tG := tG_mk 562 (by decide +kernel) (by decide +kernel)
theorem tw563 : Cond.methodLink RX11 245 yX11_isBroughtHiding ∈ tG := tG_mk 563 (by decide +kernel) (by decide +kernel)
theorem tw565 : Cond.instanceMethod yX11_isBroughtHiding ∈ tG := tG_mk 565 (by decide +kernel) (by decide +kernel)
theorem tw566 : Cond.code yX11_isBroughtHiding prog_1_method_43_code 4 (some .boolean) ∈ tG := tG_mk 566 (by decide +kernel) (by decide +kernel)
theorem tw567 : Cond.methodLink RX11 248 yX11_commonDivisor ∈ tG := tG_mk 567 (by decide +kernel) (by decide +kernel)
theorem tw568 : Cond.static yX11_commonDivisor ∈ tG := tG_mk 568 (by decide +kernel) (by decide +kernel)
theorem tw569 : Cond.code yX11_commonDivisor prog_1_method_46_code 6 (some .int) ∈ tG := tG_mk 569 (by decide +kernel) (by decide +kernel)
theorem tw570 : Cond.methodLink RX11 300 yJ9_max_7cf53 ∈ tG := tG_mk 570 (by decide +kernel) (by decide +kernel)
theorem tw571 : Cond.static yJ9_max_7cf53 ∈ tG := tG_mk 571 (by decide +kernel) (by decide +kernel)
theorem tw572 : Cond.code yJ9_max_7cf53 prog_16_method_65_code 2 (some .int) ∈ tG := tG_mk 572 (by decide +kernel) (by decide +kernel)
theorem tw573 : Cond.methodLink RL 111 yX11_drawn ∈ tG := tG_mk 573 (by decide +kernel) (by decide +kernel)
theorem tw574 : Cond.instanceMethod yX11_drawn ∈ tG := tG_mk 574 (by decide +kernel) (by decide +kernel)
theorem tw575 : Cond.selects RX11 yX11_drawn yX11_drawn ∈ tG := tG_mk 575 (by decide +kernel) (by decide +kernel)
theorem tw576 : Cond.code yX11_drawn prog_1_method_25_code 7 (some .int) ∈ tG := tG_mk 576 (by decide +kernel) (by decide +kernel)
theorem tw577 : Cond.constant RX11 251 (999999) ∈ tG := tG_mk 577 (by decide +kernel) (by decide +kernel)
theorem tw578 : Cond.constantLong RX11 252 (16807) ∈ tG := tG_mk 578 (by decide +kernel) (by decide +kernel)
theorem tw579 : Cond.constantLong RX11 254 (2147483647) ∈ tG := tG_mk 579 (by decide +kernel) (by decide +kernel)
theorem tw580 : Cond.methodLink RX11 256 yX4_stray ∈ tG := tG_mk 580 (by decide +kernel) (by decide +kernel)
theorem tw581 : Cond.instanceMethod yX4_stray ∈ tG := tG_mk 581 (by decide +kernel) (by decide +kernel)
theorem tw582 : Cond.selects RX4 yX4_stray yX4_stray ∈ tG := tG_mk 582 (by decide +kernel) (by decide +kernel)
theorem tw583 : Cond.code yX4_stray prog_6_method_18_code 5 none ∈ tG := tG_mk 583 (by decide +kernel) (by decide +kernel)
theorem tw584 : Cond.constantLong RX4 87 (3) ∈ tG := tG_mk 584 (by decide +kernel) (by decide +kernel)
theorem tw585 : Cond.methodLink RL 115 yX11_image ∈ tG := tG_mk 585 (by decide +kernel) (by decide +kernel)
theorem tw586 : Cond.instanceMethod yX11_image ∈ tG := tG_mk 586 (by decide +kernel) (by decide +kernel)
theorem tw587 : Cond.selects RX11 yX11_image yX11_image ∈ tG := tG_mk 587 (by decide +kernel) (by decide +kernel)
theorem tw588 : Cond.code yX11_image prog_1_method_26_code 2 (some .int) ∈ tG := tG_mk 588 (by decide +kernel) (by decide +kernel)
theorem tw589 : Cond.methodLink RL 119 yX11_restore ∈ tG := tG_mk 589 (by decide +kernel) (by decide +kernel)
theorem tw590 : Cond.instanceMethod yX11_restore ∈ tG := tG_mk 590 (by decide +kernel) (by decide +kernel)
theorem tw591 : Cond.selects RX11 yX11_restore yX11_restore ∈ tG := tG_mk 591 (by decide +kernel) (by decide +kernel)
theorem tw592 : Cond.code yX11_restore prog_1_method_27_code 2 (some .int) ∈ tG := tG_mk 592 (by decide +kernel) (by decide +kernel)
theorem tw593 : Cond.methodLink RL 123 yX11_kind ∈ tG := tG_mk 593 (by decide +kernel) (by decide +kernel)
theorem tw594 : Cond.instanceMethod yX11_kind ∈ tG := tG_mk 594 (by decide +kernel) (by decide +kernel)
theorem tw595 : Cond.selects RX11 yX11_kind yX11_kind ∈ tG := tG_mk 595 (by decide +kernel) (by decide +kernel)
theorem tw596 : Cond.code yX11_kind prog_1_method_28_code 2 (some .int) ∈ tG := tG_mk 596 (by decide +kernel) (by decide +kernel)
theorem tw597 : Cond.methodLink RL 127 yX11_as ∈ tG := tG_mk 597 (by decide +kernel) (by decide +kernel)
theorem tw598 : Cond.instanceMethod yX11_as ∈ tG := tG_mk 598 (by decide +kernel) (by decide +kernel)
theorem tw599 : Cond.selects RX11 yX11_as yX11_as ∈ tG := tG_mk 599 (by decide +kernel) (by decide +kernel)
theorem tw600 : Cond.code yX11_as prog_1_method_29_code 3 (some .int) ∈ tG := tG_mk 600 (by decide +kernel) (by decide +kernel)
theorem tw601 : Cond.methodLink RX11 263 yX11_kindOf ∈ tG := tG_mk 601 (by decide +kernel) (by decide +kernel)
theorem tw603 : Cond.instanceMethod yX11_kindOf ∈ tG := tG_mk 603 (by decide +kernel) (by decide +kernel)
theorem tw604 : Cond.code yX11_kindOf prog_1_method_37_code 2 (some (.object "LiftEnvy$Person")) ∈ tG := tG_mk 604 (by decide +kernel) (by decide +kernel)
theorem tw605 : Cond.methodLink RX11 267 yX11_isOne ∈ tG := tG_mk 605 (by decide +kernel) (by decide +kernel)
theorem tw606 : Cond.static yX11_isOne ∈ tG := tG_mk 606 (by decide +kernel) (by decide +kernel)
theorem tw607 : Cond.code yX11_isOne prog_1_method_47_code 2 (some .boolean) ∈ tG := tG_mk 607 (by decide +kernel) (by decide +kernel)
theorem tw608 : Cond.methodLink RL 131 yX11_ask ∈ tG := tG_mk 608 (by decide +kernel) (by decide +kernel)
theorem tw609 : Cond.instanceMethod yX11_ask ∈ tG := tG_mk 609 (by decide +kernel) (by decide +kernel)
theorem tw610 : Cond.selects RX11 yX11_ask yX11_ask ∈ tG := tG_mk 610 (by decide +kernel) (by decide +kernel)
theorem tw611 : Cond.code yX11_ask prog_1_method_30_code 4 (some .int) ∈ tG := tG_mk 611 (by decide +kernel) (by decide +kernel)
theorem tw612 : Cond.methodLink RX11 272 yX6_size ∈ tG := tG_mk 612 (by decide +kernel) (by decide +kernel)
theorem tw613 : Cond.instanceMethod yX6_size ∈ tG := tG_mk 613 (by decide +kernel) (by decide +kernel)
theorem tw614 : Cond.sameMethod "LiftEnvy$Person" "LiftEnvy$Person" "size" "(LLiftEnvy$House;ILLiftEnvy$Trace;)I" ∈ tG := tG_mk 614 (by decide +kernel) (by decide +kernel)
theorem tw615 : Cond.selects RX1 yX6_size yX1_size ∈ tG := tG_mk 615 (by decide +kernel) (by decide +kernel)
theorem tw616 : Cond.instanceMethod yX1_size ∈ tG := tG_mk 616 (by decide +kernel) (by decide +kernel)
theorem tw617 : Cond.code yX1_size prog_3_method_2_code 4 (some .int) ∈ tG := tG_mk 617 (by decide +kernel) (by decide +kernel)
theorem tw618 : Cond.methodLink RX1 7 yX9_leave ∈ tG := tG_mk 618 (by decide +kernel) (by decide +kernel)
theorem tw619 : Cond.instanceMethod yX9_leave ∈ tG := tG_mk 619 (by decide +kernel) (by decide +kernel)
theorem tw620 : Cond.selects RX9 yX9_leave yX9_leave ∈ tG := tG_mk 620 (by decide +kernel) (by decide +kernel)
theorem tw621 : Cond.code yX9_leave prog_11_method_2_code 2 none ∈ tG := tG_mk 621 (by decide +kernel) (by decide +kernel)
theorem tw622 : Cond.methodLink RX1 13 yX6_size ∈ tG := tG_mk 622 (by decide +kernel) (by decide +kernel)
theorem tw623 : Cond.selects RX2 yX6_size yX2_size ∈ tG := tG_mk 623 (by decide +kernel) (by decide +kernel)
theorem tw624 : Cond.instanceMethod yX2_size ∈ tG := tG_mk 624 (by decide +kernel) (by decide +kernel)
theorem tw625 : Cond.code yX2_size prog_4_method_2_code 4 (some .int) ∈ tG := tG_mk 625 (by decide +kernel) (by decide +kernel)
theorem tw626 : Cond.methodLink RX2 7 yX9_leave ∈ tG := tG_mk 626 (by decide +kernel) (by decide +kernel)
theorem tw627 : Cond.methodLink RX2 13 yX6_size ∈ tG := tG_mk 627 (by decide +kernel) (by decide +kernel)
theorem tw628 : Cond.methodLink RX2 17 yX2_mark ∈ tG := tG_mk 628 (by decide +kernel) (by decide +kernel)
theorem tw629 : Cond.instanceMethod yX2_mark ∈ tG := tG_mk 629 (by decide +kernel) (by decide +kernel)
theorem tw630 : Cond.selects RX2 yX2_mark yX2_mark ∈ tG := tG_mk 630 (by decide +kernel) (by decide +kernel)
theorem tw631 : Cond.sameMethod "LiftEnvy$Clerk" "LiftEnvy$Clerk" "mark" "(LLiftEnvy$House;ILLiftEnvy$Trace;)I" ∈ tG := tG_mk 631 (by decide +kernel) (by decide +kernel)
theorem tw632 : Cond.selects RX5 yX2_mark yX5_mark ∈ tG := tG_mk 632 (by decide +kernel) (by decide +kernel)
theorem tw633 : Cond.instanceMethod yX5_mark ∈ tG := tG_mk 633 (by decide +kernel) (by decide +kernel)
theorem tw634 : Cond.code yX5_mark prog_7_method_2_code 4 (some .int) ∈ tG := tG_mk 634 (by decide +kernel) (by decide +kernel)
theorem tw635 : Cond.methodLink RX5 7 yX9_leave ∈ tG := tG_mk 635 (by decide +kernel) (by decide +kernel)
theorem tw636 : Cond.methodLink RX5 13 yX2_mark ∈ tG := tG_mk 636 (by decide +kernel) (by decide +kernel)
theorem tw637 : Cond.selects RX10 yX2_mark yX10_mark ∈ tG := tG_mk 637 (by decide +kernel) (by decide +kernel)
theorem tw638 : Cond.instanceMethod yX10_mark ∈ tG := tG_mk 638 (by decide +kernel) (by decide +kernel)
theorem tw639 : Cond.code yX10_mark prog_12_method_3_code 4 (some .int) ∈ tG := tG_mk 639 (by decide +kernel) (by decide +kernel)
theorem tw640 : Cond.methodLink RX10 7 yX9_leave ∈ tG := tG_mk 640 (by decide +kernel) (by decide +kernel)
theorem tw641 : Cond.methodLink RX10 17 yX2_mark ∈ tG := tG_mk 641 (by decide +kernel) (by decide +kernel)
theorem tw642 : Cond.code yX2_mark prog_4_method_3_code 4 (some .int) ∈ tG := tG_mk 642 (by decide +kernel) (by decide +kernel)
theorem tw643 : Cond.methodLink RX2 22 yX6_mark ∈ tG := tG_mk 643 (by decide +kernel) (by decide +kernel)
theorem tw644 : Cond.instanceMethod yX6_mark ∈ tG := tG_mk 644 (by decide +kernel) (by decide +kernel)
theorem tw645 : Cond.code yX6_mark prog_8_method_3_code 4 (some .int) ∈ tG := tG_mk 645 (by decide +kernel) (by decide +kernel)
theorem tw646 : Cond.methodLink RX6 7 yX9_leave ∈ tG := tG_mk 646 (by decide +kernel) (by decide +kernel)
theorem tw647 : Cond.methodLink RX2 23 yX4_envy ∈ tG := tG_mk 647 (by decide +kernel) (by decide +kernel)
theorem tw648 : Cond.selects RX3 yX6_size yX3_size ∈ tG := tG_mk 648 (by decide +kernel) (by decide +kernel)
theorem tw649 : Cond.instanceMethod yX3_size ∈ tG := tG_mk 649 (by decide +kernel) (by decide +kernel)
theorem tw650 : Cond.code yX3_size prog_5_method_2_code 4 (some .int) ∈ tG := tG_mk 650 (by decide +kernel) (by decide +kernel)
theorem tw651 : Cond.methodLink RX3 7 yX9_leave ∈ tG := tG_mk 651 (by decide +kernel) (by decide +kernel)
theorem tw652 : Cond.methodLink RX3 13 yX1_size ∈ tG := tG_mk 652 (by decide +kernel) (by decide +kernel)
theorem tw653 : Cond.selects RX5 yX6_size yX2_size ∈ tG := tG_mk 653 (by decide +kernel) (by decide +kernel)
theorem tw654 : Cond.selects RX10 yX6_size yX10_size ∈ tG := tG_mk 654 (by decide +kernel) (by decide +kernel)
theorem tw655 : Cond.instanceMethod yX10_size ∈ tG := tG_mk 655 (by decide +kernel) (by decide +kernel)
theorem tw656 : Cond.code yX10_size prog_12_method_2_code 4 (some .int) ∈ tG := tG_mk 656 (by decide +kernel) (by decide +kernel)
theorem tw657 : Cond.methodLink RX10 13 yX2_size ∈ tG := tG_mk 657 (by decide +kernel) (by decide +kernel)
theorem tw658 : Cond.code yX6_size prog_8_method_2_code 4 (some .int) ∈ tG := tG_mk 658 (by decide +kernel) (by decide +kernel)
theorem tw659 : Cond.methodLink RX11 276 yX6_mark ∈ tG := tG_mk 659 (by decide +kernel) (by decide +kernel)
theorem tw660 : Cond.instanceMethod yX1_mark ∈ tG := tG_mk 660 (by decide +kernel) (by decide +kernel)
theorem tw661 : Cond.code yX1_mark prog_3_method_3_code 4 (some .int) ∈ tG := tG_mk 661 (by decide +kernel) (by decide +kernel)
theorem tw662 : Cond.methodLink RX1 17 yX6_mark ∈ tG := tG_mk 662 (by decide +kernel) (by decide +kernel)
theorem tw663 : Cond.methodLink RX1 20 yX1_size ∈ tG := tG_mk 663 (by decide +kernel) (by decide +kernel)
theorem tw664 : Cond.methodLink RL 135 yX11_trace ∈ tG := tG_mk 664 (by decide +kernel) (by decide +kernel)
theorem tw665 : Cond.instanceMethod yX11_trace ∈ tG := tG_mk 665 (by decide +kernel) (by decide +kernel)
theorem tw666 : Cond.selects RX11 yX11_trace yX11_trace ∈ tG := tG_mk 666 (by decide +kernel) (by decide +kernel)
theorem tw667 : Cond.code yX11_trace prog_1_method_31_code 2 (some .int) ∈ tG := tG_mk 667 (by decide +kernel) (by decide +kernel)
theorem tw668 : Cond.methodLink RL 139 yX11_count ∈ tG := tG_mk 668 (by decide +kernel) (by decide +kernel)
theorem tw669 : Cond.instanceMethod yX11_count ∈ tG := tG_mk 669 (by decide +kernel) (by decide +kernel)
theorem tw670 : Cond.selects RX11 yX11_count yX11_count ∈ tG := tG_mk 670 (by decide +kernel) (by decide +kernel)
theorem tw671 : Cond.code yX11_count prog_1_method_32_code 2 (some .int) ∈ tG := tG_mk 671 (by decide +kernel) (by decide +kernel)
theorem tw672 : Cond.methodLink RX11 282 yX11_rowsThere ∈ tG := tG_mk 672 (by decide +kernel) (by decide +kernel)
theorem tw674 : Cond.instanceMethod yX11_rowsThere ∈ tG := tG_mk 674 (by decide +kernel) (by decide +kernel)
theorem tw675 : Cond.code yX11_rowsThere prog_1_method_41_code 3 (some .int) ∈ tG := tG_mk 675 (by decide +kernel) (by decide +kernel)
theorem tw676 : Cond.methodLink RL 143 yX11_status ∈ tG := tG_mk 676 (by decide +kernel) (by decide +kernel)
theorem tw677 : Cond.instanceMethod yX11_status ∈ tG := tG_mk 677 (by decide +kernel) (by decide +kernel)
theorem tw678 : Cond.selects RX11 yX11_status yX11_status ∈ tG := tG_mk 678 (by decide +kernel) (by decide +kernel)
theorem tw679 : Cond.code yX11_status prog_1_method_33_code 1 (some .int) ∈ tG := tG_mk 679 (by decide +kernel) (by decide +kernel)
theorem tw680 : Cond.classLink RL 10 RX12 ∈ tG := tG_mk 680 (by decide +kernel) (by decide +kernel)
theorem tw682 : Cond.methodLink RL 12 yX12_init ∈ tG := tG_mk 682 (by decide +kernel) (by decide +kernel)
theorem tw683 : Cond.instanceMethod yX12_init ∈ tG := tG_mk 683 (by decide +kernel) (by decide +kernel)
theorem tw684 : Cond.code yX12_init prog_14_method_1_code 2 none ∈ tG := tG_mk 684 (by decide +kernel) (by decide +kernel)
theorem tw685 : Cond.methodLink RX12 1 objectInit ∈ tG := tG_mk 685 (by decide +kernel) (by decide +kernel)
theorem tw686 : Cond.constant RX12 47 (-1000000) ∈ tG := tG_mk 686 (by decide +kernel) (by decide +kernel)
theorem tw687 : Cond.fieldLink RX12 7 "LiftEnvyModel" "lane" "[I" ∈ tG := tG_mk 687 (by decide +kernel) (by decide +kernel)
theorem tw688 : Cond.fieldLink RX12 13 "LiftEnvyModel" "many" "[I" ∈ tG := tG_mk 688 (by decide +kernel) (by decide +kernel)
theorem tw689 : Cond.fieldLink RX12 16 "LiftEnvyModel" "items" "[I" ∈ tG := tG_mk 689 (by decide +kernel) (by decide +kernel)
theorem tw690 : Cond.fieldLink RX12 19 "LiftEnvyModel" "spare" "[I" ∈ tG := tG_mk 690 (by decide +kernel) (by decide +kernel)
theorem tw691 : Cond.fieldLink RX12 48 "LiftEnvyModel" "status" "I" ∈ tG := tG_mk 691 (by decide +kernel) (by decide +kernel)
theorem tw692 : Cond.fieldLink RX12 22 "LiftEnvyModel" "tape" "[I" ∈ tG := tG_mk 692 (by decide +kernel) (by decide +kernel)
theorem tw693 : Cond.fieldLink RX12 79 "LiftEnvyModel" "taped" "I" ∈ tG := tG_mk 693 (by decide +kernel) (by decide +kernel)
theorem tw694 : Cond.fieldLink RX12 105 "LiftEnvyModel" "faultKind" "I" ∈ tG := tG_mk 694 (by decide +kernel) (by decide +kernel)
theorem tw695 : Cond.fieldLink RX12 98 "LiftEnvyModel" "faultPlace" "I" ∈ tG := tG_mk 695 (by decide +kernel) (by decide +kernel)
theorem tw696 : Cond.fieldLink RX12 83 "LiftEnvyModel" "at" "I" ∈ tG := tG_mk 696 (by decide +kernel) (by decide +kernel)
theorem tw697 : Cond.fieldLink RX12 86 "LiftEnvyModel" "start" "I" ∈ tG := tG_mk 697 (by decide +kernel) (by decide +kernel)
theorem tw698 : Cond.fieldLink RX12 95 "LiftEnvyModel" "token" "I" ∈ tG := tG_mk 698 (by decide +kernel) (by decide +kernel)
theorem tw699 : Cond.fieldLink RX12 92 "LiftEnvyModel" "value" "I" ∈ tG := tG_mk 699 (by decide +kernel) (by decide +kernel)
theorem tw700 : Cond.fieldLink RX12 25 "LiftEnvyModel" "now" "[I" ∈ tG := tG_mk 700 (by decide +kernel) (by decide +kernel)
theorem tw701 : Cond.fieldLink RX12 28 "LiftEnvyModel" "draft" "[I" ∈ tG := tG_mk 701 (by decide +kernel) (by decide +kernel)
theorem tw702 : Cond.fieldLink RX12 31 "LiftEnvyModel" "tried" "[I" ∈ tG := tG_mk 702 (by decide +kernel) (by decide +kernel)
theorem tw703 : Cond.fieldLink RX12 34 "LiftEnvyModel" "past" "[I" ∈ tG := tG_mk 703 (by decide +kernel) (by decide +kernel)
theorem tw704 : Cond.fieldLink RX12 132 "LiftEnvyModel" "acts" "I" ∈ tG := tG_mk 704 (by decide +kernel) (by decide +kernel)
theorem tw705 : Cond.fieldLink RX12 37 "LiftEnvyModel" "images" "[I" ∈ tG := tG_mk 705 (by decide +kernel) (by decide +kernel)
theorem tw706 : Cond.fieldLink RX12 40 "LiftEnvyModel" "kept" "[Z" ∈ tG := tG_mk 706 (by decide +kernel) (by decide +kernel)
theorem tw707 : Cond.fieldLink RX12 44 "LiftEnvyModel" "trace" "[I" ∈ tG := tG_mk 707 (by decide +kernel) (by decide +kernel)
theorem tw708 : Cond.fieldLink RX12 207 "LiftEnvyModel" "traced" "I" ∈ tG := tG_mk 708 (by decide +kernel) (by decide +kernel)
theorem tw753 : Cond.superclass RX12 "java/lang/Object" ∈ tG := tG_mk 753 (by decide +kernel) (by decide +kernel)
theorem tw754 : Cond.methodLink RL 17 yX12_row ∈ tG := tG_mk 754 (by decide +kernel) (by decide +kernel)
theorem tw755 : Cond.instanceMethod yX12_row ∈ tG := tG_mk 755 (by decide +kernel) (by decide +kernel)
theorem tw756 : Cond.selects RX12 yX12_row yX12_row ∈ tG := tG_mk 756 (by decide +kernel) (by decide +kernel)
theorem tw757 : Cond.code yX12_row prog_14_method_12_code 5 (some .int) ∈ tG := tG_mk 757 (by decide +kernel) (by decide +kernel)
theorem tw758 : Cond.methodLink RX12 57 yX12_isRow ∈ tG := tG_mk 758 (by decide +kernel) (by decide +kernel)
theorem tw759 : Cond.static yX12_isRow ∈ tG := tG_mk 759 (by decide +kernel) (by decide +kernel)
theorem tw760 : Cond.code yX12_isRow prog_14_method_9_code 1 (some .boolean) ∈ tG := tG_mk 760 (by decide +kernel) (by decide +kernel)
theorem tw761 : Cond.methodLink RX12 53 yX12_in ∈ tG := tG_mk 761 (by decide +kernel) (by decide +kernel)
theorem tw762 : Cond.static yX12_in ∈ tG := tG_mk 762 (by decide +kernel) (by decide +kernel)
theorem tw763 : Cond.code yX12_in prog_14_method_3_code 3 (some .boolean) ∈ tG := tG_mk 763 (by decide +kernel) (by decide +kernel)
theorem tw764 : Cond.constant RX12 61 (-1000001) ∈ tG := tG_mk 764 (by decide +kernel) (by decide +kernel)
theorem tw765 : Cond.methodLink RX12 62 yX12_found ∈ tG := tG_mk 765 (by decide +kernel) (by decide +kernel)
theorem tw767 : Cond.instanceMethod yX12_found ∈ tG := tG_mk 767 (by decide +kernel) (by decide +kernel)
theorem tw768 : Cond.code yX12_found prog_14_method_6_code 2 (some .int) ∈ tG := tG_mk 768 (by decide +kernel) (by decide +kernel)
theorem tw769 : Cond.constant RX12 52 (-1000010) ∈ tG := tG_mk 769 (by decide +kernel) (by decide +kernel)
theorem tw770 : Cond.methodLink RX12 66 yX12_well ∈ tG := tG_mk 770 (by decide +kernel) (by decide +kernel)
theorem tw772 : Cond.instanceMethod yX12_well ∈ tG := tG_mk 772 (by decide +kernel) (by decide +kernel)
theorem tw773 : Cond.code yX12_well prog_14_method_7_code 2 (some .int) ∈ tG := tG_mk 773 (by decide +kernel) (by decide +kernel)
theorem tw774 : Cond.methodLink RL 21 yX12_set ∈ tG := tG_mk 774 (by decide +kernel) (by decide +kernel)
theorem tw775 : Cond.instanceMethod yX12_set ∈ tG := tG_mk 775 (by decide +kernel) (by decide +kernel)
theorem tw776 : Cond.selects RX12 yX12_set yX12_set ∈ tG := tG_mk 776 (by decide +kernel) (by decide +kernel)
theorem tw777 : Cond.code yX12_set prog_14_method_13_code 4 (some .int) ∈ tG := tG_mk 777 (by decide +kernel) (by decide +kernel)
theorem tw778 : Cond.methodLink RX12 69 yX12_isMissing ∈ tG := tG_mk 778 (by decide +kernel) (by decide +kernel)
theorem tw780 : Cond.instanceMethod yX12_isMissing ∈ tG := tG_mk 780 (by decide +kernel) (by decide +kernel)
theorem tw781 : Cond.code yX12_isMissing prog_14_method_10_code 2 (some .boolean) ∈ tG := tG_mk 781 (by decide +kernel) (by decide +kernel)
theorem tw782 : Cond.methodLink RX12 72 yX12_cut ∈ tG := tG_mk 782 (by decide +kernel) (by decide +kernel)
theorem tw783 : Cond.static yX12_cut ∈ tG := tG_mk 783 (by decide +kernel) (by decide +kernel)
theorem tw784 : Cond.code yX12_cut prog_14_method_11_code 2 (some .int) ∈ tG := tG_mk 784 (by decide +kernel) (by decide +kernel)
theorem tw785 : Cond.methodLink RL 26 yX12_copy ∈ tG := tG_mk 785 (by decide +kernel) (by decide +kernel)
theorem tw786 : Cond.instanceMethod yX12_copy ∈ tG := tG_mk 786 (by decide +kernel) (by decide +kernel)
theorem tw787 : Cond.selects RX12 yX12_copy yX12_copy ∈ tG := tG_mk 787 (by decide +kernel) (by decide +kernel)
theorem tw788 : Cond.code yX12_copy prog_14_method_15_code 7 (some .int) ∈ tG := tG_mk 788 (by decide +kernel) (by decide +kernel)
theorem tw789 : Cond.methodLink RX12 76 yX12_isPart ∈ tG := tG_mk 789 (by decide +kernel) (by decide +kernel)
theorem tw791 : Cond.instanceMethod yX12_isPart ∈ tG := tG_mk 791 (by decide +kernel) (by decide +kernel)
theorem tw792 : Cond.code yX12_isPart prog_14_method_14_code 4 (some .boolean) ∈ tG := tG_mk 792 (by decide +kernel) (by decide +kernel)
theorem tw793 : Cond.methodLink RL 31 yX12_drop ∈ tG := tG_mk 793 (by decide +kernel) (by decide +kernel)
theorem tw794 : Cond.instanceMethod yX12_drop ∈ tG := tG_mk 794 (by decide +kernel) (by decide +kernel)
theorem tw795 : Cond.selects RX12 yX12_drop yX12_drop ∈ tG := tG_mk 795 (by decide +kernel) (by decide +kernel)
theorem tw796 : Cond.code yX12_drop prog_14_method_16_code 2 (some .int) ∈ tG := tG_mk 796 (by decide +kernel) (by decide +kernel)
theorem tw797 : Cond.methodLink RL 35 yX12_feed ∈ tG := tG_mk 797 (by decide +kernel) (by decide +kernel)
theorem tw798 : Cond.instanceMethod yX12_feed ∈ tG := tG_mk 798 (by decide +kernel) (by decide +kernel)
theorem tw799 : Cond.selects RX12 yX12_feed yX12_feed ∈ tG := tG_mk 799 (by decide +kernel) (by decide +kernel)
theorem tw800 : Cond.code yX12_feed prog_14_method_17_code 2 (some .int) ∈ tG := tG_mk 800 (by decide +kernel) (by decide +kernel)
theorem tw801 : Cond.constant RX12 82 (-1000003) ∈ tG := tG_mk 801 (by decide +kernel) (by decide +kernel)
theorem tw802 : Cond.methodLink RL 40 yX12_house ∈ tG := tG_mk 802 (by decide +kernel) (by decide +kernel)
theorem tw803 : Cond.instanceMethod yX12_house ∈ tG := tG_mk 803 (by decide +kernel) (by decide +kernel)
theorem tw804 : Cond.selects RX12 yX12_house yX12_house ∈ tG := tG_mk 804 (by decide +kernel) (by decide +kernel)
theorem tw805 : Cond.code yX12_house prog_14_method_26_code 2 (some .int) ∈ tG := tG_mk 805 (by decide +kernel) (by decide +kernel)
theorem tw806 : Cond.methodLink RX12 108 yX12_advances ∈ tG := tG_mk 806 (by decide +kernel) (by decide +kernel)
theorem tw808 : Cond.instanceMethod yX12_advances ∈ tG := tG_mk 808 (by decide +kernel) (by decide +kernel)
theorem tw809 : Cond.code yX12_advances prog_14_method_19_code 2 none ∈ tG := tG_mk 809 (by decide +kernel) (by decide +kernel)
theorem tw810 : Cond.methodLink RX12 89 yX12_byteAt ∈ tG := tG_mk 810 (by decide +kernel) (by decide +kernel)
theorem tw812 : Cond.instanceMethod yX12_byteAt ∈ tG := tG_mk 812 (by decide +kernel) (by decide +kernel)
theorem tw813 : Cond.code yX12_byteAt prog_14_method_18_code 2 (some .int) ∈ tG := tG_mk 813 (by decide +kernel) (by decide +kernel)
theorem tw814 : Cond.methodLink RX12 111 yX12_takes ∈ tG := tG_mk 814 (by decide +kernel) (by decide +kernel)
theorem tw816 : Cond.instanceMethod yX12_takes ∈ tG := tG_mk 816 (by decide +kernel) (by decide +kernel)
theorem tw817 : Cond.code yX12_takes prog_14_method_21_code 4 (some .int) ∈ tG := tG_mk 817 (by decide +kernel) (by decide +kernel)
theorem tw818 : Cond.methodLink RX12 101 yX12_isWell ∈ tG := tG_mk 818 (by decide +kernel) (by decide +kernel)
theorem tw820 : Cond.instanceMethod yX12_isWell ∈ tG := tG_mk 820 (by decide +kernel) (by decide +kernel)
theorem tw821 : Cond.code yX12_isWell prog_14_method_20_code 1 (some .boolean) ∈ tG := tG_mk 821 (by decide +kernel) (by decide +kernel)
theorem tw822 : Cond.methodLink RX12 115 yX12_figure ∈ tG := tG_mk 822 (by decide +kernel) (by decide +kernel)
theorem tw824 : Cond.instanceMethod yX12_figure ∈ tG := tG_mk 824 (by decide +kernel) (by decide +kernel)
theorem tw825 : Cond.code yX12_figure prog_14_method_22_code 3 (some .int) ∈ tG := tG_mk 825 (by decide +kernel) (by decide +kernel)
theorem tw826 : Cond.methodLink RX12 121 yX12_next ∈ tG := tG_mk 826 (by decide +kernel) (by decide +kernel)
theorem tw828 : Cond.instanceMethod yX12_next ∈ tG := tG_mk 828 (by decide +kernel) (by decide +kernel)
theorem tw829 : Cond.code yX12_next prog_14_method_24_code 3 (some .int) ∈ tG := tG_mk 829 (by decide +kernel) (by decide +kernel)
theorem tw830 : Cond.methodLink RX12 118 yX12_kindOf ∈ tG := tG_mk 830 (by decide +kernel) (by decide +kernel)
theorem tw831 : Cond.static yX12_kindOf ∈ tG := tG_mk 831 (by decide +kernel) (by decide +kernel)
theorem tw832 : Cond.code yX12_kindOf prog_14_method_23_code 1 (some .int) ∈ tG := tG_mk 832 (by decide +kernel) (by decide +kernel)
theorem tw833 : Cond.methodLink RX12 124 yX12_readsPerson ∈ tG := tG_mk 833 (by decide +kernel) (by decide +kernel)
theorem tw835 : Cond.instanceMethod yX12_readsPerson ∈ tG := tG_mk 835 (by decide +kernel) (by decide +kernel)
theorem tw836 : Cond.code yX12_readsPerson prog_14_method_25_code 7 none ∈ tG := tG_mk 836 (by decide +kernel) (by decide +kernel)
theorem tw837 : Cond.constant RX12 127 (-1000100) ∈ tG := tG_mk 837 (by decide +kernel) (by decide +kernel)
theorem tw838 : Cond.methodLink RX12 128 yX12_copies ∈ tG := tG_mk 838 (by decide +kernel) (by decide +kernel)
theorem tw839 : Cond.static yX12_copies ∈ tG := tG_mk 839 (by decide +kernel) (by decide +kernel)
theorem tw840 : Cond.code yX12_copies prog_14_method_8_code 5 none ∈ tG := tG_mk 840 (by decide +kernel) (by decide +kernel)
theorem tw841 : Cond.methodLink RL 44 yX12_fault ∈ tG := tG_mk 841 (by decide +kernel) (by decide +kernel)
theorem tw842 : Cond.instanceMethod yX12_fault ∈ tG := tG_mk 842 (by decide +kernel) (by decide +kernel)
theorem tw843 : Cond.selects RX12 yX12_fault yX12_fault ∈ tG := tG_mk 843 (by decide +kernel) (by decide +kernel)
theorem tw844 : Cond.code yX12_fault prog_14_method_27_code 1 (some .int) ∈ tG := tG_mk 844 (by decide +kernel) (by decide +kernel)
theorem tw845 : Cond.methodLink RL 48 yX12_steps ∈ tG := tG_mk 845 (by decide +kernel) (by decide +kernel)
theorem tw846 : Cond.instanceMethod yX12_steps ∈ tG := tG_mk 846 (by decide +kernel) (by decide +kernel)
theorem tw847 : Cond.selects RX12 yX12_steps yX12_steps ∈ tG := tG_mk 847 (by decide +kernel) (by decide +kernel)
theorem tw848 : Cond.code yX12_steps prog_14_method_41_code 3 (some .int) ∈ tG := tG_mk 848 (by decide +kernel) (by decide +kernel)
theorem tw849 : Cond.methodLink RX12 158 yX12_isHouse ∈ tG := tG_mk 849 (by decide +kernel) (by decide +kernel)
theorem tw851 : Cond.instanceMethod yX12_isHouse ∈ tG := tG_mk 851 (by decide +kernel) (by decide +kernel)
theorem tw852 : Cond.code yX12_isHouse prog_14_method_28_code 1 (some .boolean) ∈ tG := tG_mk 852 (by decide +kernel) (by decide +kernel)
theorem tw853 : Cond.constant RX12 161 (-1000002) ∈ tG := tG_mk 853 (by decide +kernel) (by decide +kernel)
theorem tw854 : Cond.methodLink RX12 162 yX12_notes ∈ tG := tG_mk 854 (by decide +kernel) (by decide +kernel)
theorem tw856 : Cond.instanceMethod yX12_notes ∈ tG := tG_mk 856 (by decide +kernel) (by decide +kernel)
theorem tw857 : Cond.code yX12_notes prog_14_method_40_code 2 none ∈ tG := tG_mk 857 (by decide +kernel) (by decide +kernel)
theorem tw858 : Cond.methodLink RX12 154 yX12_passes ∈ tG := tG_mk 858 (by decide +kernel) (by decide +kernel)
theorem tw859 : Cond.static yX12_passes ∈ tG := tG_mk 859 (by decide +kernel) (by decide +kernel)
theorem tw860 : Cond.code yX12_passes prog_14_method_36_code 3 none ∈ tG := tG_mk 860 (by decide +kernel) (by decide +kernel)
theorem tw861 : Cond.methodLink RX12 147 yX12_nearer ∈ tG := tG_mk 861 (by decide +kernel) (by decide +kernel)
theorem tw862 : Cond.static yX12_nearer ∈ tG := tG_mk 862 (by decide +kernel) (by decide +kernel)
theorem tw863 : Cond.code yX12_nearer prog_14_method_35_code 2 (some .int) ∈ tG := tG_mk 863 (by decide +kernel) (by decide +kernel)
theorem tw864 : Cond.methodLink RX12 150 yX12_calls ∈ tG := tG_mk 864 (by decide +kernel) (by decide +kernel)
theorem tw865 : Cond.static yX12_calls ∈ tG := tG_mk 865 (by decide +kernel) (by decide +kernel)
theorem tw866 : Cond.code yX12_calls prog_14_method_34_code 5 (some .int) ∈ tG := tG_mk 866 (by decide +kernel) (by decide +kernel)
theorem tw867 : Cond.methodLink RX12 143 yX12_envyOf ∈ tG := tG_mk 867 (by decide +kernel) (by decide +kernel)
theorem tw868 : Cond.static yX12_envyOf ∈ tG := tG_mk 868 (by decide +kernel) (by decide +kernel)
theorem tw869 : Cond.code yX12_envyOf prog_14_method_33_code 5 (some .int) ∈ tG := tG_mk 869 (by decide +kernel) (by decide +kernel)
theorem tw870 : Cond.methodLink RX12 135 yX12_rides ∈ tG := tG_mk 870 (by decide +kernel) (by decide +kernel)
theorem tw871 : Cond.static yX12_rides ∈ tG := tG_mk 871 (by decide +kernel) (by decide +kernel)
theorem tw872 : Cond.code yX12_rides prog_14_method_32_code 2 (some .boolean) ∈ tG := tG_mk 872 (by decide +kernel) (by decide +kernel)
theorem tw873 : Cond.methodLink RX12 139 yX12_mindsOf ∈ tG := tG_mk 873 (by decide +kernel) (by decide +kernel)
theorem tw874 : Cond.static yX12_mindsOf ∈ tG := tG_mk 874 (by decide +kernel) (by decide +kernel)
theorem tw875 : Cond.code yX12_mindsOf prog_14_method_31_code 7 (some .int) ∈ tG := tG_mk 875 (by decide +kernel) (by decide +kernel)
theorem tw876 : Cond.methodLink RL 53 yX12_show ∈ tG := tG_mk 876 (by decide +kernel) (by decide +kernel)
theorem tw877 : Cond.instanceMethod yX12_show ∈ tG := tG_mk 877 (by decide +kernel) (by decide +kernel)
theorem tw878 : Cond.selects RX12 yX12_show yX12_show ∈ tG := tG_mk 878 (by decide +kernel) (by decide +kernel)
theorem tw879 : Cond.code yX12_show prog_14_method_42_code 4 (some .int) ∈ tG := tG_mk 879 (by decide +kernel) (by decide +kernel)
theorem tw880 : Cond.methodLink RX12 165 yX12_isPerson ∈ tG := tG_mk 880 (by decide +kernel) (by decide +kernel)
theorem tw882 : Cond.instanceMethod yX12_isPerson ∈ tG := tG_mk 882 (by decide +kernel) (by decide +kernel)
theorem tw883 : Cond.code yX12_isPerson prog_14_method_29_code 2 (some .boolean) ∈ tG := tG_mk 883 (by decide +kernel) (by decide +kernel)
theorem tw884 : Cond.methodLink RL 57 yX12_walk ∈ tG := tG_mk 884 (by decide +kernel) (by decide +kernel)
theorem tw885 : Cond.instanceMethod yX12_walk ∈ tG := tG_mk 885 (by decide +kernel) (by decide +kernel)
theorem tw886 : Cond.selects RX12 yX12_walk yX12_walk ∈ tG := tG_mk 886 (by decide +kernel) (by decide +kernel)
theorem tw887 : Cond.code yX12_walk prog_14_method_43_code 4 (some .int) ∈ tG := tG_mk 887 (by decide +kernel) (by decide +kernel)
theorem tw888 : Cond.methodLink RL 61 yX12_undo ∈ tG := tG_mk 888 (by decide +kernel) (by decide +kernel)
theorem tw889 : Cond.instanceMethod yX12_undo ∈ tG := tG_mk 889 (by decide +kernel) (by decide +kernel)
theorem tw890 : Cond.selects RX12 yX12_undo yX12_undo ∈ tG := tG_mk 890 (by decide +kernel) (by decide +kernel)
theorem tw891 : Cond.code yX12_undo prog_14_method_44_code 1 (some .int) ∈ tG := tG_mk 891 (by decide +kernel) (by decide +kernel)
theorem tw892 : Cond.methodLink RL 65 yX12_person ∈ tG := tG_mk 892 (by decide +kernel) (by decide +kernel)
theorem tw893 : Cond.instanceMethod yX12_person ∈ tG := tG_mk 893 (by decide +kernel) (by decide +kernel)
theorem tw894 : Cond.selects RX12 yX12_person yX12_person ∈ tG := tG_mk 894 (by decide +kernel) (by decide +kernel)
theorem tw895 : Cond.code yX12_person prog_14_method_45_code 4 (some .int) ∈ tG := tG_mk 895 (by decide +kernel) (by decide +kernel)
theorem tw896 : Cond.methodLink RL 69 yX12_minds ∈ tG := tG_mk 896 (by decide +kernel) (by decide +kernel)
theorem tw897 : Cond.instanceMethod yX12_minds ∈ tG := tG_mk 897 (by decide +kernel) (by decide +kernel)
theorem tw898 : Cond.selects RX12 yX12_minds yX12_minds ∈ tG := tG_mk 898 (by decide +kernel) (by decide +kernel)
theorem tw899 : Cond.code yX12_minds prog_14_method_46_code 3 (some .int) ∈ tG := tG_mk 899 (by decide +kernel) (by decide +kernel)
theorem tw900 : Cond.methodLink RL 73 yX12_car ∈ tG := tG_mk 900 (by decide +kernel) (by decide +kernel)
theorem tw901 : Cond.instanceMethod yX12_car ∈ tG := tG_mk 901 (by decide +kernel) (by decide +kernel)
theorem tw902 : Cond.selects RX12 yX12_car yX12_car ∈ tG := tG_mk 902 (by decide +kernel) (by decide +kernel)
theorem tw903 : Cond.code yX12_car prog_14_method_48_code 2 (some .int) ∈ tG := tG_mk 903 (by decide +kernel) (by decide +kernel)
theorem tw904 : Cond.methodLink RX12 168 yX12_riderIn ∈ tG := tG_mk 904 (by decide +kernel) (by decide +kernel)
theorem tw905 : Cond.static yX12_riderIn ∈ tG := tG_mk 905 (by decide +kernel) (by decide +kernel)
theorem tw906 : Cond.code yX12_riderIn prog_14_method_47_code 1 (some .int) ∈ tG := tG_mk 906 (by decide +kernel) (by decide +kernel)
theorem tw907 : Cond.methodLink RX12 171 yX12_broughtIn ∈ tG := tG_mk 907 (by decide +kernel) (by decide +kernel)
theorem tw908 : Cond.static yX12_broughtIn ∈ tG := tG_mk 908 (by decide +kernel) (by decide +kernel)
theorem tw909 : Cond.code yX12_broughtIn prog_14_method_37_code 3 (some .int) ∈ tG := tG_mk 909 (by decide +kernel) (by decide +kernel)
theorem tw910 : Cond.methodLink RL 77 yX12_ahead ∈ tG := tG_mk 910 (by decide +kernel) (by decide +kernel)
theorem tw911 : Cond.instanceMethod yX12_ahead ∈ tG := tG_mk 911 (by decide +kernel) (by decide +kernel)
theorem tw912 : Cond.selects RX12 yX12_ahead yX12_ahead ∈ tG := tG_mk 912 (by decide +kernel) (by decide +kernel)
theorem tw913 : Cond.code yX12_ahead prog_14_method_49_code 3 (some .int) ∈ tG := tG_mk 913 (by decide +kernel) (by decide +kernel)
theorem tw914 : Cond.methodLink RX12 174 yX12_isFar ∈ tG := tG_mk 914 (by decide +kernel) (by decide +kernel)
theorem tw915 : Cond.static yX12_isFar ∈ tG := tG_mk 915 (by decide +kernel) (by decide +kernel)
theorem tw916 : Cond.code yX12_isFar prog_14_method_30_code 1 (some .boolean) ∈ tG := tG_mk 916 (by decide +kernel) (by decide +kernel)
theorem tw917 : Cond.methodLink RX12 177 yX12_tries ∈ tG := tG_mk 917 (by decide +kernel) (by decide +kernel)
theorem tw919 : Cond.instanceMethod yX12_tries ∈ tG := tG_mk 919 (by decide +kernel) (by decide +kernel)
theorem tw920 : Cond.code yX12_tries prog_14_method_38_code 3 none ∈ tG := tG_mk 920 (by decide +kernel) (by decide +kernel)
theorem tw921 : Cond.methodLink RL 81 yX12_when ∈ tG := tG_mk 921 (by decide +kernel) (by decide +kernel)
theorem tw922 : Cond.instanceMethod yX12_when ∈ tG := tG_mk 922 (by decide +kernel) (by decide +kernel)
theorem tw923 : Cond.selects RX12 yX12_when yX12_when ∈ tG := tG_mk 923 (by decide +kernel) (by decide +kernel)
theorem tw924 : Cond.code yX12_when prog_14_method_50_code 2 (some .int) ∈ tG := tG_mk 924 (by decide +kernel) (by decide +kernel)
theorem tw925 : Cond.methodLink RX12 181 yX12_broughtBy ∈ tG := tG_mk 925 (by decide +kernel) (by decide +kernel)
theorem tw927 : Cond.instanceMethod yX12_broughtBy ∈ tG := tG_mk 927 (by decide +kernel) (by decide +kernel)
theorem tw928 : Cond.code yX12_broughtBy prog_14_method_39_code 4 (some .int) ∈ tG := tG_mk 928 (by decide +kernel) (by decide +kernel)
theorem tw929 : Cond.methodLink RL 85 yX12_first ∈ tG := tG_mk 929 (by decide +kernel) (by decide +kernel)
theorem tw930 : Cond.instanceMethod yX12_first ∈ tG := tG_mk 930 (by decide +kernel) (by decide +kernel)
theorem tw931 : Cond.selects RX12 yX12_first yX12_first ∈ tG := tG_mk 931 (by decide +kernel) (by decide +kernel)
theorem tw932 : Cond.code yX12_first prog_14_method_51_code 6 (some .int) ∈ tG := tG_mk 932 (by decide +kernel) (by decide +kernel)
theorem tw933 : Cond.methodLink RX12 184 yX12_has ∈ tG := tG_mk 933 (by decide +kernel) (by decide +kernel)
theorem tw934 : Cond.static yX12_has ∈ tG := tG_mk 934 (by decide +kernel) (by decide +kernel)
theorem tw935 : Cond.code yX12_has prog_14_method_4_code 2 (some .boolean) ∈ tG := tG_mk 935 (by decide +kernel) (by decide +kernel)
theorem tw936 : Cond.methodLink RL 89 yX12_never ∈ tG := tG_mk 936 (by decide +kernel) (by decide +kernel)
theorem tw937 : Cond.instanceMethod yX12_never ∈ tG := tG_mk 937 (by decide +kernel) (by decide +kernel)
theorem tw938 : Cond.selects RX12 yX12_never yX12_never ∈ tG := tG_mk 938 (by decide +kernel) (by decide +kernel)
theorem tw939 : Cond.code yX12_never prog_14_method_52_code 1 (some .int) ∈ tG := tG_mk 939 (by decide +kernel) (by decide +kernel)
theorem tw940 : Cond.methodLink RL 93 yX12_least ∈ tG := tG_mk 940 (by decide +kernel) (by decide +kernel)
theorem tw941 : Cond.instanceMethod yX12_least ∈ tG := tG_mk 941 (by decide +kernel) (by decide +kernel)
theorem tw942 : Cond.selects RX12 yX12_least yX12_least ∈ tG := tG_mk 942 (by decide +kernel) (by decide +kernel)
theorem tw943 : Cond.code yX12_least prog_14_method_53_code 4 (some .int) ∈ tG := tG_mk 943 (by decide +kernel) (by decide +kernel)
theorem tw944 : Cond.methodLink RL 97 yX12_hide ∈ tG := tG_mk 944 (by decide +kernel) (by decide +kernel)
theorem tw945 : Cond.instanceMethod yX12_hide ∈ tG := tG_mk 945 (by decide +kernel) (by decide +kernel)
theorem tw946 : Cond.selects RX12 yX12_hide yX12_hide ∈ tG := tG_mk 946 (by decide +kernel) (by decide +kernel)
theorem tw947 : Cond.code yX12_hide prog_14_method_55_code 11 (some .int) ∈ tG := tG_mk 947 (by decide +kernel) (by decide +kernel)
theorem tw948 : Cond.methodLink RX12 188 yX12_hides ∈ tG := tG_mk 948 (by decide +kernel) (by decide +kernel)
theorem tw950 : Cond.instanceMethod yX12_hides ∈ tG := tG_mk 950 (by decide +kernel) (by decide +kernel)
theorem tw951 : Cond.code yX12_hides prog_14_method_54_code 3 none ∈ tG := tG_mk 951 (by decide +kernel) (by decide +kernel)
theorem tw952 : Cond.methodLink RX12 191 yX12_ones ∈ tG := tG_mk 952 (by decide +kernel) (by decide +kernel)
theorem tw953 : Cond.static yX12_ones ∈ tG := tG_mk 953 (by decide +kernel) (by decide +kernel)
theorem tw954 : Cond.code yX12_ones prog_14_method_5_code 3 (some .int) ∈ tG := tG_mk 954 (by decide +kernel) (by decide +kernel)
theorem tw955 : Cond.methodLink RL 101 yX12_beside ∈ tG := tG_mk 955 (by decide +kernel) (by decide +kernel)
theorem tw956 : Cond.instanceMethod yX12_beside ∈ tG := tG_mk 956 (by decide +kernel) (by decide +kernel)
theorem tw957 : Cond.selects RX12 yX12_beside yX12_beside ∈ tG := tG_mk 957 (by decide +kernel) (by decide +kernel)
theorem tw958 : Cond.code yX12_beside prog_14_method_56_code 8 (some .int) ∈ tG := tG_mk 958 (by decide +kernel) (by decide +kernel)
theorem tw959 : Cond.methodLink RL 105 yX12_fits ∈ tG := tG_mk 959 (by decide +kernel) (by decide +kernel)
theorem tw960 : Cond.instanceMethod yX12_fits ∈ tG := tG_mk 960 (by decide +kernel) (by decide +kernel)
theorem tw961 : Cond.selects RX12 yX12_fits yX12_fits ∈ tG := tG_mk 961 (by decide +kernel) (by decide +kernel)
theorem tw962 : Cond.code yX12_fits prog_14_method_58_code 11 (some .int) ∈ tG := tG_mk 962 (by decide +kernel) (by decide +kernel)
theorem tw963 : Cond.methodLink RX12 194 yX12_goesSo ∈ tG := tG_mk 963 (by decide +kernel) (by decide +kernel)
theorem tw965 : Cond.instanceMethod yX12_goesSo ∈ tG := tG_mk 965 (by decide +kernel) (by decide +kernel)
theorem tw966 : Cond.code yX12_goesSo prog_14_method_57_code 5 (some .boolean) ∈ tG := tG_mk 966 (by decide +kernel) (by decide +kernel)
theorem tw967 : Cond.methodLink RL 110 yX12_hidden ∈ tG := tG_mk 967 (by decide +kernel) (by decide +kernel)
theorem tw968 : Cond.instanceMethod yX12_hidden ∈ tG := tG_mk 968 (by decide +kernel) (by decide +kernel)
theorem tw969 : Cond.selects RX12 yX12_hidden yX12_hidden ∈ tG := tG_mk 969 (by decide +kernel) (by decide +kernel)
theorem tw970 : Cond.code yX12_hidden prog_14_method_59_code 11 (some .int) ∈ tG := tG_mk 970 (by decide +kernel) (by decide +kernel)
theorem tw971 : Cond.methodLink RL 114 yX12_drawn ∈ tG := tG_mk 971 (by decide +kernel) (by decide +kernel)
theorem tw972 : Cond.instanceMethod yX12_drawn ∈ tG := tG_mk 972 (by decide +kernel) (by decide +kernel)
theorem tw973 : Cond.selects RX12 yX12_drawn yX12_drawn ∈ tG := tG_mk 973 (by decide +kernel) (by decide +kernel)
theorem tw974 : Cond.code yX12_drawn prog_14_method_60_code 9 (some .int) ∈ tG := tG_mk 974 (by decide +kernel) (by decide +kernel)
theorem tw975 : Cond.constant RX12 197 (999999) ∈ tG := tG_mk 975 (by decide +kernel) (by decide +kernel)
theorem tw976 : Cond.constantLong RX12 198 (16807) ∈ tG := tG_mk 976 (by decide +kernel) (by decide +kernel)
theorem tw977 : Cond.constantLong RX12 200 (2147483647) ∈ tG := tG_mk 977 (by decide +kernel) (by decide +kernel)
theorem tw978 : Cond.constantLong RX12 202 (3) ∈ tG := tG_mk 978 (by decide +kernel) (by decide +kernel)
theorem tw979 : Cond.methodLink RL 118 yX12_image ∈ tG := tG_mk 979 (by decide +kernel) (by decide +kernel)
theorem tw980 : Cond.instanceMethod yX12_image ∈ tG := tG_mk 980 (by decide +kernel) (by decide +kernel)
theorem tw981 : Cond.selects RX12 yX12_image yX12_image ∈ tG := tG_mk 981 (by decide +kernel) (by decide +kernel)
theorem tw982 : Cond.code yX12_image prog_14_method_61_code 2 (some .int) ∈ tG := tG_mk 982 (by decide +kernel) (by decide +kernel)
theorem tw983 : Cond.methodLink RL 122 yX12_restore ∈ tG := tG_mk 983 (by decide +kernel) (by decide +kernel)
theorem tw984 : Cond.instanceMethod yX12_restore ∈ tG := tG_mk 984 (by decide +kernel) (by decide +kernel)
theorem tw985 : Cond.selects RX12 yX12_restore yX12_restore ∈ tG := tG_mk 985 (by decide +kernel) (by decide +kernel)
theorem tw986 : Cond.code yX12_restore prog_14_method_62_code 2 (some .int) ∈ tG := tG_mk 986 (by decide +kernel) (by decide +kernel)
theorem tw987 : Cond.methodLink RL 126 yX12_kind ∈ tG := tG_mk 987 (by decide +kernel) (by decide +kernel)
theorem tw988 : Cond.instanceMethod yX12_kind ∈ tG := tG_mk 988 (by decide +kernel) (by decide +kernel)
theorem tw989 : Cond.selects RX12 yX12_kind yX12_kind ∈ tG := tG_mk 989 (by decide +kernel) (by decide +kernel)
theorem tw990 : Cond.code yX12_kind prog_14_method_64_code 2 (some .int) ∈ tG := tG_mk 990 (by decide +kernel) (by decide +kernel)
theorem tw991 : Cond.methodLink RX12 204 yX12_kindIn ∈ tG := tG_mk 991 (by decide +kernel) (by decide +kernel)
theorem tw993 : Cond.instanceMethod yX12_kindIn ∈ tG := tG_mk 993 (by decide +kernel) (by decide +kernel)
theorem tw994 : Cond.code yX12_kindIn prog_14_method_63_code 2 (some .int) ∈ tG := tG_mk 994 (by decide +kernel) (by decide +kernel)
theorem tw995 : Cond.methodLink RL 130 yX12_as ∈ tG := tG_mk 995 (by decide +kernel) (by decide +kernel)
theorem tw996 : Cond.instanceMethod yX12_as ∈ tG := tG_mk 996 (by decide +kernel) (by decide +kernel)
theorem tw997 : Cond.selects RX12 yX12_as yX12_as ∈ tG := tG_mk 997 (by decide +kernel) (by decide +kernel)
theorem tw998 : Cond.code yX12_as prog_14_method_65_code 5 (some .int) ∈ tG := tG_mk 998 (by decide +kernel) (by decide +kernel)
theorem tw999 : Cond.methodLink RL 134 yX12_ask ∈ tG := tG_mk 999 (by decide +kernel) (by decide +kernel)
theorem tw1000 : Cond.instanceMethod yX12_ask ∈ tG := tG_mk 1000 (by decide +kernel) (by decide +kernel)
theorem tw1001 : Cond.selects RX12 yX12_ask yX12_ask ∈ tG := tG_mk 1001 (by decide +kernel) (by decide +kernel)
theorem tw1002 : Cond.code yX12_ask prog_14_method_71_code 4 (some .int) ∈ tG := tG_mk 1002 (by decide +kernel) (by decide +kernel)
theorem tw1003 : Cond.methodLink RX12 216 yX12_chiefSize ∈ tG := tG_mk 1003 (by decide +kernel) (by decide +kernel)
theorem tw1005 : Cond.instanceMethod yX12_chiefSize ∈ tG := tG_mk 1005 (by decide +kernel) (by decide +kernel)
theorem tw1006 : Cond.code yX12_chiefSize prog_14_method_68_code 4 (some .int) ∈ tG := tG_mk 1006 (by decide +kernel) (by decide +kernel)
theorem tw1007 : Cond.methodLink RX12 210 yX12_begins ∈ tG := tG_mk 1007 (by decide +kernel) (by decide +kernel)
theorem tw1009 : Cond.instanceMethod yX12_begins ∈ tG := tG_mk 1009 (by decide +kernel) (by decide +kernel)
theorem tw1010 : Cond.code yX12_begins prog_14_method_66_code 2 none ∈ tG := tG_mk 1010 (by decide +kernel) (by decide +kernel)
theorem tw1011 : Cond.methodLink RX12 219 yX12_clerkSize ∈ tG := tG_mk 1011 (by decide +kernel) (by decide +kernel)
theorem tw1013 : Cond.instanceMethod yX12_clerkSize ∈ tG := tG_mk 1013 (by decide +kernel) (by decide +kernel)
theorem tw1014 : Cond.code yX12_clerkSize prog_14_method_69_code 4 (some .int) ∈ tG := tG_mk 1014 (by decide +kernel) (by decide +kernel)
theorem tw1015 : Cond.methodLink RX12 213 yX12_clerkMark ∈ tG := tG_mk 1015 (by decide +kernel) (by decide +kernel)
theorem tw1017 : Cond.instanceMethod yX12_clerkMark ∈ tG := tG_mk 1017 (by decide +kernel) (by decide +kernel)
theorem tw1018 : Cond.code yX12_clerkMark prog_14_method_67_code 4 (some .int) ∈ tG := tG_mk 1018 (by decide +kernel) (by decide +kernel)
theorem tw1019 : Cond.methodLink RX12 222 yX12_chiefMark ∈ tG := tG_mk 1019 (by decide +kernel) (by decide +kernel)
theorem tw1021 : Cond.instanceMethod yX12_chiefMark ∈ tG := tG_mk 1021 (by decide +kernel) (by decide +kernel)
theorem tw1022 : Cond.code yX12_chiefMark prog_14_method_70_code 2 (some .int) ∈ tG := tG_mk 1022 (by decide +kernel) (by decide +kernel)
theorem tw1023 : Cond.methodLink RL 138 yX12_trace ∈ tG := tG_mk 1023 (by decide +kernel) (by decide +kernel)
theorem tw1024 : Cond.instanceMethod yX12_trace ∈ tG := tG_mk 1024 (by decide +kernel) (by decide +kernel)
theorem tw1025 : Cond.selects RX12 yX12_trace yX12_trace ∈ tG := tG_mk 1025 (by decide +kernel) (by decide +kernel)
theorem tw1026 : Cond.code yX12_trace prog_14_method_72_code 2 (some .int) ∈ tG := tG_mk 1026 (by decide +kernel) (by decide +kernel)
theorem tw1027 : Cond.methodLink RL 142 yX12_count ∈ tG := tG_mk 1027 (by decide +kernel) (by decide +kernel)
theorem tw1028 : Cond.instanceMethod yX12_count ∈ tG := tG_mk 1028 (by decide +kernel) (by decide +kernel)
theorem tw1029 : Cond.selects RX12 yX12_count yX12_count ∈ tG := tG_mk 1029 (by decide +kernel) (by decide +kernel)
theorem tw1030 : Cond.code yX12_count prog_14_method_73_code 4 (some .int) ∈ tG := tG_mk 1030 (by decide +kernel) (by decide +kernel)
theorem tw1031 : Cond.methodLink RL 146 yX12_status ∈ tG := tG_mk 1031 (by decide +kernel) (by decide +kernel)
theorem tw1032 : Cond.instanceMethod yX12_status ∈ tG := tG_mk 1032 (by decide +kernel) (by decide +kernel)
theorem tw1033 : Cond.selects RX12 yX12_status yX12_status ∈ tG := tG_mk 1033 (by decide +kernel) (by decide +kernel)
theorem tw1034 : Cond.code yX12_status prog_14_method_74_code 1 (some .int) ∈ tG := tG_mk 1034 (by decide +kernel) (by decide +kernel)
theorem tw1035 : Cond.sameMethod "LiftEnvy$Person" "LiftEnvy$Person" "mark" "(LLiftEnvy$House;ILLiftEnvy$Trace;)I" ∈ tG := tG_mk 1035 (by decide +kernel) (by decide +kernel)
theorem tw1036 : Cond.sameMethod "LiftEnvy$Chief" "LiftEnvy$Chief" "size" "(LLiftEnvy$House;ILLiftEnvy$Trace;)I" ∈ tG := tG_mk 1036 (by decide +kernel) (by decide +kernel)
theorem tw1037 : Cond.sameMethod "LiftEnvy$Clerk" "LiftEnvy$Clerk" "size" "(LLiftEnvy$House;ILLiftEnvy$Trace;)I" ∈ tG := tG_mk 1037 (by decide +kernel) (by decide +kernel)
theorem tw1038 : Cond.selects RX1 yX6_mark yX1_mark ∈ tG := tG_mk 1038 (by decide +kernel) (by decide +kernel)
theorem tw1039 : Cond.selects RX1 yX1_size yX1_size ∈ tG := tG_mk 1039 (by decide +kernel) (by decide +kernel)
theorem tw1040 : Cond.selects RX3 yX1_size yX3_size ∈ tG := tG_mk 1040 (by decide +kernel) (by decide +kernel)
theorem tw1041 : Cond.selects RX2 yX6_mark yX2_mark ∈ tG := tG_mk 1041 (by decide +kernel) (by decide +kernel)
theorem tw1042 : Cond.selects RX3 yX6_mark yX1_mark ∈ tG := tG_mk 1042 (by decide +kernel) (by decide +kernel)
theorem tw1043 : Cond.selects RX5 yX6_mark yX5_mark ∈ tG := tG_mk 1043 (by decide +kernel) (by decide +kernel)
theorem tw1044 : Cond.selects RX10 yX6_mark yX10_mark ∈ tG := tG_mk 1044 (by decide +kernel) (by decide +kernel)
end
section
theorem dX0_init_0 : decode cX0_init 0 = .ok (.aload_n 0, 1) := by decide +kernel
theorem dX0_init_1 : decode cX0_init 1 = .ok (.invokespecial 1, 3) := by decide +kernel
theorem dX0_init_4 : decode cX0_init 4 = .ok (.aload_n 0, 1) := by decide +kernel
theorem dX0_init_5 : decode cX0_init 5 = .ok (.bipush 24, 2) := by decide +kernel
theorem dX0_init_7 : decode cX0_init 7 = .ok (.anewarray 9, 3) := by decide +kernel
theorem dX0_init_10 : decode cX0_init 10 = .ok (.putfield 11, 3) := by decide +kernel
theorem dX0_init_13 : decode cX0_init 13 = .ok (.iconst 0, 1) := by decide +kernel
theorem dX0_init_14 : decode cX0_init 14 = .ok (.istore_n 1, 1) := by decide +kernel
theorem dX0_init_15 : decode cX0_init 15 = .ok (.iload_n 1, 1) := by decide +kernel
theorem dX0_init_16 : decode cX0_init 16 = .ok (.bipush 24, 2) := by decide +kernel
theorem dX0_init_18 : decode cX0_init 18 = .ok (.if_icmp .ge 22, 3) := by decide +kernel
theorem dX0_init_21 : decode cX0_init 21 = .ok (.aload_n 0, 1) := by decide +kernel
theorem dX0_init_22 : decode cX0_init 22 = .ok (.getfield 11, 3) := by decide +kernel
theorem dX0_init_25 : decode cX0_init 25 = .ok (.iload_n 1, 1) := by decide +kernel
theorem dX0_init_26 : decode cX0_init 26 = .ok (.new 9, 3) := by decide +kernel
theorem dX0_init_29 : decode cX0_init 29 = .ok (.dup, 1) := by decide +kernel
theorem dX0_init_30 : decode cX0_init 30 = .ok (.invokespecial 15, 3) := by decide +kernel
theorem dX0_init_33 : decode cX0_init 33 = .ok (.aastore, 1) := by decide +kernel
theorem dX0_init_34 : decode cX0_init 34 = .ok (.iinc 1 1, 3) := by decide +kernel
theorem dX0_init_37 : decode cX0_init 37 = .ok (.goto (-22), 3) := by decide +kernel
theorem dX0_init_40 : decode cX0_init 40 = .ok (.return_, 1) := by decide +kernel
theorem dX0_forget_0 : decode cX0_forget 0 = .ok (.aload_n 0, 1) := by decide +kernel
theorem dX0_forget_1 : decode cX0_forget 1 = .ok (.iconst 0, 1) := by decide +kernel
theorem dX0_forget_2 : decode cX0_forget 2 = .ok (.putfield 16, 3) := by decide +kernel
theorem dX0_forget_5 : decode cX0_forget 5 = .ok (.return_, 1) := by decide +kernel
theorem dX0_keep_0 : decode cX0_keep 0 = .ok (.aload_n 0, 1) := by decide +kernel
theorem dX0_keep_1 : decode cX0_keep 1 = .ok (.getfield 11, 3) := by decide +kernel
theorem dX0_keep_4 : decode cX0_keep 4 = .ok (.aload_n 0, 1) := by decide +kernel
theorem dX0_keep_5 : decode cX0_keep 5 = .ok (.getfield 20, 3) := by decide +kernel
theorem dX0_keep_8 : decode cX0_keep 8 = .ok (.aaload, 1) := by decide +kernel
theorem dX0_keep_9 : decode cX0_keep 9 = .ok (.aload_n 1, 1) := by decide +kernel
theorem dX0_keep_10 : decode cX0_keep 10 = .ok (.invokevirtual 23, 3) := by decide +kernel
theorem dX0_keep_13 : decode cX0_keep 13 = .ok (.aload_n 0, 1) := by decide +kernel
theorem dX0_keep_14 : decode cX0_keep 14 = .ok (.aload_n 0, 1) := by decide +kernel
theorem dX0_keep_15 : decode cX0_keep 15 = .ok (.getfield 20, 3) := by decide +kernel
theorem dX0_keep_18 : decode cX0_keep 18 = .ok (.iconst 1, 1) := by decide +kernel
theorem dX0_keep_19 : decode cX0_keep 19 = .ok (.iadd, 1) := by decide +kernel
theorem dX0_keep_20 : decode cX0_keep 20 = .ok (.bipush 24, 2) := by decide +kernel
theorem dX0_keep_22 : decode cX0_keep 22 = .ok (.irem, 1) := by decide +kernel
theorem dX0_keep_23 : decode cX0_keep 23 = .ok (.putfield 20, 3) := by decide +kernel
theorem dX0_keep_26 : decode cX0_keep 26 = .ok (.aload_n 0, 1) := by decide +kernel
theorem dX0_keep_27 : decode cX0_keep 27 = .ok (.aload_n 0, 1) := by decide +kernel
theorem dX0_keep_28 : decode cX0_keep 28 = .ok (.getfield 16, 3) := by decide +kernel
theorem dX0_keep_31 : decode cX0_keep 31 = .ok (.iconst 1, 1) := by decide +kernel
theorem dX0_keep_32 : decode cX0_keep 32 = .ok (.iadd, 1) := by decide +kernel
theorem dX0_keep_33 : decode cX0_keep 33 = .ok (.bipush 24, 2) := by decide +kernel
theorem dX0_keep_35 : decode cX0_keep 35 = .ok (.invokestatic 27, 3) := by decide +kernel
theorem dX0_keep_38 : decode cX0_keep 38 = .ok (.putfield 16, 3) := by decide +kernel
theorem dX0_keep_41 : decode cX0_keep 41 = .ok (.return_, 1) := by decide +kernel
theorem dX0_takeBack_0 : decode cX0_takeBack 0 = .ok (.aload_n 0, 1) := by decide +kernel
theorem dX0_takeBack_1 : decode cX0_takeBack 1 = .ok (.aload_n 0, 1) := by decide +kernel
theorem dX0_takeBack_2 : decode cX0_takeBack 2 = .ok (.getfield 20, 3) := by decide +kernel
theorem dX0_takeBack_5 : decode cX0_takeBack 5 = .ok (.bipush 24, 2) := by decide +kernel
theorem dX0_takeBack_7 : decode cX0_takeBack 7 = .ok (.iadd, 1) := by decide +kernel
theorem dX0_takeBack_8 : decode cX0_takeBack 8 = .ok (.iconst 1, 1) := by decide +kernel
theorem dX0_takeBack_9 : decode cX0_takeBack 9 = .ok (.isub, 1) := by decide +kernel
theorem dX0_takeBack_10 : decode cX0_takeBack 10 = .ok (.bipush 24, 2) := by decide +kernel
theorem dX0_takeBack_12 : decode cX0_takeBack 12 = .ok (.irem, 1) := by decide +kernel
theorem dX0_takeBack_13 : decode cX0_takeBack 13 = .ok (.putfield 20, 3) := by decide +kernel
theorem dX0_takeBack_16 : decode cX0_takeBack 16 = .ok (.aload_n 0, 1) := by decide +kernel
theorem dX0_takeBack_17 : decode cX0_takeBack 17 = .ok (.dup, 1) := by decide +kernel
theorem dX0_takeBack_18 : decode cX0_takeBack 18 = .ok (.getfield 16, 3) := by decide +kernel
theorem dX0_takeBack_21 : decode cX0_takeBack 21 = .ok (.iconst 1, 1) := by decide +kernel
theorem dX0_takeBack_22 : decode cX0_takeBack 22 = .ok (.isub, 1) := by decide +kernel
theorem dX0_takeBack_23 : decode cX0_takeBack 23 = .ok (.putfield 16, 3) := by decide +kernel
theorem dX0_takeBack_26 : decode cX0_takeBack 26 = .ok (.aload_n 1, 1) := by decide +kernel
theorem dX0_takeBack_27 : decode cX0_takeBack 27 = .ok (.aload_n 0, 1) := by decide +kernel
theorem dX0_takeBack_28 : decode cX0_takeBack 28 = .ok (.getfield 11, 3) := by decide +kernel
theorem dX0_takeBack_31 : decode cX0_takeBack 31 = .ok (.aload_n 0, 1) := by decide +kernel
theorem dX0_takeBack_32 : decode cX0_takeBack 32 = .ok (.getfield 20, 3) := by decide +kernel
theorem dX0_takeBack_35 : decode cX0_takeBack 35 = .ok (.aaload, 1) := by decide +kernel
theorem dX0_takeBack_36 : decode cX0_takeBack 36 = .ok (.invokevirtual 23, 3) := by decide +kernel
theorem dX0_takeBack_39 : decode cX0_takeBack 39 = .ok (.return_, 1) := by decide +kernel
theorem dX1_init_0 : decode cX1_init 0 = .ok (.aload_n 0, 1) := by decide +kernel
theorem dX1_init_1 : decode cX1_init 1 = .ok (.invokespecial 1, 3) := by decide +kernel
theorem dX1_init_4 : decode cX1_init 4 = .ok (.return_, 1) := by decide +kernel
theorem dX1_size_0 : decode cX1_size 0 = .ok (.aload_n 3, 1) := by decide +kernel
theorem dX1_size_1 : decode cX1_size 1 = .ok (.bipush 13, 2) := by decide +kernel
theorem dX1_size_3 : decode cX1_size 3 = .ok (.invokevirtual 7, 3) := by decide +kernel
theorem dX1_size_6 : decode cX1_size 6 = .ok (.aload_n 0, 1) := by decide +kernel
theorem dX1_size_7 : decode cX1_size 7 = .ok (.aload_n 1, 1) := by decide +kernel
theorem dX1_size_8 : decode cX1_size 8 = .ok (.iload_n 2, 1) := by decide +kernel
theorem dX1_size_9 : decode cX1_size 9 = .ok (.aload_n 3, 1) := by decide +kernel
theorem dX1_size_10 : decode cX1_size 10 = .ok (.invokespecial 13, 3) := by decide +kernel
theorem dX1_size_13 : decode cX1_size 13 = .ok (.bipush 100, 2) := by decide +kernel
theorem dX1_size_15 : decode cX1_size 15 = .ok (.isub, 1) := by decide +kernel
theorem dX1_size_16 : decode cX1_size 16 = .ok (.ireturn, 1) := by decide +kernel
theorem dX1_mark_0 : decode cX1_mark 0 = .ok (.aload_n 3, 1) := by decide +kernel
theorem dX1_mark_1 : decode cX1_mark 1 = .ok (.bipush 23, 2) := by decide +kernel
theorem dX1_mark_3 : decode cX1_mark 3 = .ok (.invokevirtual 7, 3) := by decide +kernel
theorem dX1_mark_6 : decode cX1_mark 6 = .ok (.aload_n 0, 1) := by decide +kernel
theorem dX1_mark_7 : decode cX1_mark 7 = .ok (.aload_n 1, 1) := by decide +kernel
theorem dX1_mark_8 : decode cX1_mark 8 = .ok (.iload_n 2, 1) := by decide +kernel
theorem dX1_mark_9 : decode cX1_mark 9 = .ok (.aload_n 3, 1) := by decide +kernel
theorem dX1_mark_10 : decode cX1_mark 10 = .ok (.invokespecial 17, 3) := by decide +kernel
theorem dX1_mark_13 : decode cX1_mark 13 = .ok (.aload_n 0, 1) := by decide +kernel
theorem dX1_mark_14 : decode cX1_mark 14 = .ok (.aload_n 1, 1) := by decide +kernel
theorem dX1_mark_15 : decode cX1_mark 15 = .ok (.iload_n 2, 1) := by decide +kernel
theorem dX1_mark_16 : decode cX1_mark 16 = .ok (.aload_n 3, 1) := by decide +kernel
theorem dX1_mark_17 : decode cX1_mark 17 = .ok (.invokevirtual 20, 3) := by decide +kernel
theorem dX1_mark_20 : decode cX1_mark 20 = .ok (.isub, 1) := by decide +kernel
theorem dX1_mark_21 : decode cX1_mark 21 = .ok (.ireturn, 1) := by decide +kernel
theorem dX2_init_0 : decode cX2_init 0 = .ok (.aload_n 0, 1) := by decide +kernel
theorem dX2_init_1 : decode cX2_init 1 = .ok (.invokespecial 1, 3) := by decide +kernel
theorem dX2_init_4 : decode cX2_init 4 = .ok (.return_, 1) := by decide +kernel
theorem dX2_size_0 : decode cX2_size 0 = .ok (.aload_n 3, 1) := by decide +kernel
theorem dX2_size_1 : decode cX2_size 1 = .ok (.bipush 11, 2) := by decide +kernel
theorem dX2_size_3 : decode cX2_size 3 = .ok (.invokevirtual 7, 3) := by decide +kernel
theorem dX2_size_6 : decode cX2_size 6 = .ok (.aload_n 0, 1) := by decide +kernel
theorem dX2_size_7 : decode cX2_size 7 = .ok (.aload_n 1, 1) := by decide +kernel
theorem dX2_size_8 : decode cX2_size 8 = .ok (.iload_n 2, 1) := by decide +kernel
theorem dX2_size_9 : decode cX2_size 9 = .ok (.aload_n 3, 1) := by decide +kernel
theorem dX2_size_10 : decode cX2_size 10 = .ok (.invokespecial 13, 3) := by decide +kernel
theorem dX2_size_13 : decode cX2_size 13 = .ok (.aload_n 0, 1) := by decide +kernel
theorem dX2_size_14 : decode cX2_size 14 = .ok (.aload_n 1, 1) := by decide +kernel
theorem dX2_size_15 : decode cX2_size 15 = .ok (.iload_n 2, 1) := by decide +kernel
theorem dX2_size_16 : decode cX2_size 16 = .ok (.aload_n 3, 1) := by decide +kernel
theorem dX2_size_17 : decode cX2_size 17 = .ok (.invokevirtual 17, 3) := by decide +kernel
theorem dX2_size_20 : decode cX2_size 20 = .ok (.iadd, 1) := by decide +kernel
theorem dX2_size_21 : decode cX2_size 21 = .ok (.ireturn, 1) := by decide +kernel
theorem dX2_mark_0 : decode cX2_mark 0 = .ok (.aload_n 3, 1) := by decide +kernel
theorem dX2_mark_1 : decode cX2_mark 1 = .ok (.bipush 21, 2) := by decide +kernel
theorem dX2_mark_3 : decode cX2_mark 3 = .ok (.invokevirtual 7, 3) := by decide +kernel
theorem dX2_mark_6 : decode cX2_mark 6 = .ok (.aload_n 0, 1) := by decide +kernel
theorem dX2_mark_7 : decode cX2_mark 7 = .ok (.aload_n 1, 1) := by decide +kernel
theorem dX2_mark_8 : decode cX2_mark 8 = .ok (.iload_n 2, 1) := by decide +kernel
theorem dX2_mark_9 : decode cX2_mark 9 = .ok (.aload_n 3, 1) := by decide +kernel
theorem dX2_mark_10 : decode cX2_mark 10 = .ok (.invokespecial 22, 3) := by decide +kernel
theorem dX2_mark_13 : decode cX2_mark 13 = .ok (.aload_n 1, 1) := by decide +kernel
theorem dX2_mark_14 : decode cX2_mark 14 = .ok (.iload_n 2, 1) := by decide +kernel
theorem dX2_mark_15 : decode cX2_mark 15 = .ok (.invokevirtual 23, 3) := by decide +kernel
theorem dX2_mark_18 : decode cX2_mark 18 = .ok (.iadd, 1) := by decide +kernel
theorem dX2_mark_19 : decode cX2_mark 19 = .ok (.ireturn, 1) := by decide +kernel
theorem dX3_init_0 : decode cX3_init 0 = .ok (.aload_n 0, 1) := by decide +kernel
theorem dX3_init_1 : decode cX3_init 1 = .ok (.invokespecial 1, 3) := by decide +kernel
theorem dX3_init_4 : decode cX3_init 4 = .ok (.return_, 1) := by decide +kernel
theorem dX3_size_0 : decode cX3_size 0 = .ok (.aload_n 3, 1) := by decide +kernel
theorem dX3_size_1 : decode cX3_size 1 = .ok (.bipush 14, 2) := by decide +kernel
theorem dX3_size_3 : decode cX3_size 3 = .ok (.invokevirtual 7, 3) := by decide +kernel
theorem dX3_size_6 : decode cX3_size 6 = .ok (.aload_n 0, 1) := by decide +kernel
theorem dX3_size_7 : decode cX3_size 7 = .ok (.aload_n 1, 1) := by decide +kernel
theorem dX3_size_8 : decode cX3_size 8 = .ok (.iload_n 2, 1) := by decide +kernel
theorem dX3_size_9 : decode cX3_size 9 = .ok (.aload_n 3, 1) := by decide +kernel
theorem dX3_size_10 : decode cX3_size 10 = .ok (.invokespecial 13, 3) := by decide +kernel
theorem dX3_size_13 : decode cX3_size 13 = .ok (.iconst 2, 1) := by decide +kernel
theorem dX3_size_14 : decode cX3_size 14 = .ok (.imul, 1) := by decide +kernel
theorem dX3_size_15 : decode cX3_size 15 = .ok (.ireturn, 1) := by decide +kernel
theorem dX4_init_0 : decode cX4_init 0 = .ok (.aload_n 0, 1) := by decide +kernel
theorem dX4_init_1 : decode cX4_init 1 = .ok (.invokespecial 1, 3) := by decide +kernel
theorem dX4_init_4 : decode cX4_init 4 = .ok (.aload_n 0, 1) := by decide +kernel
theorem dX4_init_5 : decode cX4_init 5 = .ok (.bipush 6, 2) := by decide +kernel
theorem dX4_init_7 : decode cX4_init 7 = .ok (.newarray .int, 2) := by decide +kernel
theorem dX4_init_9 : decode cX4_init 9 = .ok (.putfield 9, 3) := by decide +kernel
theorem dX4_init_12 : decode cX4_init 12 = .ok (.aload_n 0, 1) := by decide +kernel
theorem dX4_init_13 : decode cX4_init 13 = .ok (.bipush 6, 2) := by decide +kernel
theorem dX4_init_15 : decode cX4_init 15 = .ok (.newarray .int, 2) := by decide +kernel
theorem dX4_init_17 : decode cX4_init 17 = .ok (.putfield 13, 3) := by decide +kernel
theorem dX4_init_20 : decode cX4_init 20 = .ok (.aload_n 0, 1) := by decide +kernel
theorem dX4_init_21 : decode cX4_init 21 = .ok (.bipush 6, 2) := by decide +kernel
theorem dX4_init_23 : decode cX4_init 23 = .ok (.newarray .int, 2) := by decide +kernel
theorem dX4_init_25 : decode cX4_init 25 = .ok (.putfield 16, 3) := by decide +kernel
theorem dX4_init_28 : decode cX4_init 28 = .ok (.aload_n 0, 1) := by decide +kernel
theorem dX4_init_29 : decode cX4_init 29 = .ok (.bipush 6, 2) := by decide +kernel
theorem dX4_init_31 : decode cX4_init 31 = .ok (.newarray .int, 2) := by decide +kernel
theorem dX4_init_33 : decode cX4_init 33 = .ok (.putfield 19, 3) := by decide +kernel
theorem dX4_init_36 : decode cX4_init 36 = .ok (.aload_n 0, 1) := by decide +kernel
theorem dX4_init_37 : decode cX4_init 37 = .ok (.bipush 6, 2) := by decide +kernel
theorem dX4_init_39 : decode cX4_init 39 = .ok (.newarray .int, 2) := by decide +kernel
theorem dX4_init_41 : decode cX4_init 41 = .ok (.putfield 22, 3) := by decide +kernel
theorem dX4_init_44 : decode cX4_init 44 = .ok (.aload_n 0, 1) := by decide +kernel
theorem dX4_init_45 : decode cX4_init 45 = .ok (.iconst (-1), 1) := by decide +kernel
theorem dX4_init_46 : decode cX4_init 46 = .ok (.putfield 25, 3) := by decide +kernel
theorem dX4_init_49 : decode cX4_init 49 = .ok (.aload_n 0, 1) := by decide +kernel
theorem dX4_init_50 : decode cX4_init 50 = .ok (.bipush (-2), 2) := by decide +kernel
theorem dX4_init_52 : decode cX4_init 52 = .ok (.putfield 29, 3) := by decide +kernel
theorem dX4_init_55 : decode cX4_init 55 = .ok (.return_, 1) := by decide +kernel
theorem dX4_begin_0 : decode cX4_begin 0 = .ok (.aload_n 0, 1) := by decide +kernel
theorem dX4_begin_1 : decode cX4_begin 1 = .ok (.iconst 0, 1) := by decide +kernel
theorem dX4_begin_2 : decode cX4_begin 2 = .ok (.putfield 32, 3) := by decide +kernel
theorem dX4_begin_5 : decode cX4_begin 5 = .ok (.aload_n 0, 1) := by decide +kernel
theorem dX4_begin_6 : decode cX4_begin 6 = .ok (.iload_n 1, 1) := by decide +kernel
theorem dX4_begin_7 : decode cX4_begin 7 = .ok (.putfield 35, 3) := by decide +kernel
theorem dX4_begin_10 : decode cX4_begin 10 = .ok (.aload_n 0, 1) := by decide +kernel
theorem dX4_begin_11 : decode cX4_begin 11 = .ok (.iload_n 2, 1) := by decide +kernel
theorem dX4_begin_12 : decode cX4_begin 12 = .ok (.putfield 38, 3) := by decide +kernel
theorem dX4_begin_15 : decode cX4_begin 15 = .ok (.aload_n 0, 1) := by decide +kernel
theorem dX4_begin_16 : decode cX4_begin 16 = .ok (.iconst (-1), 1) := by decide +kernel
theorem dX4_begin_17 : decode cX4_begin 17 = .ok (.putfield 25, 3) := by decide +kernel
theorem dX4_begin_20 : decode cX4_begin 20 = .ok (.aload_n 0, 1) := by decide +kernel
theorem dX4_begin_21 : decode cX4_begin 21 = .ok (.iconst 0, 1) := by decide +kernel
theorem dX4_begin_22 : decode cX4_begin 22 = .ok (.putfield 41, 3) := by decide +kernel
theorem dX4_begin_25 : decode cX4_begin 25 = .ok (.aload_n 0, 1) := by decide +kernel
theorem dX4_begin_26 : decode cX4_begin 26 = .ok (.iconst 0, 1) := by decide +kernel
theorem dX4_begin_27 : decode cX4_begin 27 = .ok (.putfield 44, 3) := by decide +kernel
theorem dX4_begin_30 : decode cX4_begin 30 = .ok (.aload_n 0, 1) := by decide +kernel
theorem dX4_begin_31 : decode cX4_begin 31 = .ok (.bipush (-2), 2) := by decide +kernel
theorem dX4_begin_33 : decode cX4_begin 33 = .ok (.putfield 29, 3) := by decide +kernel
theorem dX4_begin_36 : decode cX4_begin 36 = .ok (.return_, 1) := by decide +kernel
theorem dX4_become_0 : decode cX4_become 0 = .ok (.aload_n 1, 1) := by decide +kernel
theorem dX4_become_1 : decode cX4_become 1 = .ok (.getfield 9, 3) := by decide +kernel
theorem dX4_become_4 : decode cX4_become 4 = .ok (.iconst 0, 1) := by decide +kernel
theorem dX4_become_5 : decode cX4_become 5 = .ok (.aload_n 0, 1) := by decide +kernel
theorem dX4_become_6 : decode cX4_become 6 = .ok (.getfield 9, 3) := by decide +kernel
theorem dX4_become_9 : decode cX4_become 9 = .ok (.iconst 0, 1) := by decide +kernel
theorem dX4_become_10 : decode cX4_become 10 = .ok (.bipush 6, 2) := by decide +kernel
theorem dX4_become_12 : decode cX4_become 12 = .ok (.invokestatic 47, 3) := by decide +kernel
theorem dX4_become_15 : decode cX4_become 15 = .ok (.aload_n 1, 1) := by decide +kernel
theorem dX4_become_16 : decode cX4_become 16 = .ok (.getfield 13, 3) := by decide +kernel
theorem dX4_become_19 : decode cX4_become 19 = .ok (.iconst 0, 1) := by decide +kernel
theorem dX4_become_20 : decode cX4_become 20 = .ok (.aload_n 0, 1) := by decide +kernel
theorem dX4_become_21 : decode cX4_become 21 = .ok (.getfield 13, 3) := by decide +kernel
theorem dX4_become_24 : decode cX4_become 24 = .ok (.iconst 0, 1) := by decide +kernel
theorem dX4_become_25 : decode cX4_become 25 = .ok (.bipush 6, 2) := by decide +kernel
theorem dX4_become_27 : decode cX4_become 27 = .ok (.invokestatic 47, 3) := by decide +kernel
theorem dX4_become_30 : decode cX4_become 30 = .ok (.aload_n 1, 1) := by decide +kernel
theorem dX4_become_31 : decode cX4_become 31 = .ok (.getfield 16, 3) := by decide +kernel
theorem dX4_become_34 : decode cX4_become 34 = .ok (.iconst 0, 1) := by decide +kernel
theorem dX4_become_35 : decode cX4_become 35 = .ok (.aload_n 0, 1) := by decide +kernel
theorem dX4_become_36 : decode cX4_become 36 = .ok (.getfield 16, 3) := by decide +kernel
theorem dX4_become_39 : decode cX4_become 39 = .ok (.iconst 0, 1) := by decide +kernel
theorem dX4_become_40 : decode cX4_become 40 = .ok (.bipush 6, 2) := by decide +kernel
theorem dX4_become_42 : decode cX4_become 42 = .ok (.invokestatic 47, 3) := by decide +kernel
theorem dX4_become_45 : decode cX4_become 45 = .ok (.aload_n 1, 1) := by decide +kernel
theorem dX4_become_46 : decode cX4_become 46 = .ok (.getfield 19, 3) := by decide +kernel
theorem dX4_become_49 : decode cX4_become 49 = .ok (.iconst 0, 1) := by decide +kernel
theorem dX4_become_50 : decode cX4_become 50 = .ok (.aload_n 0, 1) := by decide +kernel
theorem dX4_become_51 : decode cX4_become 51 = .ok (.getfield 19, 3) := by decide +kernel
theorem dX4_become_54 : decode cX4_become 54 = .ok (.iconst 0, 1) := by decide +kernel
theorem dX4_become_55 : decode cX4_become 55 = .ok (.bipush 6, 2) := by decide +kernel
theorem dX4_become_57 : decode cX4_become 57 = .ok (.invokestatic 47, 3) := by decide +kernel
theorem dX4_become_60 : decode cX4_become 60 = .ok (.aload_n 1, 1) := by decide +kernel
theorem dX4_become_61 : decode cX4_become 61 = .ok (.getfield 22, 3) := by decide +kernel
theorem dX4_become_64 : decode cX4_become 64 = .ok (.iconst 0, 1) := by decide +kernel
theorem dX4_become_65 : decode cX4_become 65 = .ok (.aload_n 0, 1) := by decide +kernel
theorem dX4_become_66 : decode cX4_become 66 = .ok (.getfield 22, 3) := by decide +kernel
theorem dX4_become_69 : decode cX4_become 69 = .ok (.iconst 0, 1) := by decide +kernel
theorem dX4_become_70 : decode cX4_become 70 = .ok (.bipush 6, 2) := by decide +kernel
theorem dX4_become_72 : decode cX4_become 72 = .ok (.invokestatic 47, 3) := by decide +kernel
theorem dX4_become_75 : decode cX4_become 75 = .ok (.aload_n 0, 1) := by decide +kernel
theorem dX4_become_76 : decode cX4_become 76 = .ok (.aload_n 1, 1) := by decide +kernel
theorem dX4_become_77 : decode cX4_become 77 = .ok (.getfield 32, 3) := by decide +kernel
theorem dX4_become_80 : decode cX4_become 80 = .ok (.putfield 32, 3) := by decide +kernel
theorem dX4_become_83 : decode cX4_become 83 = .ok (.aload_n 0, 1) := by decide +kernel
theorem dX4_become_84 : decode cX4_become 84 = .ok (.aload_n 1, 1) := by decide +kernel
theorem dX4_become_85 : decode cX4_become 85 = .ok (.getfield 35, 3) := by decide +kernel
theorem dX4_become_88 : decode cX4_become 88 = .ok (.putfield 35, 3) := by decide +kernel
theorem dX4_become_91 : decode cX4_become 91 = .ok (.aload_n 0, 1) := by decide +kernel
theorem dX4_become_92 : decode cX4_become 92 = .ok (.aload_n 1, 1) := by decide +kernel
theorem dX4_become_93 : decode cX4_become 93 = .ok (.getfield 38, 3) := by decide +kernel
theorem dX4_become_96 : decode cX4_become 96 = .ok (.putfield 38, 3) := by decide +kernel
theorem dX4_become_99 : decode cX4_become 99 = .ok (.aload_n 0, 1) := by decide +kernel
theorem dX4_become_100 : decode cX4_become 100 = .ok (.aload_n 1, 1) := by decide +kernel
theorem dX4_become_101 : decode cX4_become 101 = .ok (.getfield 25, 3) := by decide +kernel
theorem dX4_become_104 : decode cX4_become 104 = .ok (.putfield 25, 3) := by decide +kernel
theorem dX4_become_107 : decode cX4_become 107 = .ok (.aload_n 0, 1) := by decide +kernel
theorem dX4_become_108 : decode cX4_become 108 = .ok (.aload_n 1, 1) := by decide +kernel
theorem dX4_become_109 : decode cX4_become 109 = .ok (.getfield 41, 3) := by decide +kernel
theorem dX4_become_112 : decode cX4_become 112 = .ok (.putfield 41, 3) := by decide +kernel
theorem dX4_become_115 : decode cX4_become 115 = .ok (.aload_n 0, 1) := by decide +kernel
theorem dX4_become_116 : decode cX4_become 116 = .ok (.aload_n 1, 1) := by decide +kernel
theorem dX4_become_117 : decode cX4_become 117 = .ok (.getfield 44, 3) := by decide +kernel
theorem dX4_become_120 : decode cX4_become 120 = .ok (.putfield 44, 3) := by decide +kernel
theorem dX4_become_123 : decode cX4_become 123 = .ok (.aload_n 0, 1) := by decide +kernel
theorem dX4_become_124 : decode cX4_become 124 = .ok (.aload_n 1, 1) := by decide +kernel
theorem dX4_become_125 : decode cX4_become 125 = .ok (.getfield 29, 3) := by decide +kernel
theorem dX4_become_128 : decode cX4_become 128 = .ok (.putfield 29, 3) := by decide +kernel
theorem dX4_become_131 : decode cX4_become 131 = .ok (.return_, 1) := by decide +kernel
theorem dX4_put_0 : decode cX4_put 0 = .ok (.iload_n 1, 1) := by decide +kernel
theorem dX4_put_1 : decode cX4_put 1 = .ok (.tableswitch 57 0 2 #[27, 37, 47], 27) := by decide +kernel
theorem dX4_put_28 : decode cX4_put 28 = .ok (.aload_n 0, 1) := by decide +kernel
theorem dX4_put_29 : decode cX4_put 29 = .ok (.getfield 9, 3) := by decide +kernel
theorem dX4_put_32 : decode cX4_put 32 = .ok (.iload_n 2, 1) := by decide +kernel
theorem dX4_put_33 : decode cX4_put 33 = .ok (.iload_n 3, 1) := by decide +kernel
theorem dX4_put_34 : decode cX4_put 34 = .ok (.iastore, 1) := by decide +kernel
theorem dX4_put_35 : decode cX4_put 35 = .ok (.goto 30, 3) := by decide +kernel
theorem dX4_put_38 : decode cX4_put 38 = .ok (.aload_n 0, 1) := by decide +kernel
theorem dX4_put_39 : decode cX4_put 39 = .ok (.getfield 13, 3) := by decide +kernel
theorem dX4_put_42 : decode cX4_put 42 = .ok (.iload_n 2, 1) := by decide +kernel
theorem dX4_put_43 : decode cX4_put 43 = .ok (.iload_n 3, 1) := by decide +kernel
theorem dX4_put_44 : decode cX4_put 44 = .ok (.iastore, 1) := by decide +kernel
theorem dX4_put_45 : decode cX4_put 45 = .ok (.goto 20, 3) := by decide +kernel
theorem dX4_put_48 : decode cX4_put 48 = .ok (.aload_n 0, 1) := by decide +kernel
theorem dX4_put_49 : decode cX4_put 49 = .ok (.getfield 16, 3) := by decide +kernel
theorem dX4_put_52 : decode cX4_put 52 = .ok (.iload_n 2, 1) := by decide +kernel
theorem dX4_put_53 : decode cX4_put 53 = .ok (.iload_n 3, 1) := by decide +kernel
theorem dX4_put_54 : decode cX4_put 54 = .ok (.iastore, 1) := by decide +kernel
theorem dX4_put_55 : decode cX4_put 55 = .ok (.goto 10, 3) := by decide +kernel
theorem dX4_put_58 : decode cX4_put 58 = .ok (.aload_n 0, 1) := by decide +kernel
theorem dX4_put_59 : decode cX4_put 59 = .ok (.getfield 19, 3) := by decide +kernel
theorem dX4_put_62 : decode cX4_put 62 = .ok (.iload_n 2, 1) := by decide +kernel
theorem dX4_put_63 : decode cX4_put 63 = .ok (.iload_n 3, 1) := by decide +kernel
theorem dX4_put_64 : decode cX4_put 64 = .ok (.iastore, 1) := by decide +kernel
theorem dX4_put_65 : decode cX4_put 65 = .ok (.aload_n 0, 1) := by decide +kernel
theorem dX4_put_66 : decode cX4_put 66 = .ok (.bipush (-2), 2) := by decide +kernel
theorem dX4_put_68 : decode cX4_put 68 = .ok (.putfield 29, 3) := by decide +kernel
theorem dX4_put_71 : decode cX4_put 71 = .ok (.return_, 1) := by decide +kernel
theorem dX4_mostOf_0 : decode cX4_mostOf 0 = .ok (.iload_n 1, 1) := by decide +kernel
theorem dX4_mostOf_1 : decode cX4_mostOf 1 = .ok (.lookupswitch 32 #[(0, 27), (3, 29)], 27) := by decide +kernel
theorem dX4_mostOf_28 : decode cX4_mostOf 28 = .ok (.iconst 5, 1) := by decide +kernel
theorem dX4_mostOf_29 : decode cX4_mostOf 29 = .ok (.ireturn, 1) := by decide +kernel
theorem dX4_mostOf_30 : decode cX4_mostOf 30 = .ok (.bipush 9, 2) := by decide +kernel
theorem dX4_mostOf_32 : decode cX4_mostOf 32 = .ok (.ireturn, 1) := by decide +kernel
theorem dX4_mostOf_33 : decode cX4_mostOf 33 = .ok (.aload_n 0, 1) := by decide +kernel
theorem dX4_mostOf_34 : decode cX4_mostOf 34 = .ok (.getfield 35, 3) := by decide +kernel
theorem dX4_mostOf_37 : decode cX4_mostOf 37 = .ok (.ireturn, 1) := by decide +kernel
theorem dX4_conceal_0 : decode cX4_conceal 0 = .ok (.iconst 0, 1) := by decide +kernel
theorem dX4_conceal_1 : decode cX4_conceal 1 = .ok (.istore_n 2, 1) := by decide +kernel
theorem dX4_conceal_2 : decode cX4_conceal 2 = .ok (.iload_n 2, 1) := by decide +kernel
theorem dX4_conceal_3 : decode cX4_conceal 3 = .ok (.aload_n 0, 1) := by decide +kernel
theorem dX4_conceal_4 : decode cX4_conceal 4 = .ok (.getfield 32, 3) := by decide +kernel
theorem dX4_conceal_7 : decode cX4_conceal 7 = .ok (.if_icmp .ge 24, 3) := by decide +kernel
theorem dX4_conceal_10 : decode cX4_conceal 10 = .ok (.iload_n 1, 1) := by decide +kernel
theorem dX4_conceal_11 : decode cX4_conceal 11 = .ok (.iload_n 2, 1) := by decide +kernel
theorem dX4_conceal_12 : decode cX4_conceal 12 = .ok (.ishr, 1) := by decide +kernel
theorem dX4_conceal_13 : decode cX4_conceal 13 = .ok (.iconst 1, 1) := by decide +kernel
theorem dX4_conceal_14 : decode cX4_conceal 14 = .ok (.iand, 1) := by decide +kernel
theorem dX4_conceal_15 : decode cX4_conceal 15 = .ok (.ifCond .eq 10, 3) := by decide +kernel
theorem dX4_conceal_18 : decode cX4_conceal 18 = .ok (.aload_n 0, 1) := by decide +kernel
theorem dX4_conceal_19 : decode cX4_conceal 19 = .ok (.iconst 3, 1) := by decide +kernel
theorem dX4_conceal_20 : decode cX4_conceal 20 = .ok (.iload_n 2, 1) := by decide +kernel
theorem dX4_conceal_21 : decode cX4_conceal 21 = .ok (.iconst 0, 1) := by decide +kernel
theorem dX4_conceal_22 : decode cX4_conceal 22 = .ok (.invokevirtual 53, 3) := by decide +kernel
theorem dX4_conceal_25 : decode cX4_conceal 25 = .ok (.iinc 2 1, 3) := by decide +kernel
theorem dX4_conceal_28 : decode cX4_conceal 28 = .ok (.goto (-26), 3) := by decide +kernel
theorem dX4_conceal_31 : decode cX4_conceal 31 = .ok (.return_, 1) := by decide +kernel
theorem dX4_showing_0 : decode cX4_showing 0 = .ok (.iconst 0, 1) := by decide +kernel
theorem dX4_showing_1 : decode cX4_showing 1 = .ok (.istore_n 1, 1) := by decide +kernel
theorem dX4_showing_2 : decode cX4_showing 2 = .ok (.iconst 0, 1) := by decide +kernel
theorem dX4_showing_3 : decode cX4_showing 3 = .ok (.istore_n 2, 1) := by decide +kernel
theorem dX4_showing_4 : decode cX4_showing 4 = .ok (.iload_n 2, 1) := by decide +kernel
theorem dX4_showing_5 : decode cX4_showing 5 = .ok (.aload_n 0, 1) := by decide +kernel
theorem dX4_showing_6 : decode cX4_showing 6 = .ok (.getfield 32, 3) := by decide +kernel
theorem dX4_showing_9 : decode cX4_showing 9 = .ok (.if_icmp .ge 28, 3) := by decide +kernel
theorem dX4_showing_12 : decode cX4_showing 12 = .ok (.iload_n 1, 1) := by decide +kernel
theorem dX4_showing_13 : decode cX4_showing 13 = .ok (.aload_n 0, 1) := by decide +kernel
theorem dX4_showing_14 : decode cX4_showing 14 = .ok (.getfield 19, 3) := by decide +kernel
theorem dX4_showing_17 : decode cX4_showing 17 = .ok (.iload_n 2, 1) := by decide +kernel
theorem dX4_showing_18 : decode cX4_showing 18 = .ok (.iaload, 1) := by decide +kernel
theorem dX4_showing_19 : decode cX4_showing 19 = .ok (.ifCond .le 9, 3) := by decide +kernel
theorem dX4_showing_22 : decode cX4_showing 22 = .ok (.iconst 1, 1) := by decide +kernel
theorem dX4_showing_23 : decode cX4_showing 23 = .ok (.iload_n 2, 1) := by decide +kernel
theorem dX4_showing_24 : decode cX4_showing 24 = .ok (.ishl, 1) := by decide +kernel
theorem dX4_showing_25 : decode cX4_showing 25 = .ok (.goto 4, 3) := by decide +kernel
theorem dX4_showing_28 : decode cX4_showing 28 = .ok (.iconst 0, 1) := by decide +kernel
theorem dX4_showing_29 : decode cX4_showing 29 = .ok (.ior, 1) := by decide +kernel
theorem dX4_showing_30 : decode cX4_showing 30 = .ok (.istore_n 1, 1) := by decide +kernel
theorem dX4_showing_31 : decode cX4_showing 31 = .ok (.iinc 2 1, 3) := by decide +kernel
theorem dX4_showing_34 : decode cX4_showing 34 = .ok (.goto (-30), 3) := by decide +kernel
theorem dX4_showing_37 : decode cX4_showing 37 = .ok (.iload_n 1, 1) := by decide +kernel
theorem dX4_showing_38 : decode cX4_showing 38 = .ok (.ireturn, 1) := by decide +kernel
theorem dX4_isBrought_0 : decode cX4_isBrought 0 = .ok (.aload_n 0, 1) := by decide +kernel
theorem dX4_isBrought_1 : decode cX4_isBrought 1 = .ok (.getfield 41, 3) := by decide +kernel
theorem dX4_isBrought_4 : decode cX4_isBrought 4 = .ok (.iload_n 1, 1) := by decide +kernel
theorem dX4_isBrought_5 : decode cX4_isBrought 5 = .ok (.ishr, 1) := by decide +kernel
theorem dX4_isBrought_6 : decode cX4_isBrought 6 = .ok (.iconst 1, 1) := by decide +kernel
theorem dX4_isBrought_7 : decode cX4_isBrought 7 = .ok (.iand, 1) := by decide +kernel
theorem dX4_isBrought_8 : decode cX4_isBrought 8 = .ok (.ifCond .eq 7, 3) := by decide +kernel
theorem dX4_isBrought_11 : decode cX4_isBrought 11 = .ok (.iconst 1, 1) := by decide +kernel
theorem dX4_isBrought_12 : decode cX4_isBrought 12 = .ok (.goto 4, 3) := by decide +kernel
theorem dX4_isBrought_15 : decode cX4_isBrought 15 = .ok (.iconst 0, 1) := by decide +kernel
theorem dX4_isBrought_16 : decode cX4_isBrought 16 = .ok (.ireturn, 1) := by decide +kernel
theorem dX4_minding_0 : decode cX4_minding 0 = .ok (.aload_n 0, 1) := by decide +kernel
theorem dX4_minding_1 : decode cX4_minding 1 = .ok (.getfield 19, 3) := by decide +kernel
theorem dX4_minding_4 : decode cX4_minding 4 = .ok (.iload_n 2, 1) := by decide +kernel
theorem dX4_minding_5 : decode cX4_minding 5 = .ok (.iaload, 1) := by decide +kernel
theorem dX4_minding_6 : decode cX4_minding 6 = .ok (.aload_n 0, 1) := by decide +kernel
theorem dX4_minding_7 : decode cX4_minding 7 = .ok (.getfield 19, 3) := by decide +kernel
theorem dX4_minding_10 : decode cX4_minding 10 = .ok (.iload_n 1, 1) := by decide +kernel
theorem dX4_minding_11 : decode cX4_minding 11 = .ok (.iaload, 1) := by decide +kernel
theorem dX4_minding_12 : decode cX4_minding 12 = .ok (.if_icmp .le 19, 3) := by decide +kernel
theorem dX4_minding_15 : decode cX4_minding 15 = .ok (.aload_n 0, 1) := by decide +kernel
theorem dX4_minding_16 : decode cX4_minding 16 = .ok (.getfield 19, 3) := by decide +kernel
theorem dX4_minding_19 : decode cX4_minding 19 = .ok (.iload_n 2, 1) := by decide +kernel
theorem dX4_minding_20 : decode cX4_minding 20 = .ok (.iaload, 1) := by decide +kernel
theorem dX4_minding_21 : decode cX4_minding 21 = .ok (.aload_n 0, 1) := by decide +kernel
theorem dX4_minding_22 : decode cX4_minding 22 = .ok (.getfield 19, 3) := by decide +kernel
theorem dX4_minding_25 : decode cX4_minding 25 = .ok (.iload_n 1, 1) := by decide +kernel
theorem dX4_minding_26 : decode cX4_minding 26 = .ok (.iaload, 1) := by decide +kernel
theorem dX4_minding_27 : decode cX4_minding 27 = .ok (.isub, 1) := by decide +kernel
theorem dX4_minding_28 : decode cX4_minding 28 = .ok (.goto 4, 3) := by decide +kernel
theorem dX4_minding_31 : decode cX4_minding 31 = .ok (.iconst 0, 1) := by decide +kernel
theorem dX4_minding_32 : decode cX4_minding 32 = .ok (.istore_n 3, 1) := by decide +kernel
theorem dX4_minding_33 : decode cX4_minding 33 = .ok (.aload_n 0, 1) := by decide +kernel
theorem dX4_minding_34 : decode cX4_minding 34 = .ok (.getfield 9, 3) := by decide +kernel
theorem dX4_minding_37 : decode cX4_minding 37 = .ok (.iload_n 1, 1) := by decide +kernel
theorem dX4_minding_38 : decode cX4_minding 38 = .ok (.iaload, 1) := by decide +kernel
theorem dX4_minding_39 : decode cX4_minding 39 = .ok (.tableswitch 100 1 5 #[33, 35, 39, 100, 62], 33) := by decide +kernel
theorem dX4_minding_72 : decode cX4_minding 72 = .ok (.iload_n 3, 1) := by decide +kernel
theorem dX4_minding_73 : decode cX4_minding 73 = .ok (.ireturn, 1) := by decide +kernel
theorem dX4_minding_74 : decode cX4_minding 74 = .ok (.iconst 2, 1) := by decide +kernel
theorem dX4_minding_75 : decode cX4_minding 75 = .ok (.iload_n 3, 1) := by decide +kernel
theorem dX4_minding_76 : decode cX4_minding 76 = .ok (.imul, 1) := by decide +kernel
theorem dX4_minding_77 : decode cX4_minding 77 = .ok (.ireturn, 1) := by decide +kernel
theorem dX4_minding_78 : decode cX4_minding 78 = .ok (.iload_n 3, 1) := by decide +kernel
theorem dX4_minding_79 : decode cX4_minding 79 = .ok (.aload_n 0, 1) := by decide +kernel
theorem dX4_minding_80 : decode cX4_minding 80 = .ok (.getfield 22, 3) := by decide +kernel
theorem dX4_minding_83 : decode cX4_minding 83 = .ok (.iload_n 1, 1) := by decide +kernel
theorem dX4_minding_84 : decode cX4_minding 84 = .ok (.iaload, 1) := by decide +kernel
theorem dX4_minding_85 : decode cX4_minding 85 = .ok (.if_icmp .le 14, 3) := by decide +kernel
theorem dX4_minding_88 : decode cX4_minding 88 = .ok (.iload_n 3, 1) := by decide +kernel
theorem dX4_minding_89 : decode cX4_minding 89 = .ok (.aload_n 0, 1) := by decide +kernel
theorem dX4_minding_90 : decode cX4_minding 90 = .ok (.getfield 22, 3) := by decide +kernel
theorem dX4_minding_93 : decode cX4_minding 93 = .ok (.iload_n 1, 1) := by decide +kernel
theorem dX4_minding_94 : decode cX4_minding 94 = .ok (.iaload, 1) := by decide +kernel
theorem dX4_minding_95 : decode cX4_minding 95 = .ok (.isub, 1) := by decide +kernel
theorem dX4_minding_96 : decode cX4_minding 96 = .ok (.goto 4, 3) := by decide +kernel
theorem dX4_minding_99 : decode cX4_minding 99 = .ok (.iconst 0, 1) := by decide +kernel
theorem dX4_minding_100 : decode cX4_minding 100 = .ok (.ireturn, 1) := by decide +kernel
theorem dX4_minding_101 : decode cX4_minding 101 = .ok (.aload_n 0, 1) := by decide +kernel
theorem dX4_minding_102 : decode cX4_minding 102 = .ok (.getfield 16, 3) := by decide +kernel
theorem dX4_minding_105 : decode cX4_minding 105 = .ok (.iload_n 1, 1) := by decide +kernel
theorem dX4_minding_106 : decode cX4_minding 106 = .ok (.iaload, 1) := by decide +kernel
theorem dX4_minding_107 : decode cX4_minding 107 = .ok (.aload_n 0, 1) := by decide +kernel
theorem dX4_minding_108 : decode cX4_minding 108 = .ok (.getfield 16, 3) := by decide +kernel
theorem dX4_minding_111 : decode cX4_minding 111 = .ok (.iload_n 2, 1) := by decide +kernel
theorem dX4_minding_112 : decode cX4_minding 112 = .ok (.iaload, 1) := by decide +kernel
theorem dX4_minding_113 : decode cX4_minding 113 = .ok (.if_icmp .ne 6, 3) := by decide +kernel
theorem dX4_minding_116 : decode cX4_minding 116 = .ok (.bipush 9, 2) := by decide +kernel
theorem dX4_minding_118 : decode cX4_minding 118 = .ok (.ireturn, 1) := by decide +kernel
theorem dX4_minding_119 : decode cX4_minding 119 = .ok (.aload_n 0, 1) := by decide +kernel
theorem dX4_minding_120 : decode cX4_minding 120 = .ok (.getfield 19, 3) := by decide +kernel
theorem dX4_minding_123 : decode cX4_minding 123 = .ok (.iload_n 2, 1) := by decide +kernel
theorem dX4_minding_124 : decode cX4_minding 124 = .ok (.iaload, 1) := by decide +kernel
theorem dX4_minding_125 : decode cX4_minding 125 = .ok (.ifCond .le 12, 3) := by decide +kernel
theorem dX4_minding_128 : decode cX4_minding 128 = .ok (.aload_n 0, 1) := by decide +kernel
theorem dX4_minding_129 : decode cX4_minding 129 = .ok (.getfield 22, 3) := by decide +kernel
theorem dX4_minding_132 : decode cX4_minding 132 = .ok (.iload_n 1, 1) := by decide +kernel
theorem dX4_minding_133 : decode cX4_minding 133 = .ok (.iaload, 1) := by decide +kernel
theorem dX4_minding_134 : decode cX4_minding 134 = .ok (.goto 4, 3) := by decide +kernel
theorem dX4_minding_137 : decode cX4_minding 137 = .ok (.iconst 0, 1) := by decide +kernel
theorem dX4_minding_138 : decode cX4_minding 138 = .ok (.ireturn, 1) := by decide +kernel
theorem dX4_minding_139 : decode cX4_minding 139 = .ok (.aload_n 0, 1) := by decide +kernel
theorem dX4_minding_140 : decode cX4_minding 140 = .ok (.getfield 19, 3) := by decide +kernel
theorem dX4_minding_143 : decode cX4_minding 143 = .ok (.iload_n 2, 1) := by decide +kernel
theorem dX4_minding_144 : decode cX4_minding 144 = .ok (.iaload, 1) := by decide +kernel
theorem dX4_minding_145 : decode cX4_minding 145 = .ok (.ifCond .le 12, 3) := by decide +kernel
theorem dX4_minding_148 : decode cX4_minding 148 = .ok (.aload_n 0, 1) := by decide +kernel
theorem dX4_minding_149 : decode cX4_minding 149 = .ok (.getfield 22, 3) := by decide +kernel
theorem dX4_minding_152 : decode cX4_minding 152 = .ok (.iload_n 1, 1) := by decide +kernel
theorem dX4_minding_153 : decode cX4_minding 153 = .ok (.iaload, 1) := by decide +kernel
theorem dX4_minding_154 : decode cX4_minding 154 = .ok (.goto 4, 3) := by decide +kernel
theorem dX4_minding_157 : decode cX4_minding 157 = .ok (.iconst 0, 1) := by decide +kernel
theorem dX4_minding_158 : decode cX4_minding 158 = .ok (.ireturn, 1) := by decide +kernel
theorem dX4_envy_0 : decode cX4_envy 0 = .ok (.iconst 0, 1) := by decide +kernel
theorem dX4_envy_1 : decode cX4_envy 1 = .ok (.istore_n 2, 1) := by decide +kernel
theorem dX4_envy_2 : decode cX4_envy 2 = .ok (.iload_n 1, 1) := by decide +kernel
theorem dX4_envy_3 : decode cX4_envy 3 = .ok (.aload_n 0, 1) := by decide +kernel
theorem dX4_envy_4 : decode cX4_envy 4 = .ok (.getfield 25, 3) := by decide +kernel
theorem dX4_envy_7 : decode cX4_envy 7 = .ok (.if_icmp .ne 5, 3) := by decide +kernel
theorem dX4_envy_10 : decode cX4_envy 10 = .ok (.iload_n 2, 1) := by decide +kernel
theorem dX4_envy_11 : decode cX4_envy 11 = .ok (.ireturn, 1) := by decide +kernel
theorem dX4_envy_12 : decode cX4_envy 12 = .ok (.iconst 0, 1) := by decide +kernel
theorem dX4_envy_13 : decode cX4_envy 13 = .ok (.istore_n 3, 1) := by decide +kernel
theorem dX4_envy_14 : decode cX4_envy 14 = .ok (.iload_n 3, 1) := by decide +kernel
theorem dX4_envy_15 : decode cX4_envy 15 = .ok (.aload_n 0, 1) := by decide +kernel
theorem dX4_envy_16 : decode cX4_envy 16 = .ok (.getfield 32, 3) := by decide +kernel
theorem dX4_envy_19 : decode cX4_envy 19 = .ok (.if_icmp .ge 46, 3) := by decide +kernel
theorem dX4_envy_22 : decode cX4_envy 22 = .ok (.iload_n 3, 1) := by decide +kernel
theorem dX4_envy_23 : decode cX4_envy 23 = .ok (.iload_n 1, 1) := by decide +kernel
theorem dX4_envy_24 : decode cX4_envy 24 = .ok (.if_icmp .eq 35, 3) := by decide +kernel
theorem dX4_envy_27 : decode cX4_envy 27 = .ok (.iload_n 3, 1) := by decide +kernel
theorem dX4_envy_28 : decode cX4_envy 28 = .ok (.aload_n 0, 1) := by decide +kernel
theorem dX4_envy_29 : decode cX4_envy 29 = .ok (.getfield 25, 3) := by decide +kernel
theorem dX4_envy_32 : decode cX4_envy 32 = .ok (.if_icmp .eq 27, 3) := by decide +kernel
theorem dX4_envy_35 : decode cX4_envy 35 = .ok (.aload_n 0, 1) := by decide +kernel
theorem dX4_envy_36 : decode cX4_envy 36 = .ok (.getfield 13, 3) := by decide +kernel
theorem dX4_envy_39 : decode cX4_envy 39 = .ok (.iload_n 3, 1) := by decide +kernel
theorem dX4_envy_40 : decode cX4_envy 40 = .ok (.iaload, 1) := by decide +kernel
theorem dX4_envy_41 : decode cX4_envy 41 = .ok (.aload_n 0, 1) := by decide +kernel
theorem dX4_envy_42 : decode cX4_envy 42 = .ok (.getfield 13, 3) := by decide +kernel
theorem dX4_envy_45 : decode cX4_envy 45 = .ok (.iload_n 1, 1) := by decide +kernel
theorem dX4_envy_46 : decode cX4_envy 46 = .ok (.iaload, 1) := by decide +kernel
theorem dX4_envy_47 : decode cX4_envy 47 = .ok (.if_icmp .ne 12, 3) := by decide +kernel
theorem dX4_envy_50 : decode cX4_envy 50 = .ok (.iload_n 2, 1) := by decide +kernel
theorem dX4_envy_51 : decode cX4_envy 51 = .ok (.aload_n 0, 1) := by decide +kernel
theorem dX4_envy_52 : decode cX4_envy 52 = .ok (.iload_n 3, 1) := by decide +kernel
theorem dX4_envy_53 : decode cX4_envy 53 = .ok (.iload_n 1, 1) := by decide +kernel
theorem dX4_envy_54 : decode cX4_envy 54 = .ok (.invokevirtual 57, 3) := by decide +kernel
theorem dX4_envy_57 : decode cX4_envy 57 = .ok (.iadd, 1) := by decide +kernel
theorem dX4_envy_58 : decode cX4_envy 58 = .ok (.istore_n 2, 1) := by decide +kernel
theorem dX4_envy_59 : decode cX4_envy 59 = .ok (.iinc 3 1, 3) := by decide +kernel
theorem dX4_envy_62 : decode cX4_envy 62 = .ok (.goto (-48), 3) := by decide +kernel
theorem dX4_envy_65 : decode cX4_envy 65 = .ok (.iload_n 2, 1) := by decide +kernel
theorem dX4_envy_66 : decode cX4_envy 66 = .ok (.ireturn, 1) := by decide +kernel
theorem dX4_goal_0 : decode cX4_goal 0 = .ok (.aload_n 0, 1) := by decide +kernel
theorem dX4_goal_1 : decode cX4_goal 1 = .ok (.getfield 29, 3) := by decide +kernel
theorem dX4_goal_4 : decode cX4_goal 4 = .ok (.bipush (-2), 2) := by decide +kernel
theorem dX4_goal_6 : decode cX4_goal 6 = .ok (.if_icmp .eq 8, 3) := by decide +kernel
theorem dX4_goal_9 : decode cX4_goal 9 = .ok (.aload_n 0, 1) := by decide +kernel
theorem dX4_goal_10 : decode cX4_goal 10 = .ok (.getfield 29, 3) := by decide +kernel
theorem dX4_goal_13 : decode cX4_goal 13 = .ok (.ireturn, 1) := by decide +kernel
theorem dX4_goal_14 : decode cX4_goal 14 = .ok (.iconst 0, 1) := by decide +kernel
theorem dX4_goal_15 : decode cX4_goal 15 = .ok (.istore_n 1, 1) := by decide +kernel
theorem dX4_goal_16 : decode cX4_goal 16 = .ok (.aload_n 0, 1) := by decide +kernel
theorem dX4_goal_17 : decode cX4_goal 17 = .ok (.iconst (-1), 1) := by decide +kernel
theorem dX4_goal_18 : decode cX4_goal 18 = .ok (.putfield 29, 3) := by decide +kernel
theorem dX4_goal_21 : decode cX4_goal 21 = .ok (.iconst 0, 1) := by decide +kernel
theorem dX4_goal_22 : decode cX4_goal 22 = .ok (.istore_n 2, 1) := by decide +kernel
theorem dX4_goal_23 : decode cX4_goal 23 = .ok (.iload_n 2, 1) := by decide +kernel
theorem dX4_goal_24 : decode cX4_goal 24 = .ok (.aload_n 0, 1) := by decide +kernel
theorem dX4_goal_25 : decode cX4_goal 25 = .ok (.getfield 32, 3) := by decide +kernel
theorem dX4_goal_28 : decode cX4_goal 28 = .ok (.if_icmp .ge 39, 3) := by decide +kernel
theorem dX4_goal_31 : decode cX4_goal 31 = .ok (.aload_n 0, 1) := by decide +kernel
theorem dX4_goal_32 : decode cX4_goal 32 = .ok (.iload_n 2, 1) := by decide +kernel
theorem dX4_goal_33 : decode cX4_goal 33 = .ok (.invokevirtual 61, 3) := by decide +kernel
theorem dX4_goal_36 : decode cX4_goal 36 = .ok (.ifCond .eq 7, 3) := by decide +kernel
theorem dX4_goal_39 : decode cX4_goal 39 = .ok (.iconst 0, 1) := by decide +kernel
theorem dX4_goal_40 : decode cX4_goal 40 = .ok (.goto 8, 3) := by decide +kernel
theorem dX4_goal_43 : decode cX4_goal 43 = .ok (.aload_n 0, 1) := by decide +kernel
theorem dX4_goal_44 : decode cX4_goal 44 = .ok (.iload_n 2, 1) := by decide +kernel
theorem dX4_goal_45 : decode cX4_goal 45 = .ok (.invokevirtual 65, 3) := by decide +kernel
theorem dX4_goal_48 : decode cX4_goal 48 = .ok (.istore_n 3, 1) := by decide +kernel
theorem dX4_goal_49 : decode cX4_goal 49 = .ok (.iload_n 3, 1) := by decide +kernel
theorem dX4_goal_50 : decode cX4_goal 50 = .ok (.iload_n 1, 1) := by decide +kernel
theorem dX4_goal_51 : decode cX4_goal 51 = .ok (.if_icmp .le 10, 3) := by decide +kernel
theorem dX4_goal_54 : decode cX4_goal 54 = .ok (.aload_n 0, 1) := by decide +kernel
theorem dX4_goal_55 : decode cX4_goal 55 = .ok (.iload_n 2, 1) := by decide +kernel
theorem dX4_goal_56 : decode cX4_goal 56 = .ok (.putfield 29, 3) := by decide +kernel
theorem dX4_goal_59 : decode cX4_goal 59 = .ok (.iload_n 3, 1) := by decide +kernel
theorem dX4_goal_60 : decode cX4_goal 60 = .ok (.istore_n 1, 1) := by decide +kernel
theorem dX4_goal_61 : decode cX4_goal 61 = .ok (.iinc 2 1, 3) := by decide +kernel
theorem dX4_goal_64 : decode cX4_goal 64 = .ok (.goto (-41), 3) := by decide +kernel
theorem dX4_goal_67 : decode cX4_goal 67 = .ok (.aload_n 0, 1) := by decide +kernel
theorem dX4_goal_68 : decode cX4_goal 68 = .ok (.getfield 29, 3) := by decide +kernel
theorem dX4_goal_71 : decode cX4_goal 71 = .ok (.ireturn, 1) := by decide +kernel
theorem dX4_advance_0 : decode cX4_advance 0 = .ok (.aload_n 0, 1) := by decide +kernel
theorem dX4_advance_1 : decode cX4_advance 1 = .ok (.dup, 1) := by decide +kernel
theorem dX4_advance_2 : decode cX4_advance 2 = .ok (.getfield 44, 3) := by decide +kernel
theorem dX4_advance_5 : decode cX4_advance 5 = .ok (.iconst 1, 1) := by decide +kernel
theorem dX4_advance_6 : decode cX4_advance 6 = .ok (.iadd, 1) := by decide +kernel
theorem dX4_advance_7 : decode cX4_advance 7 = .ok (.putfield 44, 3) := by decide +kernel
theorem dX4_advance_10 : decode cX4_advance 10 = .ok (.aload_n 0, 1) := by decide +kernel
theorem dX4_advance_11 : decode cX4_advance 11 = .ok (.getfield 25, 3) := by decide +kernel
theorem dX4_advance_14 : decode cX4_advance 14 = .ok (.iconst (-1), 1) := by decide +kernel
theorem dX4_advance_15 : decode cX4_advance 15 = .ok (.if_icmp .eq 8, 3) := by decide +kernel
theorem dX4_advance_18 : decode cX4_advance 18 = .ok (.aload_n 0, 1) := by decide +kernel
theorem dX4_advance_19 : decode cX4_advance 19 = .ok (.invokevirtual 69, 3) := by decide +kernel
theorem dX4_advance_22 : decode cX4_advance 22 = .ok (.return_, 1) := by decide +kernel
theorem dX4_advance_23 : decode cX4_advance 23 = .ok (.aload_n 0, 1) := by decide +kernel
theorem dX4_advance_24 : decode cX4_advance 24 = .ok (.invokevirtual 72, 3) := by decide +kernel
theorem dX4_advance_27 : decode cX4_advance 27 = .ok (.istore_n 1, 1) := by decide +kernel
theorem dX4_advance_28 : decode cX4_advance 28 = .ok (.iload_n 1, 1) := by decide +kernel
theorem dX4_advance_29 : decode cX4_advance 29 = .ok (.iconst (-1), 1) := by decide +kernel
theorem dX4_advance_30 : decode cX4_advance 30 = .ok (.if_icmp .ne 4, 3) := by decide +kernel
theorem dX4_advance_33 : decode cX4_advance 33 = .ok (.return_, 1) := by decide +kernel
theorem dX4_advance_34 : decode cX4_advance 34 = .ok (.aload_n 0, 1) := by decide +kernel
theorem dX4_advance_35 : decode cX4_advance 35 = .ok (.getfield 38, 3) := by decide +kernel
theorem dX4_advance_38 : decode cX4_advance 38 = .ok (.aload_n 0, 1) := by decide +kernel
theorem dX4_advance_39 : decode cX4_advance 39 = .ok (.getfield 13, 3) := by decide +kernel
theorem dX4_advance_42 : decode cX4_advance 42 = .ok (.iload_n 1, 1) := by decide +kernel
theorem dX4_advance_43 : decode cX4_advance 43 = .ok (.iaload, 1) := by decide +kernel
theorem dX4_advance_44 : decode cX4_advance 44 = .ok (.if_icmp .eq 26, 3) := by decide +kernel
theorem dX4_advance_47 : decode cX4_advance 47 = .ok (.aload_n 0, 1) := by decide +kernel
theorem dX4_advance_48 : decode cX4_advance 48 = .ok (.dup, 1) := by decide +kernel
theorem dX4_advance_49 : decode cX4_advance 49 = .ok (.getfield 38, 3) := by decide +kernel
theorem dX4_advance_52 : decode cX4_advance 52 = .ok (.aload_n 0, 1) := by decide +kernel
theorem dX4_advance_53 : decode cX4_advance 53 = .ok (.getfield 13, 3) := by decide +kernel
theorem dX4_advance_56 : decode cX4_advance 56 = .ok (.iload_n 1, 1) := by decide +kernel
theorem dX4_advance_57 : decode cX4_advance 57 = .ok (.iaload, 1) := by decide +kernel
theorem dX4_advance_58 : decode cX4_advance 58 = .ok (.aload_n 0, 1) := by decide +kernel
theorem dX4_advance_59 : decode cX4_advance 59 = .ok (.getfield 38, 3) := by decide +kernel
theorem dX4_advance_62 : decode cX4_advance 62 = .ok (.invokestatic 75, 3) := by decide +kernel
theorem dX4_advance_65 : decode cX4_advance 65 = .ok (.iadd, 1) := by decide +kernel
theorem dX4_advance_66 : decode cX4_advance 66 = .ok (.putfield 38, 3) := by decide +kernel
theorem dX4_advance_69 : decode cX4_advance 69 = .ok (.return_, 1) := by decide +kernel
theorem dX4_advance_70 : decode cX4_advance 70 = .ok (.aload_n 0, 1) := by decide +kernel
theorem dX4_advance_71 : decode cX4_advance 71 = .ok (.iload_n 1, 1) := by decide +kernel
theorem dX4_advance_72 : decode cX4_advance 72 = .ok (.putfield 25, 3) := by decide +kernel
theorem dX4_advance_75 : decode cX4_advance 75 = .ok (.return_, 1) := by decide +kernel
theorem dX4_carry_0 : decode cX4_carry 0 = .ok (.aload_n 0, 1) := by decide +kernel
theorem dX4_carry_1 : decode cX4_carry 1 = .ok (.getfield 38, 3) := by decide +kernel
theorem dX4_carry_4 : decode cX4_carry 4 = .ok (.aload_n 0, 1) := by decide +kernel
theorem dX4_carry_5 : decode cX4_carry 5 = .ok (.getfield 16, 3) := by decide +kernel
theorem dX4_carry_8 : decode cX4_carry 8 = .ok (.aload_n 0, 1) := by decide +kernel
theorem dX4_carry_9 : decode cX4_carry 9 = .ok (.getfield 25, 3) := by decide +kernel
theorem dX4_carry_12 : decode cX4_carry 12 = .ok (.iaload, 1) := by decide +kernel
theorem dX4_carry_13 : decode cX4_carry 13 = .ok (.if_icmp .eq 42, 3) := by decide +kernel
theorem dX4_carry_16 : decode cX4_carry 16 = .ok (.aload_n 0, 1) := by decide +kernel
theorem dX4_carry_17 : decode cX4_carry 17 = .ok (.dup, 1) := by decide +kernel
theorem dX4_carry_18 : decode cX4_carry 18 = .ok (.getfield 38, 3) := by decide +kernel
theorem dX4_carry_21 : decode cX4_carry 21 = .ok (.aload_n 0, 1) := by decide +kernel
theorem dX4_carry_22 : decode cX4_carry 22 = .ok (.getfield 16, 3) := by decide +kernel
theorem dX4_carry_25 : decode cX4_carry 25 = .ok (.aload_n 0, 1) := by decide +kernel
theorem dX4_carry_26 : decode cX4_carry 26 = .ok (.getfield 25, 3) := by decide +kernel
theorem dX4_carry_29 : decode cX4_carry 29 = .ok (.iaload, 1) := by decide +kernel
theorem dX4_carry_30 : decode cX4_carry 30 = .ok (.aload_n 0, 1) := by decide +kernel
theorem dX4_carry_31 : decode cX4_carry 31 = .ok (.getfield 38, 3) := by decide +kernel
theorem dX4_carry_34 : decode cX4_carry 34 = .ok (.invokestatic 75, 3) := by decide +kernel
theorem dX4_carry_37 : decode cX4_carry 37 = .ok (.iadd, 1) := by decide +kernel
theorem dX4_carry_38 : decode cX4_carry 38 = .ok (.putfield 38, 3) := by decide +kernel
theorem dX4_carry_41 : decode cX4_carry 41 = .ok (.aload_n 0, 1) := by decide +kernel
theorem dX4_carry_42 : decode cX4_carry 42 = .ok (.getfield 13, 3) := by decide +kernel
theorem dX4_carry_45 : decode cX4_carry 45 = .ok (.aload_n 0, 1) := by decide +kernel
theorem dX4_carry_46 : decode cX4_carry 46 = .ok (.getfield 25, 3) := by decide +kernel
theorem dX4_carry_49 : decode cX4_carry 49 = .ok (.aload_n 0, 1) := by decide +kernel
theorem dX4_carry_50 : decode cX4_carry 50 = .ok (.getfield 38, 3) := by decide +kernel
theorem dX4_carry_53 : decode cX4_carry 53 = .ok (.iastore, 1) := by decide +kernel
theorem dX4_carry_54 : decode cX4_carry 54 = .ok (.return_, 1) := by decide +kernel
theorem dX4_carry_55 : decode cX4_carry 55 = .ok (.aload_n 0, 1) := by decide +kernel
theorem dX4_carry_56 : decode cX4_carry 56 = .ok (.dup, 1) := by decide +kernel
theorem dX4_carry_57 : decode cX4_carry 57 = .ok (.getfield 41, 3) := by decide +kernel
theorem dX4_carry_60 : decode cX4_carry 60 = .ok (.iconst 1, 1) := by decide +kernel
theorem dX4_carry_61 : decode cX4_carry 61 = .ok (.aload_n 0, 1) := by decide +kernel
theorem dX4_carry_62 : decode cX4_carry 62 = .ok (.getfield 25, 3) := by decide +kernel
theorem dX4_carry_65 : decode cX4_carry 65 = .ok (.ishl, 1) := by decide +kernel
theorem dX4_carry_66 : decode cX4_carry 66 = .ok (.ior, 1) := by decide +kernel
theorem dX4_carry_67 : decode cX4_carry 67 = .ok (.putfield 41, 3) := by decide +kernel
theorem dX4_carry_70 : decode cX4_carry 70 = .ok (.aload_n 0, 1) := by decide +kernel
theorem dX4_carry_71 : decode cX4_carry 71 = .ok (.iconst (-1), 1) := by decide +kernel
theorem dX4_carry_72 : decode cX4_carry 72 = .ok (.putfield 25, 3) := by decide +kernel
theorem dX4_carry_75 : decode cX4_carry 75 = .ok (.aload_n 0, 1) := by decide +kernel
theorem dX4_carry_76 : decode cX4_carry 76 = .ok (.bipush (-2), 2) := by decide +kernel
theorem dX4_carry_78 : decode cX4_carry 78 = .ok (.putfield 29, 3) := by decide +kernel
theorem dX4_carry_81 : decode cX4_carry 81 = .ok (.return_, 1) := by decide +kernel
theorem dX4_rests_0 : decode cX4_rests 0 = .ok (.aload_n 0, 1) := by decide +kernel
theorem dX4_rests_1 : decode cX4_rests 1 = .ok (.getfield 25, 3) := by decide +kernel
theorem dX4_rests_4 : decode cX4_rests 4 = .ok (.iconst (-1), 1) := by decide +kernel
theorem dX4_rests_5 : decode cX4_rests 5 = .ok (.if_icmp .ne 15, 3) := by decide +kernel
theorem dX4_rests_8 : decode cX4_rests 8 = .ok (.aload_n 0, 1) := by decide +kernel
theorem dX4_rests_9 : decode cX4_rests 9 = .ok (.invokevirtual 72, 3) := by decide +kernel
theorem dX4_rests_12 : decode cX4_rests 12 = .ok (.iconst (-1), 1) := by decide +kernel
theorem dX4_rests_13 : decode cX4_rests 13 = .ok (.if_icmp .ne 7, 3) := by decide +kernel
theorem dX4_rests_16 : decode cX4_rests 16 = .ok (.iconst 1, 1) := by decide +kernel
theorem dX4_rests_17 : decode cX4_rests 17 = .ok (.goto 4, 3) := by decide +kernel
theorem dX4_rests_20 : decode cX4_rests 20 = .ok (.iconst 0, 1) := by decide +kernel
theorem dX4_rests_21 : decode cX4_rests 21 = .ok (.ireturn, 1) := by decide +kernel
theorem dX4_lastWithin_0 : decode cX4_lastWithin 0 = .ok (.iconst 0, 1) := by decide +kernel
theorem dX4_lastWithin_1 : decode cX4_lastWithin 1 = .ok (.istore_n 2, 1) := by decide +kernel
theorem dX4_lastWithin_2 : decode cX4_lastWithin 2 = .ok (.iconst 1, 1) := by decide +kernel
theorem dX4_lastWithin_3 : decode cX4_lastWithin 3 = .ok (.istore_n 3, 1) := by decide +kernel
theorem dX4_lastWithin_4 : decode cX4_lastWithin 4 = .ok (.iload_n 3, 1) := by decide +kernel
theorem dX4_lastWithin_5 : decode cX4_lastWithin 5 = .ok (.iload_n 1, 1) := by decide +kernel
theorem dX4_lastWithin_6 : decode cX4_lastWithin 6 = .ok (.if_icmp .gt 41, 3) := by decide +kernel
theorem dX4_lastWithin_9 : decode cX4_lastWithin 9 = .ok (.aload_n 0, 1) := by decide +kernel
theorem dX4_lastWithin_10 : decode cX4_lastWithin 10 = .ok (.invokevirtual 80, 3) := by decide +kernel
theorem dX4_lastWithin_13 : decode cX4_lastWithin 13 = .ok (.ifCond .ne 34, 3) := by decide +kernel
theorem dX4_lastWithin_16 : decode cX4_lastWithin 16 = .ok (.aload_n 0, 1) := by decide +kernel
theorem dX4_lastWithin_17 : decode cX4_lastWithin 17 = .ok (.getfield 41, 3) := by decide +kernel
theorem dX4_lastWithin_20 : decode cX4_lastWithin 20 = .ok (.istore 4, 2) := by decide +kernel
theorem dX4_lastWithin_22 : decode cX4_lastWithin 22 = .ok (.aload_n 0, 1) := by decide +kernel
theorem dX4_lastWithin_23 : decode cX4_lastWithin 23 = .ok (.invokevirtual 84, 3) := by decide +kernel
theorem dX4_lastWithin_26 : decode cX4_lastWithin 26 = .ok (.aload_n 0, 1) := by decide +kernel
theorem dX4_lastWithin_27 : decode cX4_lastWithin 27 = .ok (.getfield 41, 3) := by decide +kernel
theorem dX4_lastWithin_30 : decode cX4_lastWithin 30 = .ok (.iload 4, 2) := by decide +kernel
theorem dX4_lastWithin_32 : decode cX4_lastWithin 32 = .ok (.if_icmp .eq 7, 3) := by decide +kernel
theorem dX4_lastWithin_35 : decode cX4_lastWithin 35 = .ok (.iload_n 3, 1) := by decide +kernel
theorem dX4_lastWithin_36 : decode cX4_lastWithin 36 = .ok (.goto 4, 3) := by decide +kernel
theorem dX4_lastWithin_39 : decode cX4_lastWithin 39 = .ok (.iload_n 2, 1) := by decide +kernel
theorem dX4_lastWithin_40 : decode cX4_lastWithin 40 = .ok (.istore_n 2, 1) := by decide +kernel
theorem dX4_lastWithin_41 : decode cX4_lastWithin 41 = .ok (.iinc 3 1, 3) := by decide +kernel
theorem dX4_lastWithin_44 : decode cX4_lastWithin 44 = .ok (.goto (-40), 3) := by decide +kernel
theorem dX4_lastWithin_47 : decode cX4_lastWithin 47 = .ok (.iload_n 2, 1) := by decide +kernel
theorem dX4_lastWithin_48 : decode cX4_lastWithin 48 = .ok (.ireturn, 1) := by decide +kernel
theorem dX4_until_0 : decode cX4_until 0 = .ok (.iconst 0, 1) := by decide +kernel
theorem dX4_until_1 : decode cX4_until 1 = .ok (.istore_n 3, 1) := by decide +kernel
theorem dX4_until_2 : decode cX4_until 2 = .ok (.iload_n 3, 1) := by decide +kernel
theorem dX4_until_3 : decode cX4_until 3 = .ok (.iload_n 2, 1) := by decide +kernel
theorem dX4_until_4 : decode cX4_until 4 = .ok (.if_icmp .ge 40, 3) := by decide +kernel
theorem dX4_until_7 : decode cX4_until 7 = .ok (.aload_n 0, 1) := by decide +kernel
theorem dX4_until_8 : decode cX4_until 8 = .ok (.iload_n 1, 1) := by decide +kernel
theorem dX4_until_9 : decode cX4_until 9 = .ok (.invokevirtual 61, 3) := by decide +kernel
theorem dX4_until_12 : decode cX4_until 12 = .ok (.ifCond .ne 32, 3) := by decide +kernel
theorem dX4_until_15 : decode cX4_until 15 = .ok (.aload_n 0, 1) := by decide +kernel
theorem dX4_until_16 : decode cX4_until 16 = .ok (.invokevirtual 80, 3) := by decide +kernel
theorem dX4_until_19 : decode cX4_until 19 = .ok (.ifCond .ne 25, 3) := by decide +kernel
theorem dX4_until_22 : decode cX4_until 22 = .ok (.aload_n 0, 1) := by decide +kernel
theorem dX4_until_23 : decode cX4_until 23 = .ok (.invokevirtual 84, 3) := by decide +kernel
theorem dX4_until_26 : decode cX4_until 26 = .ok (.aload_n 0, 1) := by decide +kernel
theorem dX4_until_27 : decode cX4_until 27 = .ok (.iload_n 1, 1) := by decide +kernel
theorem dX4_until_28 : decode cX4_until 28 = .ok (.invokevirtual 61, 3) := by decide +kernel
theorem dX4_until_31 : decode cX4_until 31 = .ok (.ifCond .eq 7, 3) := by decide +kernel
theorem dX4_until_34 : decode cX4_until 34 = .ok (.iload_n 3, 1) := by decide +kernel
theorem dX4_until_35 : decode cX4_until 35 = .ok (.iconst 1, 1) := by decide +kernel
theorem dX4_until_36 : decode cX4_until 36 = .ok (.iadd, 1) := by decide +kernel
theorem dX4_until_37 : decode cX4_until 37 = .ok (.ireturn, 1) := by decide +kernel
theorem dX4_until_38 : decode cX4_until 38 = .ok (.iinc 3 1, 3) := by decide +kernel
theorem dX4_until_41 : decode cX4_until 41 = .ok (.goto (-39), 3) := by decide +kernel
theorem dX4_until_44 : decode cX4_until 44 = .ok (.aload_n 0, 1) := by decide +kernel
theorem dX4_until_45 : decode cX4_until 45 = .ok (.iload_n 1, 1) := by decide +kernel
theorem dX4_until_46 : decode cX4_until 46 = .ok (.invokevirtual 61, 3) := by decide +kernel
theorem dX4_until_49 : decode cX4_until 49 = .ok (.ifCond .eq 7, 3) := by decide +kernel
theorem dX4_until_52 : decode cX4_until 52 = .ok (.iconst 0, 1) := by decide +kernel
theorem dX4_until_53 : decode cX4_until 53 = .ok (.goto 4, 3) := by decide +kernel
theorem dX4_until_56 : decode cX4_until 56 = .ok (.iconst (-1), 1) := by decide +kernel
theorem dX4_until_57 : decode cX4_until 57 = .ok (.ireturn, 1) := by decide +kernel
theorem dX4_goesAs_0 : decode cX4_goesAs 0 = .ok (.iload_n 2, 1) := by decide +kernel
theorem dX4_goesAs_1 : decode cX4_goesAs 1 = .ok (.istore 4, 2) := by decide +kernel
theorem dX4_goesAs_3 : decode cX4_goesAs 3 = .ok (.iload 4, 2) := by decide +kernel
theorem dX4_goesAs_5 : decode cX4_goesAs 5 = .ok (.iload_n 2, 1) := by decide +kernel
theorem dX4_goesAs_6 : decode cX4_goesAs 6 = .ok (.iload_n 3, 1) := by decide +kernel
theorem dX4_goesAs_7 : decode cX4_goesAs 7 = .ok (.iadd, 1) := by decide +kernel
theorem dX4_goesAs_8 : decode cX4_goesAs 8 = .ok (.if_icmp .ge 33, 3) := by decide +kernel
theorem dX4_goesAs_11 : decode cX4_goesAs 11 = .ok (.iload 4, 2) := by decide +kernel
theorem dX4_goesAs_13 : decode cX4_goesAs 13 = .ok (.aload_n 1, 1) := by decide +kernel
theorem dX4_goesAs_14 : decode cX4_goesAs 14 = .ok (.arraylength, 1) := by decide +kernel
theorem dX4_goesAs_15 : decode cX4_goesAs 15 = .ok (.if_icmp .ge 26, 3) := by decide +kernel
theorem dX4_goesAs_18 : decode cX4_goesAs 18 = .ok (.aload_n 0, 1) := by decide +kernel
theorem dX4_goesAs_19 : decode cX4_goesAs 19 = .ok (.invokevirtual 84, 3) := by decide +kernel
theorem dX4_goesAs_22 : decode cX4_goesAs 22 = .ok (.aload_n 0, 1) := by decide +kernel
theorem dX4_goesAs_23 : decode cX4_goesAs 23 = .ok (.getfield 38, 3) := by decide +kernel
theorem dX4_goesAs_26 : decode cX4_goesAs 26 = .ok (.aload_n 1, 1) := by decide +kernel
theorem dX4_goesAs_27 : decode cX4_goesAs 27 = .ok (.iload 4, 2) := by decide +kernel
theorem dX4_goesAs_29 : decode cX4_goesAs 29 = .ok (.iaload, 1) := by decide +kernel
theorem dX4_goesAs_30 : decode cX4_goesAs 30 = .ok (.if_icmp .eq 5, 3) := by decide +kernel
theorem dX4_goesAs_33 : decode cX4_goesAs 33 = .ok (.iconst 0, 1) := by decide +kernel
theorem dX4_goesAs_34 : decode cX4_goesAs 34 = .ok (.ireturn, 1) := by decide +kernel
theorem dX4_goesAs_35 : decode cX4_goesAs 35 = .ok (.iinc 4 1, 3) := by decide +kernel
theorem dX4_goesAs_38 : decode cX4_goesAs 38 = .ok (.goto (-35), 3) := by decide +kernel
theorem dX4_goesAs_41 : decode cX4_goesAs 41 = .ok (.iconst 1, 1) := by decide +kernel
theorem dX4_goesAs_42 : decode cX4_goesAs 42 = .ok (.ireturn, 1) := by decide +kernel
theorem dX4_stray_0 : decode cX4_stray 0 = .ok (.aload_n 0, 1) := by decide +kernel
theorem dX4_stray_1 : decode cX4_stray 1 = .ok (.getfield 32, 3) := by decide +kernel
theorem dX4_stray_4 : decode cX4_stray 4 = .ok (.ifCond .ne 4, 3) := by decide +kernel
theorem dX4_stray_7 : decode cX4_stray 7 = .ok (.return_, 1) := by decide +kernel
theorem dX4_stray_8 : decode cX4_stray 8 = .ok (.lload_n 1, 1) := by decide +kernel
theorem dX4_stray_9 : decode cX4_stray 9 = .ok (.aload_n 0, 1) := by decide +kernel
theorem dX4_stray_10 : decode cX4_stray 10 = .ok (.getfield 32, 3) := by decide +kernel
theorem dX4_stray_13 : decode cX4_stray 13 = .ok (.i2l, 1) := by decide +kernel
theorem dX4_stray_14 : decode cX4_stray 14 = .ok (.lrem, 1) := by decide +kernel
theorem dX4_stray_15 : decode cX4_stray 15 = .ok (.l2i, 1) := by decide +kernel
theorem dX4_stray_16 : decode cX4_stray 16 = .ok (.istore_n 3, 1) := by decide +kernel
theorem dX4_stray_17 : decode cX4_stray 17 = .ok (.aload_n 0, 1) := by decide +kernel
theorem dX4_stray_18 : decode cX4_stray 18 = .ok (.getfield 13, 3) := by decide +kernel
theorem dX4_stray_21 : decode cX4_stray 21 = .ok (.iload_n 3, 1) := by decide +kernel
theorem dX4_stray_22 : decode cX4_stray 22 = .ok (.iaload, 1) := by decide +kernel
theorem dX4_stray_23 : decode cX4_stray 23 = .ok (.istore 4, 2) := by decide +kernel
theorem dX4_stray_25 : decode cX4_stray 25 = .ok (.lload_n 1, 1) := by decide +kernel
theorem dX4_stray_26 : decode cX4_stray 26 = .ok (.ldc2_w 87, 3) := by decide +kernel
theorem dX4_stray_29 : decode cX4_stray 29 = .ok (.lrem, 1) := by decide +kernel
theorem dX4_stray_30 : decode cX4_stray 30 = .ok (.lconst 0, 1) := by decide +kernel
theorem dX4_stray_31 : decode cX4_stray 31 = .ok (.lcmp, 1) := by decide +kernel
theorem dX4_stray_32 : decode cX4_stray 32 = .ok (.ifCond .ne 9, 3) := by decide +kernel
theorem dX4_stray_35 : decode cX4_stray 35 = .ok (.iinc 4 1, 3) := by decide +kernel
theorem dX4_stray_38 : decode cX4_stray 38 = .ok (.goto 16, 3) := by decide +kernel
theorem dX4_stray_41 : decode cX4_stray 41 = .ok (.lload_n 1, 1) := by decide +kernel
theorem dX4_stray_42 : decode cX4_stray 42 = .ok (.ldc2_w 87, 3) := by decide +kernel
theorem dX4_stray_45 : decode cX4_stray 45 = .ok (.lrem, 1) := by decide +kernel
theorem dX4_stray_46 : decode cX4_stray 46 = .ok (.lconst 1, 1) := by decide +kernel
theorem dX4_stray_47 : decode cX4_stray 47 = .ok (.lcmp, 1) := by decide +kernel
theorem dX4_stray_48 : decode cX4_stray 48 = .ok (.ifCond .ne 6, 3) := by decide +kernel
theorem dX4_stray_51 : decode cX4_stray 51 = .ok (.iinc 4 (-1), 3) := by decide +kernel
theorem dX4_stray_54 : decode cX4_stray 54 = .ok (.iload_n 3, 1) := by decide +kernel
theorem dX4_stray_55 : decode cX4_stray 55 = .ok (.aload_n 0, 1) := by decide +kernel
theorem dX4_stray_56 : decode cX4_stray 56 = .ok (.getfield 25, 3) := by decide +kernel
theorem dX4_stray_59 : decode cX4_stray 59 = .ok (.if_icmp .eq 25, 3) := by decide +kernel
theorem dX4_stray_62 : decode cX4_stray 62 = .ok (.iload 4, 2) := by decide +kernel
theorem dX4_stray_64 : decode cX4_stray 64 = .ok (.ifCond .lt 20, 3) := by decide +kernel
theorem dX4_stray_67 : decode cX4_stray 67 = .ok (.iload 4, 2) := by decide +kernel
theorem dX4_stray_69 : decode cX4_stray 69 = .ok (.aload_n 0, 1) := by decide +kernel
theorem dX4_stray_70 : decode cX4_stray 70 = .ok (.getfield 35, 3) := by decide +kernel
theorem dX4_stray_73 : decode cX4_stray 73 = .ok (.if_icmp .gt 11, 3) := by decide +kernel
theorem dX4_stray_76 : decode cX4_stray 76 = .ok (.aload_n 0, 1) := by decide +kernel
theorem dX4_stray_77 : decode cX4_stray 77 = .ok (.iconst 1, 1) := by decide +kernel
theorem dX4_stray_78 : decode cX4_stray 78 = .ok (.iload_n 3, 1) := by decide +kernel
theorem dX4_stray_79 : decode cX4_stray 79 = .ok (.iload 4, 2) := by decide +kernel
theorem dX4_stray_81 : decode cX4_stray 81 = .ok (.invokevirtual 53, 3) := by decide +kernel
theorem dX4_stray_84 : decode cX4_stray 84 = .ok (.return_, 1) := by decide +kernel
theorem dX5_init_0 : decode cX5_init 0 = .ok (.aload_n 0, 1) := by decide +kernel
theorem dX5_init_1 : decode cX5_init 1 = .ok (.invokespecial 1, 3) := by decide +kernel
theorem dX5_init_4 : decode cX5_init 4 = .ok (.return_, 1) := by decide +kernel
theorem dX5_mark_0 : decode cX5_mark 0 = .ok (.aload_n 3, 1) := by decide +kernel
theorem dX5_mark_1 : decode cX5_mark 1 = .ok (.bipush 22, 2) := by decide +kernel
theorem dX5_mark_3 : decode cX5_mark 3 = .ok (.invokevirtual 7, 3) := by decide +kernel
theorem dX5_mark_6 : decode cX5_mark 6 = .ok (.aload_n 0, 1) := by decide +kernel
theorem dX5_mark_7 : decode cX5_mark 7 = .ok (.aload_n 1, 1) := by decide +kernel
theorem dX5_mark_8 : decode cX5_mark 8 = .ok (.iload_n 2, 1) := by decide +kernel
theorem dX5_mark_9 : decode cX5_mark 9 = .ok (.aload_n 3, 1) := by decide +kernel
theorem dX5_mark_10 : decode cX5_mark 10 = .ok (.invokespecial 13, 3) := by decide +kernel
theorem dX5_mark_13 : decode cX5_mark 13 = .ok (.sipush 1000, 3) := by decide +kernel
theorem dX5_mark_16 : decode cX5_mark 16 = .ok (.isub, 1) := by decide +kernel
theorem dX5_mark_17 : decode cX5_mark 17 = .ok (.ireturn, 1) := by decide +kernel
theorem dX6_init_0 : decode cX6_init 0 = .ok (.aload_n 0, 1) := by decide +kernel
theorem dX6_init_1 : decode cX6_init 1 = .ok (.invokespecial 1, 3) := by decide +kernel
theorem dX6_init_4 : decode cX6_init 4 = .ok (.return_, 1) := by decide +kernel
theorem dX6_size_0 : decode cX6_size 0 = .ok (.aload_n 3, 1) := by decide +kernel
theorem dX6_size_1 : decode cX6_size 1 = .ok (.bipush 10, 2) := by decide +kernel
theorem dX6_size_3 : decode cX6_size 3 = .ok (.invokevirtual 7, 3) := by decide +kernel
theorem dX6_size_6 : decode cX6_size 6 = .ok (.aload_n 1, 1) := by decide +kernel
theorem dX6_size_7 : decode cX6_size 7 = .ok (.getfield 13, 3) := by decide +kernel
theorem dX6_size_10 : decode cX6_size 10 = .ok (.iload_n 2, 1) := by decide +kernel
theorem dX6_size_11 : decode cX6_size 11 = .ok (.iaload, 1) := by decide +kernel
theorem dX6_size_12 : decode cX6_size 12 = .ok (.ireturn, 1) := by decide +kernel
theorem dX6_mark_0 : decode cX6_mark 0 = .ok (.aload_n 3, 1) := by decide +kernel
theorem dX6_mark_1 : decode cX6_mark 1 = .ok (.bipush 20, 2) := by decide +kernel
theorem dX6_mark_3 : decode cX6_mark 3 = .ok (.invokevirtual 7, 3) := by decide +kernel
theorem dX6_mark_6 : decode cX6_mark 6 = .ok (.iload_n 2, 1) := by decide +kernel
theorem dX6_mark_7 : decode cX6_mark 7 = .ok (.ireturn, 1) := by decide +kernel
theorem dX7_init_0 : decode cX7_init 0 = .ok (.aload_n 0, 1) := by decide +kernel
theorem dX7_init_1 : decode cX7_init 1 = .ok (.invokespecial 1, 3) := by decide +kernel
theorem dX7_init_4 : decode cX7_init 4 = .ok (.aload_n 0, 1) := by decide +kernel
theorem dX7_init_5 : decode cX7_init 5 = .ok (.bipush 40, 2) := by decide +kernel
theorem dX7_init_7 : decode cX7_init 7 = .ok (.newarray .int, 2) := by decide +kernel
theorem dX7_init_9 : decode cX7_init 9 = .ok (.putfield 9, 3) := by decide +kernel
theorem dX7_init_12 : decode cX7_init 12 = .ok (.aload_n 0, 1) := by decide +kernel
theorem dX7_init_13 : decode cX7_init 13 = .ok (.iconst (-1), 1) := by decide +kernel
theorem dX7_init_14 : decode cX7_init 14 = .ok (.putfield 13, 3) := by decide +kernel
theorem dX7_init_17 : decode cX7_init 17 = .ok (.return_, 1) := by decide +kernel
theorem dX7_isMissing_0 : decode cX7_isMissing 0 = .ok (.aload_n 0, 1) := by decide +kernel
theorem dX7_isMissing_1 : decode cX7_isMissing 1 = .ok (.getfield 13, 3) := by decide +kernel
theorem dX7_isMissing_4 : decode cX7_isMissing 4 = .ok (.iconst (-1), 1) := by decide +kernel
theorem dX7_isMissing_5 : decode cX7_isMissing 5 = .ok (.if_icmp .ne 7, 3) := by decide +kernel
theorem dX7_isMissing_8 : decode cX7_isMissing 8 = .ok (.iconst 1, 1) := by decide +kernel
theorem dX7_isMissing_9 : decode cX7_isMissing 9 = .ok (.goto 4, 3) := by decide +kernel
theorem dX7_isMissing_12 : decode cX7_isMissing 12 = .ok (.iconst 0, 1) := by decide +kernel
theorem dX7_isMissing_13 : decode cX7_isMissing 13 = .ok (.ireturn, 1) := by decide +kernel
theorem dX7_become_0 : decode cX7_become 0 = .ok (.aload_n 0, 1) := by decide +kernel
theorem dX7_become_1 : decode cX7_become 1 = .ok (.iload_n 1, 1) := by decide +kernel
theorem dX7_become_2 : decode cX7_become 2 = .ok (.putfield 13, 3) := by decide +kernel
theorem dX7_become_5 : decode cX7_become 5 = .ok (.aload_n 0, 1) := by decide +kernel
theorem dX7_become_6 : decode cX7_become 6 = .ok (.iload_n 2, 1) := by decide +kernel
theorem dX7_become_7 : decode cX7_become 7 = .ok (.putfield 17, 3) := by decide +kernel
theorem dX7_become_10 : decode cX7_become 10 = .ok (.iconst 0, 1) := by decide +kernel
theorem dX7_become_11 : decode cX7_become 11 = .ok (.istore_n 3, 1) := by decide +kernel
theorem dX7_become_12 : decode cX7_become 12 = .ok (.iload_n 3, 1) := by decide +kernel
theorem dX7_become_13 : decode cX7_become 13 = .ok (.bipush 40, 2) := by decide +kernel
theorem dX7_become_15 : decode cX7_become 15 = .ok (.if_icmp .ge 16, 3) := by decide +kernel
theorem dX7_become_18 : decode cX7_become 18 = .ok (.aload_n 0, 1) := by decide +kernel
theorem dX7_become_19 : decode cX7_become 19 = .ok (.getfield 9, 3) := by decide +kernel
theorem dX7_become_22 : decode cX7_become 22 = .ok (.iload_n 3, 1) := by decide +kernel
theorem dX7_become_23 : decode cX7_become 23 = .ok (.iconst 0, 1) := by decide +kernel
theorem dX7_become_24 : decode cX7_become 24 = .ok (.iastore, 1) := by decide +kernel
theorem dX7_become_25 : decode cX7_become 25 = .ok (.iinc 3 1, 3) := by decide +kernel
theorem dX7_become_28 : decode cX7_become 28 = .ok (.goto (-16), 3) := by decide +kernel
theorem dX7_become_31 : decode cX7_become 31 = .ok (.return_, 1) := by decide +kernel
theorem dX7_holds_0 : decode cX7_holds 0 = .ok (.iload_n 1, 1) := by decide +kernel
theorem dX7_holds_1 : decode cX7_holds 1 = .ok (.ifCond .lt 29, 3) := by decide +kernel
theorem dX7_holds_4 : decode cX7_holds 4 = .ok (.iload_n 2, 1) := by decide +kernel
theorem dX7_holds_5 : decode cX7_holds 5 = .ok (.ifCond .lt 25, 3) := by decide +kernel
theorem dX7_holds_8 : decode cX7_holds 8 = .ok (.iload_n 1, 1) := by decide +kernel
theorem dX7_holds_9 : decode cX7_holds 9 = .ok (.aload_n 0, 1) := by decide +kernel
theorem dX7_holds_10 : decode cX7_holds 10 = .ok (.getfield 17, 3) := by decide +kernel
theorem dX7_holds_13 : decode cX7_holds 13 = .ok (.if_icmp .gt 17, 3) := by decide +kernel
theorem dX7_holds_16 : decode cX7_holds 16 = .ok (.iload_n 2, 1) := by decide +kernel
theorem dX7_holds_17 : decode cX7_holds 17 = .ok (.aload_n 0, 1) := by decide +kernel
theorem dX7_holds_18 : decode cX7_holds 18 = .ok (.getfield 17, 3) := by decide +kernel
theorem dX7_holds_21 : decode cX7_holds 21 = .ok (.iload_n 1, 1) := by decide +kernel
theorem dX7_holds_22 : decode cX7_holds 22 = .ok (.isub, 1) := by decide +kernel
theorem dX7_holds_23 : decode cX7_holds 23 = .ok (.if_icmp .gt 7, 3) := by decide +kernel
theorem dX7_holds_26 : decode cX7_holds 26 = .ok (.iconst 1, 1) := by decide +kernel
theorem dX7_holds_27 : decode cX7_holds 27 = .ok (.goto 4, 3) := by decide +kernel
theorem dX7_holds_30 : decode cX7_holds 30 = .ok (.iconst 0, 1) := by decide +kernel
theorem dX7_holds_31 : decode cX7_holds 31 = .ok (.ireturn, 1) := by decide +kernel
theorem dX7_cut_0 : decode cX7_cut 0 = .ok (.aload_n 0, 1) := by decide +kernel
theorem dX7_cut_1 : decode cX7_cut 1 = .ok (.getfield 13, 3) := by decide +kernel
theorem dX7_cut_4 : decode cX7_cut 4 = .ok (.lookupswitch 34 #[(0, 28), (1, 31)], 28) := by decide +kernel
theorem dX7_cut_32 : decode cX7_cut 32 = .ok (.iload_n 1, 1) := by decide +kernel
theorem dX7_cut_33 : decode cX7_cut 33 = .ok (.i2b, 1) := by decide +kernel
theorem dX7_cut_34 : decode cX7_cut 34 = .ok (.ireturn, 1) := by decide +kernel
theorem dX7_cut_35 : decode cX7_cut 35 = .ok (.iload_n 1, 1) := by decide +kernel
theorem dX7_cut_36 : decode cX7_cut 36 = .ok (.i2s, 1) := by decide +kernel
theorem dX7_cut_37 : decode cX7_cut 37 = .ok (.ireturn, 1) := by decide +kernel
theorem dX7_cut_38 : decode cX7_cut 38 = .ok (.iload_n 1, 1) := by decide +kernel
theorem dX7_cut_39 : decode cX7_cut 39 = .ok (.ireturn, 1) := by decide +kernel
theorem dX8_init_0 : decode cX8_init 0 = .ok (.aload_n 0, 1) := by decide +kernel
theorem dX8_init_1 : decode cX8_init 1 = .ok (.invokespecial 1, 3) := by decide +kernel
theorem dX8_init_4 : decode cX8_init 4 = .ok (.aload_n 0, 1) := by decide +kernel
theorem dX8_init_5 : decode cX8_init 5 = .ok (.bipush 120, 2) := by decide +kernel
theorem dX8_init_7 : decode cX8_init 7 = .ok (.newarray .int, 2) := by decide +kernel
theorem dX8_init_9 : decode cX8_init 9 = .ok (.putfield 9, 3) := by decide +kernel
theorem dX8_init_12 : decode cX8_init 12 = .ok (.return_, 1) := by decide +kernel
theorem dX8_tellsHouse_0 : decode cX8_tellsHouse 0 = .ok (.aload_n 0, 1) := by decide +kernel
theorem dX8_tellsHouse_1 : decode cX8_tellsHouse 1 = .ok (.iconst 0, 1) := by decide +kernel
theorem dX8_tellsHouse_2 : decode cX8_tellsHouse 2 = .ok (.putfield 13, 3) := by decide +kernel
theorem dX8_tellsHouse_5 : decode cX8_tellsHouse 5 = .ok (.aload_n 0, 1) := by decide +kernel
theorem dX8_tellsHouse_6 : decode cX8_tellsHouse 6 = .ok (.aload_n 1, 1) := by decide +kernel
theorem dX8_tellsHouse_7 : decode cX8_tellsHouse 7 = .ok (.invokevirtual 17, 3) := by decide +kernel
theorem dX8_tellsHouse_10 : decode cX8_tellsHouse 10 = .ok (.ifCond .ne 5, 3) := by decide +kernel
theorem dX8_tellsHouse_13 : decode cX8_tellsHouse 13 = .ok (.iconst 0, 1) := by decide +kernel
theorem dX8_tellsHouse_14 : decode cX8_tellsHouse 14 = .ok (.ireturn, 1) := by decide +kernel
theorem dX8_tellsHouse_15 : decode cX8_tellsHouse 15 = .ok (.iconst 0, 1) := by decide +kernel
theorem dX8_tellsHouse_16 : decode cX8_tellsHouse 16 = .ok (.istore_n 2, 1) := by decide +kernel
theorem dX8_tellsHouse_17 : decode cX8_tellsHouse 17 = .ok (.iload_n 2, 1) := by decide +kernel
theorem dX8_tellsHouse_18 : decode cX8_tellsHouse 18 = .ok (.bipush 6, 2) := by decide +kernel
theorem dX8_tellsHouse_20 : decode cX8_tellsHouse 20 = .ok (.if_icmp .gt 31, 3) := by decide +kernel
theorem dX8_tellsHouse_23 : decode cX8_tellsHouse 23 = .ok (.aload_n 0, 1) := by decide +kernel
theorem dX8_tellsHouse_24 : decode cX8_tellsHouse 24 = .ok (.getfield 13, 3) := by decide +kernel
theorem dX8_tellsHouse_27 : decode cX8_tellsHouse 27 = .ok (.aload_n 0, 1) := by decide +kernel
theorem dX8_tellsHouse_28 : decode cX8_tellsHouse 28 = .ok (.getfield 23, 3) := by decide +kernel
theorem dX8_tellsHouse_31 : decode cX8_tellsHouse 31 = .ok (.if_icmp .ge 20, 3) := by decide +kernel
theorem dX8_tellsHouse_34 : decode cX8_tellsHouse 34 = .ok (.aload_n 0, 1) := by decide +kernel
theorem dX8_tellsHouse_35 : decode cX8_tellsHouse 35 = .ok (.aload_n 1, 1) := by decide +kernel
theorem dX8_tellsHouse_36 : decode cX8_tellsHouse 36 = .ok (.iload_n 2, 1) := by decide +kernel
theorem dX8_tellsHouse_37 : decode cX8_tellsHouse 37 = .ok (.invokevirtual 26, 3) := by decide +kernel
theorem dX8_tellsHouse_40 : decode cX8_tellsHouse 40 = .ok (.ifCond .ne 5, 3) := by decide +kernel
theorem dX8_tellsHouse_43 : decode cX8_tellsHouse 43 = .ok (.iconst 0, 1) := by decide +kernel
theorem dX8_tellsHouse_44 : decode cX8_tellsHouse 44 = .ok (.ireturn, 1) := by decide +kernel
theorem dX8_tellsHouse_45 : decode cX8_tellsHouse 45 = .ok (.iinc 2 1, 3) := by decide +kernel
theorem dX8_tellsHouse_48 : decode cX8_tellsHouse 48 = .ok (.goto (-31), 3) := by decide +kernel
theorem dX8_tellsHouse_51 : decode cX8_tellsHouse 51 = .ok (.iconst 1, 1) := by decide +kernel
theorem dX8_tellsHouse_52 : decode cX8_tellsHouse 52 = .ok (.ireturn, 1) := by decide +kernel
theorem dX8_tellsLaw_0 : decode cX8_tellsLaw 0 = .ok (.aload_n 0, 1) := by decide +kernel
theorem dX8_tellsLaw_1 : decode cX8_tellsLaw 1 = .ok (.bipush 102, 2) := by decide +kernel
theorem dX8_tellsLaw_3 : decode cX8_tellsLaw 3 = .ok (.invokevirtual 30, 3) := by decide +kernel
theorem dX8_tellsLaw_6 : decode cX8_tellsLaw 6 = .ok (.ifCond .eq 13, 3) := by decide +kernel
theorem dX8_tellsLaw_9 : decode cX8_tellsLaw 9 = .ok (.aload_n 0, 1) := by decide +kernel
theorem dX8_tellsLaw_10 : decode cX8_tellsLaw 10 = .ok (.iconst 1, 1) := by decide +kernel
theorem dX8_tellsLaw_11 : decode cX8_tellsLaw 11 = .ok (.bipush 9, 2) := by decide +kernel
theorem dX8_tellsLaw_13 : decode cX8_tellsLaw 13 = .ok (.invokevirtual 34, 3) := by decide +kernel
theorem dX8_tellsLaw_16 : decode cX8_tellsLaw 16 = .ok (.ifCond .ne 5, 3) := by decide +kernel
theorem dX8_tellsLaw_19 : decode cX8_tellsLaw 19 = .ok (.iconst 0, 1) := by decide +kernel
theorem dX8_tellsLaw_20 : decode cX8_tellsLaw 20 = .ok (.ireturn, 1) := by decide +kernel
theorem dX8_tellsLaw_21 : decode cX8_tellsLaw 21 = .ok (.aload_n 0, 1) := by decide +kernel
theorem dX8_tellsLaw_22 : decode cX8_tellsLaw 22 = .ok (.getfield 38, 3) := by decide +kernel
theorem dX8_tellsLaw_25 : decode cX8_tellsLaw 25 = .ok (.istore_n 2, 1) := by decide +kernel
theorem dX8_tellsLaw_26 : decode cX8_tellsLaw 26 = .ok (.aload_n 0, 1) := by decide +kernel
theorem dX8_tellsLaw_27 : decode cX8_tellsLaw 27 = .ok (.bipush 44, 2) := by decide +kernel
theorem dX8_tellsLaw_29 : decode cX8_tellsLaw 29 = .ok (.invokevirtual 30, 3) := by decide +kernel
theorem dX8_tellsLaw_32 : decode cX8_tellsLaw 32 = .ok (.ifCond .eq 21, 3) := by decide +kernel
theorem dX8_tellsLaw_35 : decode cX8_tellsLaw 35 = .ok (.aload_n 0, 1) := by decide +kernel
theorem dX8_tellsLaw_36 : decode cX8_tellsLaw 36 = .ok (.iconst 0, 1) := by decide +kernel
theorem dX8_tellsLaw_37 : decode cX8_tellsLaw 37 = .ok (.iload_n 2, 1) := by decide +kernel
theorem dX8_tellsLaw_38 : decode cX8_tellsLaw 38 = .ok (.invokevirtual 34, 3) := by decide +kernel
theorem dX8_tellsLaw_41 : decode cX8_tellsLaw 41 = .ok (.ifCond .eq 12, 3) := by decide +kernel
theorem dX8_tellsLaw_44 : decode cX8_tellsLaw 44 = .ok (.aload_n 0, 1) := by decide +kernel
theorem dX8_tellsLaw_45 : decode cX8_tellsLaw 45 = .ok (.bipush 59, 2) := by decide +kernel
theorem dX8_tellsLaw_47 : decode cX8_tellsLaw 47 = .ok (.invokevirtual 30, 3) := by decide +kernel
theorem dX8_tellsLaw_50 : decode cX8_tellsLaw 50 = .ok (.ifCond .ne 5, 3) := by decide +kernel
theorem dX8_tellsLaw_53 : decode cX8_tellsLaw 53 = .ok (.iconst 0, 1) := by decide +kernel
theorem dX8_tellsLaw_54 : decode cX8_tellsLaw 54 = .ok (.ireturn, 1) := by decide +kernel
theorem dX8_tellsLaw_55 : decode cX8_tellsLaw 55 = .ok (.aload_n 1, 1) := by decide +kernel
theorem dX8_tellsLaw_56 : decode cX8_tellsLaw 56 = .ok (.iload_n 2, 1) := by decide +kernel
theorem dX8_tellsLaw_57 : decode cX8_tellsLaw 57 = .ok (.aload_n 0, 1) := by decide +kernel
theorem dX8_tellsLaw_58 : decode cX8_tellsLaw 58 = .ok (.getfield 38, 3) := by decide +kernel
theorem dX8_tellsLaw_61 : decode cX8_tellsLaw 61 = .ok (.invokevirtual 41, 3) := by decide +kernel
theorem dX8_tellsLaw_64 : decode cX8_tellsLaw 64 = .ok (.iconst 1, 1) := by decide +kernel
theorem dX8_tellsLaw_65 : decode cX8_tellsLaw 65 = .ok (.ireturn, 1) := by decide +kernel
theorem dX8_tellsPerson_0 : decode cX8_tellsPerson 0 = .ok (.aload_n 0, 1) := by decide +kernel
theorem dX8_tellsPerson_1 : decode cX8_tellsPerson 1 = .ok (.invokevirtual 45, 3) := by decide +kernel
theorem dX8_tellsPerson_4 : decode cX8_tellsPerson 4 = .ok (.istore_n 3, 1) := by decide +kernel
theorem dX8_tellsPerson_5 : decode cX8_tellsPerson 5 = .ok (.iload_n 3, 1) := by decide +kernel
theorem dX8_tellsPerson_6 : decode cX8_tellsPerson 6 = .ok (.ifCond .ne 9, 3) := by decide +kernel
theorem dX8_tellsPerson_9 : decode cX8_tellsPerson 9 = .ok (.aload_n 0, 1) := by decide +kernel
theorem dX8_tellsPerson_10 : decode cX8_tellsPerson 10 = .ok (.iconst 1, 1) := by decide +kernel
theorem dX8_tellsPerson_11 : decode cX8_tellsPerson 11 = .ok (.invokevirtual 49, 3) := by decide +kernel
theorem dX8_tellsPerson_14 : decode cX8_tellsPerson 14 = .ok (.ireturn, 1) := by decide +kernel
theorem dX8_tellsPerson_15 : decode cX8_tellsPerson 15 = .ok (.iload_n 2, 1) := by decide +kernel
theorem dX8_tellsPerson_16 : decode cX8_tellsPerson 16 = .ok (.bipush 6, 2) := by decide +kernel
theorem dX8_tellsPerson_18 : decode cX8_tellsPerson 18 = .ok (.if_icmp .lt 9, 3) := by decide +kernel
theorem dX8_tellsPerson_21 : decode cX8_tellsPerson 21 = .ok (.aload_n 0, 1) := by decide +kernel
theorem dX8_tellsPerson_22 : decode cX8_tellsPerson 22 = .ok (.iconst 3, 1) := by decide +kernel
theorem dX8_tellsPerson_23 : decode cX8_tellsPerson 23 = .ok (.invokevirtual 49, 3) := by decide +kernel
theorem dX8_tellsPerson_26 : decode cX8_tellsPerson 26 = .ok (.ireturn, 1) := by decide +kernel
theorem dX8_tellsPerson_27 : decode cX8_tellsPerson 27 = .ok (.aload_n 0, 1) := by decide +kernel
theorem dX8_tellsPerson_28 : decode cX8_tellsPerson 28 = .ok (.dup, 1) := by decide +kernel
theorem dX8_tellsPerson_29 : decode cX8_tellsPerson 29 = .ok (.getfield 13, 3) := by decide +kernel
theorem dX8_tellsPerson_32 : decode cX8_tellsPerson 32 = .ok (.iconst 1, 1) := by decide +kernel
theorem dX8_tellsPerson_33 : decode cX8_tellsPerson 33 = .ok (.iadd, 1) := by decide +kernel
theorem dX8_tellsPerson_34 : decode cX8_tellsPerson 34 = .ok (.putfield 13, 3) := by decide +kernel
theorem dX8_tellsPerson_37 : decode cX8_tellsPerson 37 = .ok (.aload_n 0, 1) := by decide +kernel
theorem dX8_tellsPerson_38 : decode cX8_tellsPerson 38 = .ok (.iconst 0, 1) := by decide +kernel
theorem dX8_tellsPerson_39 : decode cX8_tellsPerson 39 = .ok (.aload_n 1, 1) := by decide +kernel
theorem dX8_tellsPerson_40 : decode cX8_tellsPerson 40 = .ok (.getfield 53, 3) := by decide +kernel
theorem dX8_tellsPerson_43 : decode cX8_tellsPerson 43 = .ok (.invokevirtual 34, 3) := by decide +kernel
theorem dX8_tellsPerson_46 : decode cX8_tellsPerson 46 = .ok (.ifCond .ne 5, 3) := by decide +kernel
theorem dX8_tellsPerson_49 : decode cX8_tellsPerson 49 = .ok (.iconst 0, 1) := by decide +kernel
theorem dX8_tellsPerson_50 : decode cX8_tellsPerson 50 = .ok (.ireturn, 1) := by decide +kernel
theorem dX8_tellsPerson_51 : decode cX8_tellsPerson 51 = .ok (.aload_n 1, 1) := by decide +kernel
theorem dX8_tellsPerson_52 : decode cX8_tellsPerson 52 = .ok (.getfield 56, 3) := by decide +kernel
theorem dX8_tellsPerson_55 : decode cX8_tellsPerson 55 = .ok (.iload_n 2, 1) := by decide +kernel
theorem dX8_tellsPerson_56 : decode cX8_tellsPerson 56 = .ok (.aload_n 0, 1) := by decide +kernel
theorem dX8_tellsPerson_57 : decode cX8_tellsPerson 57 = .ok (.getfield 38, 3) := by decide +kernel
theorem dX8_tellsPerson_60 : decode cX8_tellsPerson 60 = .ok (.iastore, 1) := by decide +kernel
theorem dX8_tellsPerson_61 : decode cX8_tellsPerson 61 = .ok (.aload_n 0, 1) := by decide +kernel
theorem dX8_tellsPerson_62 : decode cX8_tellsPerson 62 = .ok (.bipush 44, 2) := by decide +kernel
theorem dX8_tellsPerson_64 : decode cX8_tellsPerson 64 = .ok (.invokevirtual 30, 3) := by decide +kernel
theorem dX8_tellsPerson_67 : decode cX8_tellsPerson 67 = .ok (.ifCond .eq 15, 3) := by decide +kernel
theorem dX8_tellsPerson_70 : decode cX8_tellsPerson 70 = .ok (.aload_n 0, 1) := by decide +kernel
theorem dX8_tellsPerson_71 : decode cX8_tellsPerson 71 = .ok (.iconst 0, 1) := by decide +kernel
theorem dX8_tellsPerson_72 : decode cX8_tellsPerson 72 = .ok (.aload_n 1, 1) := by decide +kernel
theorem dX8_tellsPerson_73 : decode cX8_tellsPerson 73 = .ok (.getfield 53, 3) := by decide +kernel
theorem dX8_tellsPerson_76 : decode cX8_tellsPerson 76 = .ok (.invokevirtual 34, 3) := by decide +kernel
theorem dX8_tellsPerson_79 : decode cX8_tellsPerson 79 = .ok (.ifCond .ne 5, 3) := by decide +kernel
theorem dX8_tellsPerson_82 : decode cX8_tellsPerson 82 = .ok (.iconst 0, 1) := by decide +kernel
theorem dX8_tellsPerson_83 : decode cX8_tellsPerson 83 = .ok (.ireturn, 1) := by decide +kernel
theorem dX8_tellsPerson_84 : decode cX8_tellsPerson 84 = .ok (.aload_n 1, 1) := by decide +kernel
theorem dX8_tellsPerson_85 : decode cX8_tellsPerson 85 = .ok (.getfield 59, 3) := by decide +kernel
theorem dX8_tellsPerson_88 : decode cX8_tellsPerson 88 = .ok (.iload_n 2, 1) := by decide +kernel
theorem dX8_tellsPerson_89 : decode cX8_tellsPerson 89 = .ok (.aload_n 0, 1) := by decide +kernel
theorem dX8_tellsPerson_90 : decode cX8_tellsPerson 90 = .ok (.getfield 38, 3) := by decide +kernel
theorem dX8_tellsPerson_93 : decode cX8_tellsPerson 93 = .ok (.iastore, 1) := by decide +kernel
theorem dX8_tellsPerson_94 : decode cX8_tellsPerson 94 = .ok (.aload_n 0, 1) := by decide +kernel
theorem dX8_tellsPerson_95 : decode cX8_tellsPerson 95 = .ok (.bipush 44, 2) := by decide +kernel
theorem dX8_tellsPerson_97 : decode cX8_tellsPerson 97 = .ok (.invokevirtual 30, 3) := by decide +kernel
theorem dX8_tellsPerson_100 : decode cX8_tellsPerson 100 = .ok (.ifCond .eq 13, 3) := by decide +kernel
theorem dX8_tellsPerson_103 : decode cX8_tellsPerson 103 = .ok (.aload_n 0, 1) := by decide +kernel
theorem dX8_tellsPerson_104 : decode cX8_tellsPerson 104 = .ok (.iconst 0, 1) := by decide +kernel
theorem dX8_tellsPerson_105 : decode cX8_tellsPerson 105 = .ok (.bipush 9, 2) := by decide +kernel
theorem dX8_tellsPerson_107 : decode cX8_tellsPerson 107 = .ok (.invokevirtual 34, 3) := by decide +kernel
theorem dX8_tellsPerson_110 : decode cX8_tellsPerson 110 = .ok (.ifCond .ne 5, 3) := by decide +kernel
theorem dX8_tellsPerson_113 : decode cX8_tellsPerson 113 = .ok (.iconst 0, 1) := by decide +kernel
theorem dX8_tellsPerson_114 : decode cX8_tellsPerson 114 = .ok (.ireturn, 1) := by decide +kernel
theorem dX8_tellsPerson_115 : decode cX8_tellsPerson 115 = .ok (.aload_n 1, 1) := by decide +kernel
theorem dX8_tellsPerson_116 : decode cX8_tellsPerson 116 = .ok (.getfield 62, 3) := by decide +kernel
theorem dX8_tellsPerson_119 : decode cX8_tellsPerson 119 = .ok (.iload_n 2, 1) := by decide +kernel
theorem dX8_tellsPerson_120 : decode cX8_tellsPerson 120 = .ok (.aload_n 0, 1) := by decide +kernel
theorem dX8_tellsPerson_121 : decode cX8_tellsPerson 121 = .ok (.getfield 38, 3) := by decide +kernel
theorem dX8_tellsPerson_124 : decode cX8_tellsPerson 124 = .ok (.iastore, 1) := by decide +kernel
theorem dX8_tellsPerson_125 : decode cX8_tellsPerson 125 = .ok (.aload_n 0, 1) := by decide +kernel
theorem dX8_tellsPerson_126 : decode cX8_tellsPerson 126 = .ok (.bipush 44, 2) := by decide +kernel
theorem dX8_tellsPerson_128 : decode cX8_tellsPerson 128 = .ok (.invokevirtual 30, 3) := by decide +kernel
theorem dX8_tellsPerson_131 : decode cX8_tellsPerson 131 = .ok (.ifCond .eq 22, 3) := by decide +kernel
theorem dX8_tellsPerson_134 : decode cX8_tellsPerson 134 = .ok (.aload_n 0, 1) := by decide +kernel
theorem dX8_tellsPerson_135 : decode cX8_tellsPerson 135 = .ok (.iconst 0, 1) := by decide +kernel
theorem dX8_tellsPerson_136 : decode cX8_tellsPerson 136 = .ok (.bipush 9, 2) := by decide +kernel
theorem dX8_tellsPerson_138 : decode cX8_tellsPerson 138 = .ok (.invokevirtual 34, 3) := by decide +kernel
theorem dX8_tellsPerson_141 : decode cX8_tellsPerson 141 = .ok (.ifCond .eq 12, 3) := by decide +kernel
theorem dX8_tellsPerson_144 : decode cX8_tellsPerson 144 = .ok (.aload_n 0, 1) := by decide +kernel
theorem dX8_tellsPerson_145 : decode cX8_tellsPerson 145 = .ok (.bipush 59, 2) := by decide +kernel
theorem dX8_tellsPerson_147 : decode cX8_tellsPerson 147 = .ok (.invokevirtual 30, 3) := by decide +kernel
theorem dX8_tellsPerson_150 : decode cX8_tellsPerson 150 = .ok (.ifCond .ne 5, 3) := by decide +kernel
theorem dX8_tellsPerson_153 : decode cX8_tellsPerson 153 = .ok (.iconst 0, 1) := by decide +kernel
theorem dX8_tellsPerson_154 : decode cX8_tellsPerson 154 = .ok (.ireturn, 1) := by decide +kernel
theorem dX8_tellsPerson_155 : decode cX8_tellsPerson 155 = .ok (.aload_n 1, 1) := by decide +kernel
theorem dX8_tellsPerson_156 : decode cX8_tellsPerson 156 = .ok (.getfield 65, 3) := by decide +kernel
theorem dX8_tellsPerson_159 : decode cX8_tellsPerson 159 = .ok (.iload_n 2, 1) := by decide +kernel
theorem dX8_tellsPerson_160 : decode cX8_tellsPerson 160 = .ok (.aload_n 0, 1) := by decide +kernel
theorem dX8_tellsPerson_161 : decode cX8_tellsPerson 161 = .ok (.getfield 38, 3) := by decide +kernel
theorem dX8_tellsPerson_164 : decode cX8_tellsPerson 164 = .ok (.iastore, 1) := by decide +kernel
theorem dX8_tellsPerson_165 : decode cX8_tellsPerson 165 = .ok (.aload_n 1, 1) := by decide +kernel
theorem dX8_tellsPerson_166 : decode cX8_tellsPerson 166 = .ok (.getfield 68, 3) := by decide +kernel
theorem dX8_tellsPerson_169 : decode cX8_tellsPerson 169 = .ok (.iload_n 2, 1) := by decide +kernel
theorem dX8_tellsPerson_170 : decode cX8_tellsPerson 170 = .ok (.iload_n 3, 1) := by decide +kernel
theorem dX8_tellsPerson_171 : decode cX8_tellsPerson 171 = .ok (.iastore, 1) := by decide +kernel
theorem dX8_tellsPerson_172 : decode cX8_tellsPerson 172 = .ok (.aload_n 1, 1) := by decide +kernel
theorem dX8_tellsPerson_173 : decode cX8_tellsPerson 173 = .ok (.iload_n 2, 1) := by decide +kernel
theorem dX8_tellsPerson_174 : decode cX8_tellsPerson 174 = .ok (.iconst 1, 1) := by decide +kernel
theorem dX8_tellsPerson_175 : decode cX8_tellsPerson 175 = .ok (.iadd, 1) := by decide +kernel
theorem dX8_tellsPerson_176 : decode cX8_tellsPerson 176 = .ok (.putfield 71, 3) := by decide +kernel
theorem dX8_tellsPerson_179 : decode cX8_tellsPerson 179 = .ok (.iconst 1, 1) := by decide +kernel
theorem dX8_tellsPerson_180 : decode cX8_tellsPerson 180 = .ok (.ireturn, 1) := by decide +kernel
theorem dX8_sort_0 : decode cX8_sort 0 = .ok (.aload_n 0, 1) := by decide +kernel
theorem dX8_sort_1 : decode cX8_sort 1 = .ok (.getfield 13, 3) := by decide +kernel
theorem dX8_sort_4 : decode cX8_sort 4 = .ok (.aload_n 0, 1) := by decide +kernel
theorem dX8_sort_5 : decode cX8_sort 5 = .ok (.getfield 23, 3) := by decide +kernel
theorem dX8_sort_8 : decode cX8_sort 8 = .ok (.if_icmp .ge 15, 3) := by decide +kernel
theorem dX8_sort_11 : decode cX8_sort 11 = .ok (.aload_n 0, 1) := by decide +kernel
theorem dX8_sort_12 : decode cX8_sort 12 = .ok (.getfield 9, 3) := by decide +kernel
theorem dX8_sort_15 : decode cX8_sort 15 = .ok (.aload_n 0, 1) := by decide +kernel
theorem dX8_sort_16 : decode cX8_sort 16 = .ok (.getfield 13, 3) := by decide +kernel
theorem dX8_sort_19 : decode cX8_sort 19 = .ok (.iaload, 1) := by decide +kernel
theorem dX8_sort_20 : decode cX8_sort 20 = .ok (.goto 4, 3) := by decide +kernel
theorem dX8_sort_23 : decode cX8_sort 23 = .ok (.iconst 0, 1) := by decide +kernel
theorem dX8_sort_24 : decode cX8_sort 24 = .ok (.lookupswitch 62 #[(99, 52), (101, 60), (104, 58), (109, 56), (118, 54)], 52) := by decide +kernel
theorem dX8_sort_76 : decode cX8_sort 76 = .ok (.iconst 1, 1) := by decide +kernel
theorem dX8_sort_77 : decode cX8_sort 77 = .ok (.ireturn, 1) := by decide +kernel
theorem dX8_sort_78 : decode cX8_sort 78 = .ok (.iconst 2, 1) := by decide +kernel
theorem dX8_sort_79 : decode cX8_sort 79 = .ok (.ireturn, 1) := by decide +kernel
theorem dX8_sort_80 : decode cX8_sort 80 = .ok (.iconst 3, 1) := by decide +kernel
theorem dX8_sort_81 : decode cX8_sort 81 = .ok (.ireturn, 1) := by decide +kernel
theorem dX8_sort_82 : decode cX8_sort 82 = .ok (.iconst 4, 1) := by decide +kernel
theorem dX8_sort_83 : decode cX8_sort 83 = .ok (.ireturn, 1) := by decide +kernel
theorem dX8_sort_84 : decode cX8_sort 84 = .ok (.iconst 5, 1) := by decide +kernel
theorem dX8_sort_85 : decode cX8_sort 85 = .ok (.ireturn, 1) := by decide +kernel
theorem dX8_sort_86 : decode cX8_sort 86 = .ok (.iconst 0, 1) := by decide +kernel
theorem dX8_sort_87 : decode cX8_sort 87 = .ok (.ireturn, 1) := by decide +kernel
theorem dX8_takesSign_0 : decode cX8_takesSign 0 = .ok (.aload_n 0, 1) := by decide +kernel
theorem dX8_takesSign_1 : decode cX8_takesSign 1 = .ok (.getfield 13, 3) := by decide +kernel
theorem dX8_takesSign_4 : decode cX8_takesSign 4 = .ok (.aload_n 0, 1) := by decide +kernel
theorem dX8_takesSign_5 : decode cX8_takesSign 5 = .ok (.getfield 23, 3) := by decide +kernel
theorem dX8_takesSign_8 : decode cX8_takesSign 8 = .ok (.if_icmp .ge 16, 3) := by decide +kernel
theorem dX8_takesSign_11 : decode cX8_takesSign 11 = .ok (.aload_n 0, 1) := by decide +kernel
theorem dX8_takesSign_12 : decode cX8_takesSign 12 = .ok (.getfield 9, 3) := by decide +kernel
theorem dX8_takesSign_15 : decode cX8_takesSign 15 = .ok (.aload_n 0, 1) := by decide +kernel
theorem dX8_takesSign_16 : decode cX8_takesSign 16 = .ok (.getfield 13, 3) := by decide +kernel
theorem dX8_takesSign_19 : decode cX8_takesSign 19 = .ok (.iaload, 1) := by decide +kernel
theorem dX8_takesSign_20 : decode cX8_takesSign 20 = .ok (.iload_n 1, 1) := by decide +kernel
theorem dX8_takesSign_21 : decode cX8_takesSign 21 = .ok (.if_icmp .eq 9, 3) := by decide +kernel
theorem dX8_takesSign_24 : decode cX8_takesSign 24 = .ok (.aload_n 0, 1) := by decide +kernel
theorem dX8_takesSign_25 : decode cX8_takesSign 25 = .ok (.iconst 1, 1) := by decide +kernel
theorem dX8_takesSign_26 : decode cX8_takesSign 26 = .ok (.invokevirtual 49, 3) := by decide +kernel
theorem dX8_takesSign_29 : decode cX8_takesSign 29 = .ok (.ireturn, 1) := by decide +kernel
theorem dX8_takesSign_30 : decode cX8_takesSign 30 = .ok (.aload_n 0, 1) := by decide +kernel
theorem dX8_takesSign_31 : decode cX8_takesSign 31 = .ok (.dup, 1) := by decide +kernel
theorem dX8_takesSign_32 : decode cX8_takesSign 32 = .ok (.getfield 13, 3) := by decide +kernel
theorem dX8_takesSign_35 : decode cX8_takesSign 35 = .ok (.iconst 1, 1) := by decide +kernel
theorem dX8_takesSign_36 : decode cX8_takesSign 36 = .ok (.iadd, 1) := by decide +kernel
theorem dX8_takesSign_37 : decode cX8_takesSign 37 = .ok (.putfield 13, 3) := by decide +kernel
theorem dX8_takesSign_40 : decode cX8_takesSign 40 = .ok (.iconst 1, 1) := by decide +kernel
theorem dX8_takesSign_41 : decode cX8_takesSign 41 = .ok (.ireturn, 1) := by decide +kernel
theorem dX8_takesNumber_0 : decode cX8_takesNumber 0 = .ok (.aload_n 0, 1) := by decide +kernel
theorem dX8_takesNumber_1 : decode cX8_takesNumber 1 = .ok (.getfield 13, 3) := by decide +kernel
theorem dX8_takesNumber_4 : decode cX8_takesNumber 4 = .ok (.istore_n 3, 1) := by decide +kernel
theorem dX8_takesNumber_5 : decode cX8_takesNumber 5 = .ok (.iconst 0, 1) := by decide +kernel
theorem dX8_takesNumber_6 : decode cX8_takesNumber 6 = .ok (.istore 4, 2) := by decide +kernel
theorem dX8_takesNumber_8 : decode cX8_takesNumber 8 = .ok (.iconst 0, 1) := by decide +kernel
theorem dX8_takesNumber_9 : decode cX8_takesNumber 9 = .ok (.istore 5, 2) := by decide +kernel
theorem dX8_takesNumber_11 : decode cX8_takesNumber 11 = .ok (.iload 5, 2) := by decide +kernel
theorem dX8_takesNumber_13 : decode cX8_takesNumber 13 = .ok (.iconst 3, 1) := by decide +kernel
theorem dX8_takesNumber_14 : decode cX8_takesNumber 14 = .ok (.if_icmp .ge 49, 3) := by decide +kernel
theorem dX8_takesNumber_17 : decode cX8_takesNumber 17 = .ok (.iload_n 3, 1) := by decide +kernel
theorem dX8_takesNumber_18 : decode cX8_takesNumber 18 = .ok (.aload_n 0, 1) := by decide +kernel
theorem dX8_takesNumber_19 : decode cX8_takesNumber 19 = .ok (.getfield 23, 3) := by decide +kernel
theorem dX8_takesNumber_22 : decode cX8_takesNumber 22 = .ok (.if_icmp .ge 41, 3) := by decide +kernel
theorem dX8_takesNumber_25 : decode cX8_takesNumber 25 = .ok (.aload_n 0, 1) := by decide +kernel
theorem dX8_takesNumber_26 : decode cX8_takesNumber 26 = .ok (.getfield 9, 3) := by decide +kernel
theorem dX8_takesNumber_29 : decode cX8_takesNumber 29 = .ok (.iload_n 3, 1) := by decide +kernel
theorem dX8_takesNumber_30 : decode cX8_takesNumber 30 = .ok (.iaload, 1) := by decide +kernel
theorem dX8_takesNumber_31 : decode cX8_takesNumber 31 = .ok (.invokestatic 74, 3) := by decide +kernel
theorem dX8_takesNumber_34 : decode cX8_takesNumber 34 = .ok (.ifCond .eq 29, 3) := by decide +kernel
theorem dX8_takesNumber_37 : decode cX8_takesNumber 37 = .ok (.iload 4, 2) := by decide +kernel
theorem dX8_takesNumber_39 : decode cX8_takesNumber 39 = .ok (.bipush 10, 2) := by decide +kernel
theorem dX8_takesNumber_41 : decode cX8_takesNumber 41 = .ok (.imul, 1) := by decide +kernel
theorem dX8_takesNumber_42 : decode cX8_takesNumber 42 = .ok (.aload_n 0, 1) := by decide +kernel
theorem dX8_takesNumber_43 : decode cX8_takesNumber 43 = .ok (.getfield 9, 3) := by decide +kernel
theorem dX8_takesNumber_46 : decode cX8_takesNumber 46 = .ok (.iload_n 3, 1) := by decide +kernel
theorem dX8_takesNumber_47 : decode cX8_takesNumber 47 = .ok (.iaload, 1) := by decide +kernel
theorem dX8_takesNumber_48 : decode cX8_takesNumber 48 = .ok (.iadd, 1) := by decide +kernel
theorem dX8_takesNumber_49 : decode cX8_takesNumber 49 = .ok (.bipush 48, 2) := by decide +kernel
theorem dX8_takesNumber_51 : decode cX8_takesNumber 51 = .ok (.isub, 1) := by decide +kernel
theorem dX8_takesNumber_52 : decode cX8_takesNumber 52 = .ok (.istore 4, 2) := by decide +kernel
theorem dX8_takesNumber_54 : decode cX8_takesNumber 54 = .ok (.iinc 3 1, 3) := by decide +kernel
theorem dX8_takesNumber_57 : decode cX8_takesNumber 57 = .ok (.iinc 5 1, 3) := by decide +kernel
theorem dX8_takesNumber_60 : decode cX8_takesNumber 60 = .ok (.goto (-49), 3) := by decide +kernel
theorem dX8_takesNumber_63 : decode cX8_takesNumber 63 = .ok (.iload_n 3, 1) := by decide +kernel
theorem dX8_takesNumber_64 : decode cX8_takesNumber 64 = .ok (.aload_n 0, 1) := by decide +kernel
theorem dX8_takesNumber_65 : decode cX8_takesNumber 65 = .ok (.getfield 13, 3) := by decide +kernel
theorem dX8_takesNumber_68 : decode cX8_takesNumber 68 = .ok (.if_icmp .eq 13, 3) := by decide +kernel
theorem dX8_takesNumber_71 : decode cX8_takesNumber 71 = .ok (.iload_n 3, 1) := by decide +kernel
theorem dX8_takesNumber_72 : decode cX8_takesNumber 72 = .ok (.aload_n 0, 1) := by decide +kernel
theorem dX8_takesNumber_73 : decode cX8_takesNumber 73 = .ok (.getfield 13, 3) := by decide +kernel
theorem dX8_takesNumber_76 : decode cX8_takesNumber 76 = .ok (.isub, 1) := by decide +kernel
theorem dX8_takesNumber_77 : decode cX8_takesNumber 77 = .ok (.iconst 2, 1) := by decide +kernel
theorem dX8_takesNumber_78 : decode cX8_takesNumber 78 = .ok (.if_icmp .le 9, 3) := by decide +kernel
theorem dX8_takesNumber_81 : decode cX8_takesNumber 81 = .ok (.aload_n 0, 1) := by decide +kernel
theorem dX8_takesNumber_82 : decode cX8_takesNumber 82 = .ok (.iconst 1, 1) := by decide +kernel
theorem dX8_takesNumber_83 : decode cX8_takesNumber 83 = .ok (.invokevirtual 49, 3) := by decide +kernel
theorem dX8_takesNumber_86 : decode cX8_takesNumber 86 = .ok (.ireturn, 1) := by decide +kernel
theorem dX8_takesNumber_87 : decode cX8_takesNumber 87 = .ok (.iload 4, 2) := by decide +kernel
theorem dX8_takesNumber_89 : decode cX8_takesNumber 89 = .ok (.iload_n 1, 1) := by decide +kernel
theorem dX8_takesNumber_90 : decode cX8_takesNumber 90 = .ok (.if_icmp .lt 9, 3) := by decide +kernel
theorem dX8_takesNumber_93 : decode cX8_takesNumber 93 = .ok (.iload 4, 2) := by decide +kernel
theorem dX8_takesNumber_95 : decode cX8_takesNumber 95 = .ok (.iload_n 2, 1) := by decide +kernel
theorem dX8_takesNumber_96 : decode cX8_takesNumber 96 = .ok (.if_icmp .le 9, 3) := by decide +kernel
theorem dX8_takesNumber_99 : decode cX8_takesNumber 99 = .ok (.aload_n 0, 1) := by decide +kernel
theorem dX8_takesNumber_100 : decode cX8_takesNumber 100 = .ok (.iconst 2, 1) := by decide +kernel
theorem dX8_takesNumber_101 : decode cX8_takesNumber 101 = .ok (.invokevirtual 49, 3) := by decide +kernel
theorem dX8_takesNumber_104 : decode cX8_takesNumber 104 = .ok (.ireturn, 1) := by decide +kernel
theorem dX8_takesNumber_105 : decode cX8_takesNumber 105 = .ok (.aload_n 0, 1) := by decide +kernel
theorem dX8_takesNumber_106 : decode cX8_takesNumber 106 = .ok (.iload_n 3, 1) := by decide +kernel
theorem dX8_takesNumber_107 : decode cX8_takesNumber 107 = .ok (.putfield 13, 3) := by decide +kernel
theorem dX8_takesNumber_110 : decode cX8_takesNumber 110 = .ok (.aload_n 0, 1) := by decide +kernel
theorem dX8_takesNumber_111 : decode cX8_takesNumber 111 = .ok (.iload 4, 2) := by decide +kernel
theorem dX8_takesNumber_113 : decode cX8_takesNumber 113 = .ok (.putfield 38, 3) := by decide +kernel
theorem dX8_takesNumber_116 : decode cX8_takesNumber 116 = .ok (.iconst 1, 1) := by decide +kernel
theorem dX8_takesNumber_117 : decode cX8_takesNumber 117 = .ok (.ireturn, 1) := by decide +kernel
theorem dX8_isFigure_0 : decode cX8_isFigure 0 = .ok (.iload_n 0, 1) := by decide +kernel
theorem dX8_isFigure_1 : decode cX8_isFigure 1 = .ok (.bipush 48, 2) := by decide +kernel
theorem dX8_isFigure_3 : decode cX8_isFigure 3 = .ok (.if_icmp .lt 13, 3) := by decide +kernel
theorem dX8_isFigure_6 : decode cX8_isFigure 6 = .ok (.iload_n 0, 1) := by decide +kernel
theorem dX8_isFigure_7 : decode cX8_isFigure 7 = .ok (.bipush 57, 2) := by decide +kernel
theorem dX8_isFigure_9 : decode cX8_isFigure 9 = .ok (.if_icmp .gt 7, 3) := by decide +kernel
theorem dX8_isFigure_12 : decode cX8_isFigure 12 = .ok (.iconst 1, 1) := by decide +kernel
theorem dX8_isFigure_13 : decode cX8_isFigure 13 = .ok (.goto 4, 3) := by decide +kernel
theorem dX8_isFigure_16 : decode cX8_isFigure 16 = .ok (.iconst 0, 1) := by decide +kernel
theorem dX8_isFigure_17 : decode cX8_isFigure 17 = .ok (.ireturn, 1) := by decide +kernel
theorem dX8_refuses_0 : decode cX8_refuses 0 = .ok (.aload_n 0, 1) := by decide +kernel
theorem dX8_refuses_1 : decode cX8_refuses 1 = .ok (.iload_n 1, 1) := by decide +kernel
theorem dX8_refuses_2 : decode cX8_refuses 2 = .ok (.putfield 77, 3) := by decide +kernel
theorem dX8_refuses_5 : decode cX8_refuses 5 = .ok (.iconst 0, 1) := by decide +kernel
theorem dX8_refuses_6 : decode cX8_refuses 6 = .ok (.ireturn, 1) := by decide +kernel
theorem dX9_init_0 : decode cX9_init 0 = .ok (.aload_n 0, 1) := by decide +kernel
theorem dX9_init_1 : decode cX9_init 1 = .ok (.invokespecial 1, 3) := by decide +kernel
theorem dX9_init_4 : decode cX9_init 4 = .ok (.aload_n 0, 1) := by decide +kernel
theorem dX9_init_5 : decode cX9_init 5 = .ok (.bipush 16, 2) := by decide +kernel
theorem dX9_init_7 : decode cX9_init 7 = .ok (.newarray .int, 2) := by decide +kernel
theorem dX9_init_9 : decode cX9_init 9 = .ok (.putfield 9, 3) := by decide +kernel
theorem dX9_init_12 : decode cX9_init 12 = .ok (.return_, 1) := by decide +kernel
theorem dX9_leave_0 : decode cX9_leave 0 = .ok (.aload_n 0, 1) := by decide +kernel
theorem dX9_leave_1 : decode cX9_leave 1 = .ok (.getfield 13, 3) := by decide +kernel
theorem dX9_leave_4 : decode cX9_leave 4 = .ok (.bipush 16, 2) := by decide +kernel
theorem dX9_leave_6 : decode cX9_leave 6 = .ok (.if_icmp .ge 23, 3) := by decide +kernel
theorem dX9_leave_9 : decode cX9_leave 9 = .ok (.aload_n 0, 1) := by decide +kernel
theorem dX9_leave_10 : decode cX9_leave 10 = .ok (.getfield 9, 3) := by decide +kernel
theorem dX9_leave_13 : decode cX9_leave 13 = .ok (.aload_n 0, 1) := by decide +kernel
theorem dX9_leave_14 : decode cX9_leave 14 = .ok (.getfield 13, 3) := by decide +kernel
theorem dX9_leave_17 : decode cX9_leave 17 = .ok (.iload_n 1, 1) := by decide +kernel
theorem dX9_leave_18 : decode cX9_leave 18 = .ok (.iastore, 1) := by decide +kernel
theorem dX9_leave_19 : decode cX9_leave 19 = .ok (.aload_n 0, 1) := by decide +kernel
theorem dX9_leave_20 : decode cX9_leave 20 = .ok (.dup, 1) := by decide +kernel
theorem dX9_leave_21 : decode cX9_leave 21 = .ok (.getfield 13, 3) := by decide +kernel
theorem dX9_leave_24 : decode cX9_leave 24 = .ok (.iconst 1, 1) := by decide +kernel
theorem dX9_leave_25 : decode cX9_leave 25 = .ok (.iadd, 1) := by decide +kernel
theorem dX9_leave_26 : decode cX9_leave 26 = .ok (.putfield 13, 3) := by decide +kernel
theorem dX9_leave_29 : decode cX9_leave 29 = .ok (.return_, 1) := by decide +kernel
theorem dX10_init_0 : decode cX10_init 0 = .ok (.aload_n 0, 1) := by decide +kernel
theorem dX10_init_1 : decode cX10_init 1 = .ok (.invokespecial 1, 3) := by decide +kernel
theorem dX10_init_4 : decode cX10_init 4 = .ok (.return_, 1) := by decide +kernel
theorem dX10_size_0 : decode cX10_size 0 = .ok (.aload_n 3, 1) := by decide +kernel
theorem dX10_size_1 : decode cX10_size 1 = .ok (.bipush 12, 2) := by decide +kernel
theorem dX10_size_3 : decode cX10_size 3 = .ok (.invokevirtual 7, 3) := by decide +kernel
theorem dX10_size_6 : decode cX10_size 6 = .ok (.iconst 0, 1) := by decide +kernel
theorem dX10_size_7 : decode cX10_size 7 = .ok (.aload_n 0, 1) := by decide +kernel
theorem dX10_size_8 : decode cX10_size 8 = .ok (.aload_n 1, 1) := by decide +kernel
theorem dX10_size_9 : decode cX10_size 9 = .ok (.iload_n 2, 1) := by decide +kernel
theorem dX10_size_10 : decode cX10_size 10 = .ok (.aload_n 3, 1) := by decide +kernel
theorem dX10_size_11 : decode cX10_size 11 = .ok (.invokespecial 13, 3) := by decide +kernel
theorem dX10_size_14 : decode cX10_size 14 = .ok (.isub, 1) := by decide +kernel
theorem dX10_size_15 : decode cX10_size 15 = .ok (.ireturn, 1) := by decide +kernel
theorem dX10_mark_0 : decode cX10_mark 0 = .ok (.aload_n 3, 1) := by decide +kernel
theorem dX10_mark_1 : decode cX10_mark 1 = .ok (.bipush 24, 2) := by decide +kernel
theorem dX10_mark_3 : decode cX10_mark 3 = .ok (.invokevirtual 7, 3) := by decide +kernel
theorem dX10_mark_6 : decode cX10_mark 6 = .ok (.aload_n 0, 1) := by decide +kernel
theorem dX10_mark_7 : decode cX10_mark 7 = .ok (.aload_n 1, 1) := by decide +kernel
theorem dX10_mark_8 : decode cX10_mark 8 = .ok (.iload_n 2, 1) := by decide +kernel
theorem dX10_mark_9 : decode cX10_mark 9 = .ok (.aload_n 3, 1) := by decide +kernel
theorem dX10_mark_10 : decode cX10_mark 10 = .ok (.invokespecial 17, 3) := by decide +kernel
theorem dX10_mark_13 : decode cX10_mark 13 = .ok (.iconst 2, 1) := by decide +kernel
theorem dX10_mark_14 : decode cX10_mark 14 = .ok (.imul, 1) := by decide +kernel
theorem dX10_mark_15 : decode cX10_mark 15 = .ok (.ireturn, 1) := by decide +kernel
theorem dX11_init_0 : decode cX11_init 0 = .ok (.aload_n 0, 1) := by decide +kernel
theorem dX11_init_1 : decode cX11_init 1 = .ok (.invokespecial 1, 3) := by decide +kernel
theorem dX11_init_4 : decode cX11_init 4 = .ok (.aload_n 0, 1) := by decide +kernel
theorem dX11_init_5 : decode cX11_init 5 = .ok (.bipush 8, 2) := by decide +kernel
theorem dX11_init_7 : decode cX11_init 7 = .ok (.anewarray 9, 3) := by decide +kernel
theorem dX11_init_10 : decode cX11_init 10 = .ok (.putfield 11, 3) := by decide +kernel
theorem dX11_init_13 : decode cX11_init 13 = .ok (.aload_n 0, 1) := by decide +kernel
theorem dX11_init_14 : decode cX11_init 14 = .ok (.new 15, 3) := by decide +kernel
theorem dX11_init_17 : decode cX11_init 17 = .ok (.dup, 1) := by decide +kernel
theorem dX11_init_18 : decode cX11_init 18 = .ok (.invokespecial 17, 3) := by decide +kernel
theorem dX11_init_21 : decode cX11_init 21 = .ok (.putfield 18, 3) := by decide +kernel
theorem dX11_init_24 : decode cX11_init 24 = .ok (.aload_n 0, 1) := by decide +kernel
theorem dX11_init_25 : decode cX11_init 25 = .ok (.new 22, 3) := by decide +kernel
theorem dX11_init_28 : decode cX11_init 28 = .ok (.dup, 1) := by decide +kernel
theorem dX11_init_29 : decode cX11_init 29 = .ok (.invokespecial 24, 3) := by decide +kernel
theorem dX11_init_32 : decode cX11_init 32 = .ok (.putfield 25, 3) := by decide +kernel
theorem dX11_init_35 : decode cX11_init 35 = .ok (.aload_n 0, 1) := by decide +kernel
theorem dX11_init_36 : decode cX11_init 36 = .ok (.new 22, 3) := by decide +kernel
theorem dX11_init_39 : decode cX11_init 39 = .ok (.dup, 1) := by decide +kernel
theorem dX11_init_40 : decode cX11_init 40 = .ok (.invokespecial 24, 3) := by decide +kernel
theorem dX11_init_43 : decode cX11_init 43 = .ok (.putfield 29, 3) := by decide +kernel
theorem dX11_init_46 : decode cX11_init 46 = .ok (.aload_n 0, 1) := by decide +kernel
theorem dX11_init_47 : decode cX11_init 47 = .ok (.iconst 2, 1) := by decide +kernel
theorem dX11_init_48 : decode cX11_init 48 = .ok (.anewarray 22, 3) := by decide +kernel
theorem dX11_init_51 : decode cX11_init 51 = .ok (.putfield 32, 3) := by decide +kernel
theorem dX11_init_54 : decode cX11_init 54 = .ok (.aload_n 0, 1) := by decide +kernel
theorem dX11_init_55 : decode cX11_init 55 = .ok (.iconst 2, 1) := by decide +kernel
theorem dX11_init_56 : decode cX11_init 56 = .ok (.newarray .boolean, 2) := by decide +kernel
theorem dX11_init_58 : decode cX11_init 58 = .ok (.putfield 36, 3) := by decide +kernel
theorem dX11_init_61 : decode cX11_init 61 = .ok (.aload_n 0, 1) := by decide +kernel
theorem dX11_init_62 : decode cX11_init 62 = .ok (.new 40, 3) := by decide +kernel
theorem dX11_init_65 : decode cX11_init 65 = .ok (.dup, 1) := by decide +kernel
theorem dX11_init_66 : decode cX11_init 66 = .ok (.invokespecial 42, 3) := by decide +kernel
theorem dX11_init_69 : decode cX11_init 69 = .ok (.putfield 43, 3) := by decide +kernel
theorem dX11_init_72 : decode cX11_init 72 = .ok (.aload_n 0, 1) := by decide +kernel
theorem dX11_init_73 : decode cX11_init 73 = .ok (.iconst 5, 1) := by decide +kernel
theorem dX11_init_74 : decode cX11_init 74 = .ok (.anewarray 47, 3) := by decide +kernel
theorem dX11_init_77 : decode cX11_init 77 = .ok (.dup, 1) := by decide +kernel
theorem dX11_init_78 : decode cX11_init 78 = .ok (.iconst 0, 1) := by decide +kernel
theorem dX11_init_79 : decode cX11_init 79 = .ok (.new 49, 3) := by decide +kernel
theorem dX11_init_82 : decode cX11_init 82 = .ok (.dup, 1) := by decide +kernel
theorem dX11_init_83 : decode cX11_init 83 = .ok (.invokespecial 51, 3) := by decide +kernel
theorem dX11_init_86 : decode cX11_init 86 = .ok (.aastore, 1) := by decide +kernel
theorem dX11_init_87 : decode cX11_init 87 = .ok (.dup, 1) := by decide +kernel
theorem dX11_init_88 : decode cX11_init 88 = .ok (.iconst 1, 1) := by decide +kernel
theorem dX11_init_89 : decode cX11_init 89 = .ok (.new 52, 3) := by decide +kernel
theorem dX11_init_92 : decode cX11_init 92 = .ok (.dup, 1) := by decide +kernel
theorem dX11_init_93 : decode cX11_init 93 = .ok (.invokespecial 54, 3) := by decide +kernel
theorem dX11_init_96 : decode cX11_init 96 = .ok (.aastore, 1) := by decide +kernel
theorem dX11_init_97 : decode cX11_init 97 = .ok (.dup, 1) := by decide +kernel
theorem dX11_init_98 : decode cX11_init 98 = .ok (.iconst 2, 1) := by decide +kernel
theorem dX11_init_99 : decode cX11_init 99 = .ok (.new 55, 3) := by decide +kernel
theorem dX11_init_102 : decode cX11_init 102 = .ok (.dup, 1) := by decide +kernel
theorem dX11_init_103 : decode cX11_init 103 = .ok (.invokespecial 57, 3) := by decide +kernel
theorem dX11_init_106 : decode cX11_init 106 = .ok (.aastore, 1) := by decide +kernel
theorem dX11_init_107 : decode cX11_init 107 = .ok (.dup, 1) := by decide +kernel
theorem dX11_init_108 : decode cX11_init 108 = .ok (.iconst 3, 1) := by decide +kernel
theorem dX11_init_109 : decode cX11_init 109 = .ok (.new 58, 3) := by decide +kernel
theorem dX11_init_112 : decode cX11_init 112 = .ok (.dup, 1) := by decide +kernel
theorem dX11_init_113 : decode cX11_init 113 = .ok (.invokespecial 60, 3) := by decide +kernel
theorem dX11_init_116 : decode cX11_init 116 = .ok (.aastore, 1) := by decide +kernel
theorem dX11_init_117 : decode cX11_init 117 = .ok (.dup, 1) := by decide +kernel
theorem dX11_init_118 : decode cX11_init 118 = .ok (.iconst 4, 1) := by decide +kernel
theorem dX11_init_119 : decode cX11_init 119 = .ok (.new 61, 3) := by decide +kernel
theorem dX11_init_122 : decode cX11_init 122 = .ok (.dup, 1) := by decide +kernel
theorem dX11_init_123 : decode cX11_init 123 = .ok (.invokespecial 63, 3) := by decide +kernel
theorem dX11_init_126 : decode cX11_init 126 = .ok (.aastore, 1) := by decide +kernel
theorem dX11_init_127 : decode cX11_init 127 = .ok (.putfield 64, 3) := by decide +kernel
theorem dX11_init_130 : decode cX11_init 130 = .ok (.aload_n 0, 1) := by decide +kernel
theorem dX11_init_131 : decode cX11_init 131 = .ok (.new 68, 3) := by decide +kernel
theorem dX11_init_134 : decode cX11_init 134 = .ok (.dup, 1) := by decide +kernel
theorem dX11_init_135 : decode cX11_init 135 = .ok (.invokespecial 70, 3) := by decide +kernel
theorem dX11_init_138 : decode cX11_init 138 = .ok (.putfield 71, 3) := by decide +kernel
theorem dX11_init_141 : decode cX11_init 141 = .ok (.iconst 0, 1) := by decide +kernel
theorem dX11_init_142 : decode cX11_init 142 = .ok (.istore_n 1, 1) := by decide +kernel
theorem dX11_init_143 : decode cX11_init 143 = .ok (.iload_n 1, 1) := by decide +kernel
theorem dX11_init_144 : decode cX11_init 144 = .ok (.bipush 8, 2) := by decide +kernel
theorem dX11_init_146 : decode cX11_init 146 = .ok (.if_icmp .ge 22, 3) := by decide +kernel
theorem dX11_init_149 : decode cX11_init 149 = .ok (.aload_n 0, 1) := by decide +kernel
theorem dX11_init_150 : decode cX11_init 150 = .ok (.getfield 11, 3) := by decide +kernel
theorem dX11_init_153 : decode cX11_init 153 = .ok (.iload_n 1, 1) := by decide +kernel
theorem dX11_init_154 : decode cX11_init 154 = .ok (.new 9, 3) := by decide +kernel
theorem dX11_init_157 : decode cX11_init 157 = .ok (.dup, 1) := by decide +kernel
theorem dX11_init_158 : decode cX11_init 158 = .ok (.invokespecial 75, 3) := by decide +kernel
theorem dX11_init_161 : decode cX11_init 161 = .ok (.aastore, 1) := by decide +kernel
theorem dX11_init_162 : decode cX11_init 162 = .ok (.iinc 1 1, 3) := by decide +kernel
theorem dX11_init_165 : decode cX11_init 165 = .ok (.goto (-22), 3) := by decide +kernel
theorem dX11_init_168 : decode cX11_init 168 = .ok (.iconst 0, 1) := by decide +kernel
theorem dX11_init_169 : decode cX11_init 169 = .ok (.istore_n 1, 1) := by decide +kernel
theorem dX11_init_170 : decode cX11_init 170 = .ok (.iload_n 1, 1) := by decide +kernel
theorem dX11_init_171 : decode cX11_init 171 = .ok (.iconst 2, 1) := by decide +kernel
theorem dX11_init_172 : decode cX11_init 172 = .ok (.if_icmp .ge 22, 3) := by decide +kernel
theorem dX11_init_175 : decode cX11_init 175 = .ok (.aload_n 0, 1) := by decide +kernel
theorem dX11_init_176 : decode cX11_init 176 = .ok (.getfield 32, 3) := by decide +kernel
theorem dX11_init_179 : decode cX11_init 179 = .ok (.iload_n 1, 1) := by decide +kernel
theorem dX11_init_180 : decode cX11_init 180 = .ok (.new 22, 3) := by decide +kernel
theorem dX11_init_183 : decode cX11_init 183 = .ok (.dup, 1) := by decide +kernel
theorem dX11_init_184 : decode cX11_init 184 = .ok (.invokespecial 24, 3) := by decide +kernel
theorem dX11_init_187 : decode cX11_init 187 = .ok (.aastore, 1) := by decide +kernel
theorem dX11_init_188 : decode cX11_init 188 = .ok (.iinc 1 1, 3) := by decide +kernel
theorem dX11_init_191 : decode cX11_init 191 = .ok (.goto (-21), 3) := by decide +kernel
theorem dX11_init_194 : decode cX11_init 194 = .ok (.return_, 1) := by decide +kernel
theorem dX11_row_0 : decode cX11_row 0 = .ok (.iload_n 1, 1) := by decide +kernel
theorem dX11_row_1 : decode cX11_row 1 = .ok (.invokestatic 76, 3) := by decide +kernel
theorem dX11_row_4 : decode cX11_row 4 = .ok (.ifCond .eq 18, 3) := by decide +kernel
theorem dX11_row_7 : decode cX11_row 7 = .ok (.iload_n 2, 1) := by decide +kernel
theorem dX11_row_8 : decode cX11_row 8 = .ok (.iconst 0, 1) := by decide +kernel
theorem dX11_row_9 : decode cX11_row 9 = .ok (.iconst 2, 1) := by decide +kernel
theorem dX11_row_10 : decode cX11_row 10 = .ok (.invokestatic 80, 3) := by decide +kernel
theorem dX11_row_13 : decode cX11_row 13 = .ok (.ifCond .eq 9, 3) := by decide +kernel
theorem dX11_row_16 : decode cX11_row 16 = .ok (.iload_n 3, 1) := by decide +kernel
theorem dX11_row_17 : decode cX11_row 17 = .ok (.bipush 40, 2) := by decide +kernel
theorem dX11_row_19 : decode cX11_row 19 = .ok (.if_icmp .le 6, 3) := by decide +kernel
theorem dX11_row_22 : decode cX11_row 22 = .ok (.ldc 84, 2) := by decide +kernel
theorem dX11_row_24 : decode cX11_row 24 = .ok (.ireturn, 1) := by decide +kernel
theorem dX11_row_25 : decode cX11_row 25 = .ok (.iload_n 3, 1) := by decide +kernel
theorem dX11_row_26 : decode cX11_row 26 = .ok (.ifCond .ge 9, 3) := by decide +kernel
theorem dX11_row_29 : decode cX11_row 29 = .ok (.aload_n 0, 1) := by decide +kernel
theorem dX11_row_30 : decode cX11_row 30 = .ok (.iconst 4, 1) := by decide +kernel
theorem dX11_row_31 : decode cX11_row 31 = .ok (.invokevirtual 85, 3) := by decide +kernel
theorem dX11_row_34 : decode cX11_row 34 = .ok (.ireturn, 1) := by decide +kernel
theorem dX11_row_35 : decode cX11_row 35 = .ok (.aload_n 0, 1) := by decide +kernel
theorem dX11_row_36 : decode cX11_row 36 = .ok (.getfield 11, 3) := by decide +kernel
theorem dX11_row_39 : decode cX11_row 39 = .ok (.iload_n 1, 1) := by decide +kernel
theorem dX11_row_40 : decode cX11_row 40 = .ok (.aaload, 1) := by decide +kernel
theorem dX11_row_41 : decode cX11_row 41 = .ok (.iload_n 2, 1) := by decide +kernel
theorem dX11_row_42 : decode cX11_row 42 = .ok (.iload_n 3, 1) := by decide +kernel
theorem dX11_row_43 : decode cX11_row 43 = .ok (.invokevirtual 89, 3) := by decide +kernel
theorem dX11_row_46 : decode cX11_row 46 = .ok (.aload_n 0, 1) := by decide +kernel
theorem dX11_row_47 : decode cX11_row 47 = .ok (.iload_n 3, 1) := by decide +kernel
theorem dX11_row_48 : decode cX11_row 48 = .ok (.invokevirtual 93, 3) := by decide +kernel
theorem dX11_row_51 : decode cX11_row 51 = .ok (.ireturn, 1) := by decide +kernel
theorem dX11_set_0 : decode cX11_set 0 = .ok (.iload_n 1, 1) := by decide +kernel
theorem dX11_set_1 : decode cX11_set 1 = .ok (.invokestatic 76, 3) := by decide +kernel
theorem dX11_set_4 : decode cX11_set 4 = .ok (.ifCond .ne 6, 3) := by decide +kernel
theorem dX11_set_7 : decode cX11_set 7 = .ok (.ldc 84, 2) := by decide +kernel
theorem dX11_set_9 : decode cX11_set 9 = .ok (.ireturn, 1) := by decide +kernel
theorem dX11_set_10 : decode cX11_set 10 = .ok (.aload_n 0, 1) := by decide +kernel
theorem dX11_set_11 : decode cX11_set 11 = .ok (.getfield 11, 3) := by decide +kernel
theorem dX11_set_14 : decode cX11_set 14 = .ok (.iload_n 1, 1) := by decide +kernel
theorem dX11_set_15 : decode cX11_set 15 = .ok (.aaload, 1) := by decide +kernel
theorem dX11_set_16 : decode cX11_set 16 = .ok (.astore 4, 2) := by decide +kernel
theorem dX11_set_18 : decode cX11_set 18 = .ok (.aload 4, 2) := by decide +kernel
theorem dX11_set_20 : decode cX11_set 20 = .ok (.invokevirtual 96, 3) := by decide +kernel
theorem dX11_set_23 : decode cX11_set 23 = .ok (.ifCond .eq 9, 3) := by decide +kernel
theorem dX11_set_26 : decode cX11_set 26 = .ok (.aload_n 0, 1) := by decide +kernel
theorem dX11_set_27 : decode cX11_set 27 = .ok (.iconst 1, 1) := by decide +kernel
theorem dX11_set_28 : decode cX11_set 28 = .ok (.invokevirtual 85, 3) := by decide +kernel
theorem dX11_set_31 : decode cX11_set 31 = .ok (.ireturn, 1) := by decide +kernel
theorem dX11_set_32 : decode cX11_set 32 = .ok (.aload 4, 2) := by decide +kernel
theorem dX11_set_34 : decode cX11_set 34 = .ok (.iload_n 2, 1) := by decide +kernel
theorem dX11_set_35 : decode cX11_set 35 = .ok (.iconst 1, 1) := by decide +kernel
theorem dX11_set_36 : decode cX11_set 36 = .ok (.invokevirtual 100, 3) := by decide +kernel
theorem dX11_set_39 : decode cX11_set 39 = .ok (.ifCond .ne 9, 3) := by decide +kernel
theorem dX11_set_42 : decode cX11_set 42 = .ok (.aload_n 0, 1) := by decide +kernel
theorem dX11_set_43 : decode cX11_set 43 = .ok (.iconst 2, 1) := by decide +kernel
theorem dX11_set_44 : decode cX11_set 44 = .ok (.invokevirtual 85, 3) := by decide +kernel
theorem dX11_set_47 : decode cX11_set 47 = .ok (.ireturn, 1) := by decide +kernel
theorem dX11_set_48 : decode cX11_set 48 = .ok (.aload 4, 2) := by decide +kernel
theorem dX11_set_50 : decode cX11_set 50 = .ok (.getfield 104, 3) := by decide +kernel
theorem dX11_set_53 : decode cX11_set 53 = .ok (.iload_n 2, 1) := by decide +kernel
theorem dX11_set_54 : decode cX11_set 54 = .ok (.aload 4, 2) := by decide +kernel
theorem dX11_set_56 : decode cX11_set 56 = .ok (.iload_n 3, 1) := by decide +kernel
theorem dX11_set_57 : decode cX11_set 57 = .ok (.invokevirtual 108, 3) := by decide +kernel
theorem dX11_set_60 : decode cX11_set 60 = .ok (.iastore, 1) := by decide +kernel
theorem dX11_set_61 : decode cX11_set 61 = .ok (.aload_n 0, 1) := by decide +kernel
theorem dX11_set_62 : decode cX11_set 62 = .ok (.aload 4, 2) := by decide +kernel
theorem dX11_set_64 : decode cX11_set 64 = .ok (.getfield 104, 3) := by decide +kernel
theorem dX11_set_67 : decode cX11_set 67 = .ok (.iload_n 2, 1) := by decide +kernel
theorem dX11_set_68 : decode cX11_set 68 = .ok (.iaload, 1) := by decide +kernel
theorem dX11_set_69 : decode cX11_set 69 = .ok (.invokevirtual 93, 3) := by decide +kernel
theorem dX11_set_72 : decode cX11_set 72 = .ok (.ireturn, 1) := by decide +kernel
theorem dX11_copy_0 : decode cX11_copy 0 = .ok (.iload_n 1, 1) := by decide +kernel
theorem dX11_copy_1 : decode cX11_copy 1 = .ok (.invokestatic 76, 3) := by decide +kernel
theorem dX11_copy_4 : decode cX11_copy 4 = .ok (.ifCond .eq 10, 3) := by decide +kernel
theorem dX11_copy_7 : decode cX11_copy 7 = .ok (.iload_n 3, 1) := by decide +kernel
theorem dX11_copy_8 : decode cX11_copy 8 = .ok (.invokestatic 76, 3) := by decide +kernel
theorem dX11_copy_11 : decode cX11_copy 11 = .ok (.ifCond .ne 6, 3) := by decide +kernel
theorem dX11_copy_14 : decode cX11_copy 14 = .ok (.ldc 84, 2) := by decide +kernel
theorem dX11_copy_16 : decode cX11_copy 16 = .ok (.ireturn, 1) := by decide +kernel
theorem dX11_copy_17 : decode cX11_copy 17 = .ok (.aload_n 0, 1) := by decide +kernel
theorem dX11_copy_18 : decode cX11_copy 18 = .ok (.getfield 11, 3) := by decide +kernel
theorem dX11_copy_21 : decode cX11_copy 21 = .ok (.iload_n 1, 1) := by decide +kernel
theorem dX11_copy_22 : decode cX11_copy 22 = .ok (.aaload, 1) := by decide +kernel
theorem dX11_copy_23 : decode cX11_copy 23 = .ok (.astore 6, 2) := by decide +kernel
theorem dX11_copy_25 : decode cX11_copy 25 = .ok (.aload_n 0, 1) := by decide +kernel
theorem dX11_copy_26 : decode cX11_copy 26 = .ok (.getfield 11, 3) := by decide +kernel
theorem dX11_copy_29 : decode cX11_copy 29 = .ok (.iload_n 3, 1) := by decide +kernel
theorem dX11_copy_30 : decode cX11_copy 30 = .ok (.aaload, 1) := by decide +kernel
theorem dX11_copy_31 : decode cX11_copy 31 = .ok (.astore 7, 2) := by decide +kernel
theorem dX11_copy_33 : decode cX11_copy 33 = .ok (.aload 6, 2) := by decide +kernel
theorem dX11_copy_35 : decode cX11_copy 35 = .ok (.invokevirtual 96, 3) := by decide +kernel
theorem dX11_copy_38 : decode cX11_copy 38 = .ok (.ifCond .ne 11, 3) := by decide +kernel
theorem dX11_copy_41 : decode cX11_copy 41 = .ok (.aload 7, 2) := by decide +kernel
theorem dX11_copy_43 : decode cX11_copy 43 = .ok (.invokevirtual 96, 3) := by decide +kernel
theorem dX11_copy_46 : decode cX11_copy 46 = .ok (.ifCond .eq 9, 3) := by decide +kernel
theorem dX11_copy_49 : decode cX11_copy 49 = .ok (.aload_n 0, 1) := by decide +kernel
theorem dX11_copy_50 : decode cX11_copy 50 = .ok (.iconst 1, 1) := by decide +kernel
theorem dX11_copy_51 : decode cX11_copy 51 = .ok (.invokevirtual 85, 3) := by decide +kernel
theorem dX11_copy_54 : decode cX11_copy 54 = .ok (.ireturn, 1) := by decide +kernel
theorem dX11_copy_55 : decode cX11_copy 55 = .ok (.aload 6, 2) := by decide +kernel
theorem dX11_copy_57 : decode cX11_copy 57 = .ok (.getfield 111, 3) := by decide +kernel
theorem dX11_copy_60 : decode cX11_copy 60 = .ok (.aload 7, 2) := by decide +kernel
theorem dX11_copy_62 : decode cX11_copy 62 = .ok (.getfield 111, 3) := by decide +kernel
theorem dX11_copy_65 : decode cX11_copy 65 = .ok (.if_icmp .eq 9, 3) := by decide +kernel
theorem dX11_copy_68 : decode cX11_copy 68 = .ok (.aload_n 0, 1) := by decide +kernel
theorem dX11_copy_69 : decode cX11_copy 69 = .ok (.iconst 5, 1) := by decide +kernel
theorem dX11_copy_70 : decode cX11_copy 70 = .ok (.invokevirtual 85, 3) := by decide +kernel
theorem dX11_copy_73 : decode cX11_copy 73 = .ok (.ireturn, 1) := by decide +kernel
theorem dX11_copy_74 : decode cX11_copy 74 = .ok (.aload 6, 2) := by decide +kernel
theorem dX11_copy_76 : decode cX11_copy 76 = .ok (.iload_n 2, 1) := by decide +kernel
theorem dX11_copy_77 : decode cX11_copy 77 = .ok (.iload 5, 2) := by decide +kernel
theorem dX11_copy_79 : decode cX11_copy 79 = .ok (.invokevirtual 100, 3) := by decide +kernel
theorem dX11_copy_82 : decode cX11_copy 82 = .ok (.ifCond .eq 15, 3) := by decide +kernel
theorem dX11_copy_85 : decode cX11_copy 85 = .ok (.aload 7, 2) := by decide +kernel
theorem dX11_copy_87 : decode cX11_copy 87 = .ok (.iload 4, 2) := by decide +kernel
theorem dX11_copy_89 : decode cX11_copy 89 = .ok (.iload 5, 2) := by decide +kernel
theorem dX11_copy_91 : decode cX11_copy 91 = .ok (.invokevirtual 100, 3) := by decide +kernel
theorem dX11_copy_94 : decode cX11_copy 94 = .ok (.ifCond .ne 9, 3) := by decide +kernel
theorem dX11_copy_97 : decode cX11_copy 97 = .ok (.aload_n 0, 1) := by decide +kernel
theorem dX11_copy_98 : decode cX11_copy 98 = .ok (.iconst 2, 1) := by decide +kernel
theorem dX11_copy_99 : decode cX11_copy 99 = .ok (.invokevirtual 85, 3) := by decide +kernel
theorem dX11_copy_102 : decode cX11_copy 102 = .ok (.ireturn, 1) := by decide +kernel
theorem dX11_copy_103 : decode cX11_copy 103 = .ok (.aload 6, 2) := by decide +kernel
theorem dX11_copy_105 : decode cX11_copy 105 = .ok (.getfield 104, 3) := by decide +kernel
theorem dX11_copy_108 : decode cX11_copy 108 = .ok (.iload_n 2, 1) := by decide +kernel
theorem dX11_copy_109 : decode cX11_copy 109 = .ok (.aload 7, 2) := by decide +kernel
theorem dX11_copy_111 : decode cX11_copy 111 = .ok (.getfield 104, 3) := by decide +kernel
theorem dX11_copy_114 : decode cX11_copy 114 = .ok (.iload 4, 2) := by decide +kernel
theorem dX11_copy_116 : decode cX11_copy 116 = .ok (.iload 5, 2) := by decide +kernel
theorem dX11_copy_118 : decode cX11_copy 118 = .ok (.invokestatic 115, 3) := by decide +kernel
theorem dX11_copy_121 : decode cX11_copy 121 = .ok (.aload_n 0, 1) := by decide +kernel
theorem dX11_copy_122 : decode cX11_copy 122 = .ok (.iload 5, 2) := by decide +kernel
theorem dX11_copy_124 : decode cX11_copy 124 = .ok (.invokevirtual 93, 3) := by decide +kernel
theorem dX11_copy_127 : decode cX11_copy 127 = .ok (.ireturn, 1) := by decide +kernel
theorem dX11_drop_0 : decode cX11_drop 0 = .ok (.iload_n 1, 1) := by decide +kernel
theorem dX11_drop_1 : decode cX11_drop 1 = .ok (.invokestatic 76, 3) := by decide +kernel
theorem dX11_drop_4 : decode cX11_drop 4 = .ok (.ifCond .ne 6, 3) := by decide +kernel
theorem dX11_drop_7 : decode cX11_drop 7 = .ok (.ldc 84, 2) := by decide +kernel
theorem dX11_drop_9 : decode cX11_drop 9 = .ok (.ireturn, 1) := by decide +kernel
theorem dX11_drop_10 : decode cX11_drop 10 = .ok (.aload_n 0, 1) := by decide +kernel
theorem dX11_drop_11 : decode cX11_drop 11 = .ok (.getfield 11, 3) := by decide +kernel
theorem dX11_drop_14 : decode cX11_drop 14 = .ok (.iload_n 1, 1) := by decide +kernel
theorem dX11_drop_15 : decode cX11_drop 15 = .ok (.aaload, 1) := by decide +kernel
theorem dX11_drop_16 : decode cX11_drop 16 = .ok (.invokevirtual 96, 3) := by decide +kernel
theorem dX11_drop_19 : decode cX11_drop 19 = .ok (.ifCond .eq 9, 3) := by decide +kernel
theorem dX11_drop_22 : decode cX11_drop 22 = .ok (.aload_n 0, 1) := by decide +kernel
theorem dX11_drop_23 : decode cX11_drop 23 = .ok (.iconst 1, 1) := by decide +kernel
theorem dX11_drop_24 : decode cX11_drop 24 = .ok (.invokevirtual 85, 3) := by decide +kernel
theorem dX11_drop_27 : decode cX11_drop 27 = .ok (.ireturn, 1) := by decide +kernel
theorem dX11_drop_28 : decode cX11_drop 28 = .ok (.aload_n 0, 1) := by decide +kernel
theorem dX11_drop_29 : decode cX11_drop 29 = .ok (.getfield 11, 3) := by decide +kernel
theorem dX11_drop_32 : decode cX11_drop 32 = .ok (.iload_n 1, 1) := by decide +kernel
theorem dX11_drop_33 : decode cX11_drop 33 = .ok (.aaload, 1) := by decide +kernel
theorem dX11_drop_34 : decode cX11_drop 34 = .ok (.getfield 121, 3) := by decide +kernel
theorem dX11_drop_37 : decode cX11_drop 37 = .ok (.istore_n 2, 1) := by decide +kernel
theorem dX11_drop_38 : decode cX11_drop 38 = .ok (.aload_n 0, 1) := by decide +kernel
theorem dX11_drop_39 : decode cX11_drop 39 = .ok (.getfield 11, 3) := by decide +kernel
theorem dX11_drop_42 : decode cX11_drop 42 = .ok (.iload_n 1, 1) := by decide +kernel
theorem dX11_drop_43 : decode cX11_drop 43 = .ok (.aaload, 1) := by decide +kernel
theorem dX11_drop_44 : decode cX11_drop 44 = .ok (.iconst (-1), 1) := by decide +kernel
theorem dX11_drop_45 : decode cX11_drop 45 = .ok (.putfield 111, 3) := by decide +kernel
theorem dX11_drop_48 : decode cX11_drop 48 = .ok (.aload_n 0, 1) := by decide +kernel
theorem dX11_drop_49 : decode cX11_drop 49 = .ok (.iload_n 2, 1) := by decide +kernel
theorem dX11_drop_50 : decode cX11_drop 50 = .ok (.invokevirtual 93, 3) := by decide +kernel
theorem dX11_drop_53 : decode cX11_drop 53 = .ok (.ireturn, 1) := by decide +kernel
theorem dX11_feed_0 : decode cX11_feed 0 = .ok (.iload_n 1, 1) := by decide +kernel
theorem dX11_feed_1 : decode cX11_feed 1 = .ok (.iconst 0, 1) := by decide +kernel
theorem dX11_feed_2 : decode cX11_feed 2 = .ok (.sipush 255, 3) := by decide +kernel
theorem dX11_feed_5 : decode cX11_feed 5 = .ok (.invokestatic 80, 3) := by decide +kernel
theorem dX11_feed_8 : decode cX11_feed 8 = .ok (.ifCond .ne 6, 3) := by decide +kernel
theorem dX11_feed_11 : decode cX11_feed 11 = .ok (.ldc 84, 2) := by decide +kernel
theorem dX11_feed_13 : decode cX11_feed 13 = .ok (.ireturn, 1) := by decide +kernel
theorem dX11_feed_14 : decode cX11_feed 14 = .ok (.aload_n 0, 1) := by decide +kernel
theorem dX11_feed_15 : decode cX11_feed 15 = .ok (.getfield 18, 3) := by decide +kernel
theorem dX11_feed_18 : decode cX11_feed 18 = .ok (.getfield 124, 3) := by decide +kernel
theorem dX11_feed_21 : decode cX11_feed 21 = .ok (.bipush 120, 2) := by decide +kernel
theorem dX11_feed_23 : decode cX11_feed 23 = .ok (.if_icmp .lt 6, 3) := by decide +kernel
theorem dX11_feed_26 : decode cX11_feed 26 = .ok (.ldc 125, 2) := by decide +kernel
theorem dX11_feed_28 : decode cX11_feed 28 = .ok (.ireturn, 1) := by decide +kernel
theorem dX11_feed_29 : decode cX11_feed 29 = .ok (.aload_n 0, 1) := by decide +kernel
theorem dX11_feed_30 : decode cX11_feed 30 = .ok (.getfield 18, 3) := by decide +kernel
theorem dX11_feed_33 : decode cX11_feed 33 = .ok (.getfield 126, 3) := by decide +kernel
theorem dX11_feed_36 : decode cX11_feed 36 = .ok (.aload_n 0, 1) := by decide +kernel
theorem dX11_feed_37 : decode cX11_feed 37 = .ok (.getfield 18, 3) := by decide +kernel
theorem dX11_feed_40 : decode cX11_feed 40 = .ok (.getfield 124, 3) := by decide +kernel
theorem dX11_feed_43 : decode cX11_feed 43 = .ok (.iload_n 1, 1) := by decide +kernel
theorem dX11_feed_44 : decode cX11_feed 44 = .ok (.iastore, 1) := by decide +kernel
theorem dX11_feed_45 : decode cX11_feed 45 = .ok (.aload_n 0, 1) := by decide +kernel
theorem dX11_feed_46 : decode cX11_feed 46 = .ok (.getfield 18, 3) := by decide +kernel
theorem dX11_feed_49 : decode cX11_feed 49 = .ok (.dup, 1) := by decide +kernel
theorem dX11_feed_50 : decode cX11_feed 50 = .ok (.getfield 124, 3) := by decide +kernel
theorem dX11_feed_53 : decode cX11_feed 53 = .ok (.iconst 1, 1) := by decide +kernel
theorem dX11_feed_54 : decode cX11_feed 54 = .ok (.iadd, 1) := by decide +kernel
theorem dX11_feed_55 : decode cX11_feed 55 = .ok (.putfield 124, 3) := by decide +kernel
theorem dX11_feed_58 : decode cX11_feed 58 = .ok (.aload_n 0, 1) := by decide +kernel
theorem dX11_feed_59 : decode cX11_feed 59 = .ok (.getfield 18, 3) := by decide +kernel
theorem dX11_feed_62 : decode cX11_feed 62 = .ok (.getfield 124, 3) := by decide +kernel
theorem dX11_feed_65 : decode cX11_feed 65 = .ok (.ireturn, 1) := by decide +kernel
theorem dX11_house_0 : decode cX11_house 0 = .ok (.aload_n 0, 1) := by decide +kernel
theorem dX11_house_1 : decode cX11_house 1 = .ok (.getfield 18, 3) := by decide +kernel
theorem dX11_house_4 : decode cX11_house 4 = .ok (.aload_n 0, 1) := by decide +kernel
theorem dX11_house_5 : decode cX11_house 5 = .ok (.getfield 29, 3) := by decide +kernel
theorem dX11_house_8 : decode cX11_house 8 = .ok (.invokevirtual 129, 3) := by decide +kernel
theorem dX11_house_11 : decode cX11_house 11 = .ok (.istore_n 1, 1) := by decide +kernel
theorem dX11_house_12 : decode cX11_house 12 = .ok (.aload_n 0, 1) := by decide +kernel
theorem dX11_house_13 : decode cX11_house 13 = .ok (.getfield 18, 3) := by decide +kernel
theorem dX11_house_16 : decode cX11_house 16 = .ok (.iconst 0, 1) := by decide +kernel
theorem dX11_house_17 : decode cX11_house 17 = .ok (.putfield 124, 3) := by decide +kernel
theorem dX11_house_20 : decode cX11_house 20 = .ok (.iload_n 1, 1) := by decide +kernel
theorem dX11_house_21 : decode cX11_house 21 = .ok (.ifCond .ne 25, 3) := by decide +kernel
theorem dX11_house_24 : decode cX11_house 24 = .ok (.aload_n 0, 1) := by decide +kernel
theorem dX11_house_25 : decode cX11_house 25 = .ok (.aload_n 0, 1) := by decide +kernel
theorem dX11_house_26 : decode cX11_house 26 = .ok (.getfield 18, 3) := by decide +kernel
theorem dX11_house_29 : decode cX11_house 29 = .ok (.getfield 133, 3) := by decide +kernel
theorem dX11_house_32 : decode cX11_house 32 = .ok (.putfield 136, 3) := by decide +kernel
theorem dX11_house_35 : decode cX11_house 35 = .ok (.ldc 139, 2) := by decide +kernel
theorem dX11_house_37 : decode cX11_house 37 = .ok (.aload_n 0, 1) := by decide +kernel
theorem dX11_house_38 : decode cX11_house 38 = .ok (.getfield 18, 3) := by decide +kernel
theorem dX11_house_41 : decode cX11_house 41 = .ok (.getfield 140, 3) := by decide +kernel
theorem dX11_house_44 : decode cX11_house 44 = .ok (.isub, 1) := by decide +kernel
theorem dX11_house_45 : decode cX11_house 45 = .ok (.ireturn, 1) := by decide +kernel
theorem dX11_house_46 : decode cX11_house 46 = .ok (.aload_n 0, 1) := by decide +kernel
theorem dX11_house_47 : decode cX11_house 47 = .ok (.getfield 25, 3) := by decide +kernel
theorem dX11_house_50 : decode cX11_house 50 = .ok (.aload_n 0, 1) := by decide +kernel
theorem dX11_house_51 : decode cX11_house 51 = .ok (.getfield 29, 3) := by decide +kernel
theorem dX11_house_54 : decode cX11_house 54 = .ok (.invokevirtual 143, 3) := by decide +kernel
theorem dX11_house_57 : decode cX11_house 57 = .ok (.aload_n 0, 1) := by decide +kernel
theorem dX11_house_58 : decode cX11_house 58 = .ok (.getfield 43, 3) := by decide +kernel
theorem dX11_house_61 : decode cX11_house 61 = .ok (.invokevirtual 146, 3) := by decide +kernel
theorem dX11_house_64 : decode cX11_house 64 = .ok (.aload_n 0, 1) := by decide +kernel
theorem dX11_house_65 : decode cX11_house 65 = .ok (.iconst 1, 1) := by decide +kernel
theorem dX11_house_66 : decode cX11_house 66 = .ok (.putfield 149, 3) := by decide +kernel
theorem dX11_house_69 : decode cX11_house 69 = .ok (.aload_n 0, 1) := by decide +kernel
theorem dX11_house_70 : decode cX11_house 70 = .ok (.getfield 25, 3) := by decide +kernel
theorem dX11_house_73 : decode cX11_house 73 = .ok (.getfield 153, 3) := by decide +kernel
theorem dX11_house_76 : decode cX11_house 76 = .ok (.ireturn, 1) := by decide +kernel
theorem dX11_fault_0 : decode cX11_fault 0 = .ok (.aload_n 0, 1) := by decide +kernel
theorem dX11_fault_1 : decode cX11_fault 1 = .ok (.getfield 136, 3) := by decide +kernel
theorem dX11_fault_4 : decode cX11_fault 4 = .ok (.ireturn, 1) := by decide +kernel
theorem dX11_steps_0 : decode cX11_steps 0 = .ok (.aload_n 0, 1) := by decide +kernel
theorem dX11_steps_1 : decode cX11_steps 1 = .ok (.getfield 149, 3) := by decide +kernel
theorem dX11_steps_4 : decode cX11_steps 4 = .ok (.ifCond .ne 6, 3) := by decide +kernel
theorem dX11_steps_7 : decode cX11_steps 7 = .ok (.ldc 156, 2) := by decide +kernel
theorem dX11_steps_9 : decode cX11_steps 9 = .ok (.ireturn, 1) := by decide +kernel
theorem dX11_steps_10 : decode cX11_steps 10 = .ok (.iload_n 1, 1) := by decide +kernel
theorem dX11_steps_11 : decode cX11_steps 11 = .ok (.iconst 1, 1) := by decide +kernel
theorem dX11_steps_12 : decode cX11_steps 12 = .ok (.bipush 24, 2) := by decide +kernel
theorem dX11_steps_14 : decode cX11_steps 14 = .ok (.invokestatic 80, 3) := by decide +kernel
theorem dX11_steps_17 : decode cX11_steps 17 = .ok (.ifCond .ne 6, 3) := by decide +kernel
theorem dX11_steps_20 : decode cX11_steps 20 = .ok (.ldc 84, 2) := by decide +kernel
theorem dX11_steps_22 : decode cX11_steps 22 = .ok (.ireturn, 1) := by decide +kernel
theorem dX11_steps_23 : decode cX11_steps 23 = .ok (.aload_n 0, 1) := by decide +kernel
theorem dX11_steps_24 : decode cX11_steps 24 = .ok (.getfield 25, 3) := by decide +kernel
theorem dX11_steps_27 : decode cX11_steps 27 = .ok (.getfield 157, 3) := by decide +kernel
theorem dX11_steps_30 : decode cX11_steps 30 = .ok (.iload_n 1, 1) := by decide +kernel
theorem dX11_steps_31 : decode cX11_steps 31 = .ok (.iadd, 1) := by decide +kernel
theorem dX11_steps_32 : decode cX11_steps 32 = .ok (.sipush 999, 3) := by decide +kernel
theorem dX11_steps_35 : decode cX11_steps 35 = .ok (.if_icmp .le 6, 3) := by decide +kernel
theorem dX11_steps_38 : decode cX11_steps 38 = .ok (.ldc 125, 2) := by decide +kernel
theorem dX11_steps_40 : decode cX11_steps 40 = .ok (.ireturn, 1) := by decide +kernel
theorem dX11_steps_41 : decode cX11_steps 41 = .ok (.iconst 0, 1) := by decide +kernel
theorem dX11_steps_42 : decode cX11_steps 42 = .ok (.istore_n 2, 1) := by decide +kernel
theorem dX11_steps_43 : decode cX11_steps 43 = .ok (.iload_n 2, 1) := by decide +kernel
theorem dX11_steps_44 : decode cX11_steps 44 = .ok (.iload_n 1, 1) := by decide +kernel
theorem dX11_steps_45 : decode cX11_steps 45 = .ok (.if_icmp .ge 27, 3) := by decide +kernel
theorem dX11_steps_48 : decode cX11_steps 48 = .ok (.aload_n 0, 1) := by decide +kernel
theorem dX11_steps_49 : decode cX11_steps 49 = .ok (.getfield 43, 3) := by decide +kernel
theorem dX11_steps_52 : decode cX11_steps 52 = .ok (.aload_n 0, 1) := by decide +kernel
theorem dX11_steps_53 : decode cX11_steps 53 = .ok (.getfield 25, 3) := by decide +kernel
theorem dX11_steps_56 : decode cX11_steps 56 = .ok (.invokevirtual 160, 3) := by decide +kernel
theorem dX11_steps_59 : decode cX11_steps 59 = .ok (.aload_n 0, 1) := by decide +kernel
theorem dX11_steps_60 : decode cX11_steps 60 = .ok (.getfield 25, 3) := by decide +kernel
theorem dX11_steps_63 : decode cX11_steps 63 = .ok (.invokevirtual 163, 3) := by decide +kernel
theorem dX11_steps_66 : decode cX11_steps 66 = .ok (.iinc 2 1, 3) := by decide +kernel
theorem dX11_steps_69 : decode cX11_steps 69 = .ok (.goto (-26), 3) := by decide +kernel
theorem dX11_steps_72 : decode cX11_steps 72 = .ok (.aload_n 0, 1) := by decide +kernel
theorem dX11_steps_73 : decode cX11_steps 73 = .ok (.getfield 25, 3) := by decide +kernel
theorem dX11_steps_76 : decode cX11_steps 76 = .ok (.getfield 166, 3) := by decide +kernel
theorem dX11_steps_79 : decode cX11_steps 79 = .ok (.ireturn, 1) := by decide +kernel
theorem dX11_show_0 : decode cX11_show 0 = .ok (.aload_n 0, 1) := by decide +kernel
theorem dX11_show_1 : decode cX11_show 1 = .ok (.iload_n 1, 1) := by decide +kernel
theorem dX11_show_2 : decode cX11_show 2 = .ok (.invokevirtual 169, 3) := by decide +kernel
theorem dX11_show_5 : decode cX11_show 5 = .ok (.ifCond .eq 13, 3) := by decide +kernel
theorem dX11_show_8 : decode cX11_show 8 = .ok (.iload_n 2, 1) := by decide +kernel
theorem dX11_show_9 : decode cX11_show 9 = .ok (.iconst 0, 1) := by decide +kernel
theorem dX11_show_10 : decode cX11_show 10 = .ok (.bipush 9, 2) := by decide +kernel
theorem dX11_show_12 : decode cX11_show 12 = .ok (.invokestatic 80, 3) := by decide +kernel
theorem dX11_show_15 : decode cX11_show 15 = .ok (.ifCond .ne 6, 3) := by decide +kernel
theorem dX11_show_18 : decode cX11_show 18 = .ok (.ldc 84, 2) := by decide +kernel
theorem dX11_show_20 : decode cX11_show 20 = .ok (.ireturn, 1) := by decide +kernel
theorem dX11_show_21 : decode cX11_show 21 = .ok (.aload_n 0, 1) := by decide +kernel
theorem dX11_show_22 : decode cX11_show 22 = .ok (.getfield 25, 3) := by decide +kernel
theorem dX11_show_25 : decode cX11_show 25 = .ok (.getfield 172, 3) := by decide +kernel
theorem dX11_show_28 : decode cX11_show 28 = .ok (.iload_n 1, 1) := by decide +kernel
theorem dX11_show_29 : decode cX11_show 29 = .ok (.iaload, 1) := by decide +kernel
theorem dX11_show_30 : decode cX11_show 30 = .ok (.istore_n 3, 1) := by decide +kernel
theorem dX11_show_31 : decode cX11_show 31 = .ok (.aload_n 0, 1) := by decide +kernel
theorem dX11_show_32 : decode cX11_show 32 = .ok (.getfield 43, 3) := by decide +kernel
theorem dX11_show_35 : decode cX11_show 35 = .ok (.aload_n 0, 1) := by decide +kernel
theorem dX11_show_36 : decode cX11_show 36 = .ok (.getfield 25, 3) := by decide +kernel
theorem dX11_show_39 : decode cX11_show 39 = .ok (.invokevirtual 160, 3) := by decide +kernel
theorem dX11_show_42 : decode cX11_show 42 = .ok (.aload_n 0, 1) := by decide +kernel
theorem dX11_show_43 : decode cX11_show 43 = .ok (.getfield 25, 3) := by decide +kernel
theorem dX11_show_46 : decode cX11_show 46 = .ok (.iconst 3, 1) := by decide +kernel
theorem dX11_show_47 : decode cX11_show 47 = .ok (.iload_n 1, 1) := by decide +kernel
theorem dX11_show_48 : decode cX11_show 48 = .ok (.iload_n 2, 1) := by decide +kernel
theorem dX11_show_49 : decode cX11_show 49 = .ok (.invokevirtual 175, 3) := by decide +kernel
theorem dX11_show_52 : decode cX11_show 52 = .ok (.iload_n 3, 1) := by decide +kernel
theorem dX11_show_53 : decode cX11_show 53 = .ok (.ireturn, 1) := by decide +kernel
theorem dX11_walk_0 : decode cX11_walk 0 = .ok (.aload_n 0, 1) := by decide +kernel
theorem dX11_walk_1 : decode cX11_walk 1 = .ok (.iload_n 1, 1) := by decide +kernel
theorem dX11_walk_2 : decode cX11_walk 2 = .ok (.invokevirtual 169, 3) := by decide +kernel
theorem dX11_walk_5 : decode cX11_walk 5 = .ok (.ifCond .eq 12, 3) := by decide +kernel
theorem dX11_walk_8 : decode cX11_walk 8 = .ok (.iload_n 2, 1) := by decide +kernel
theorem dX11_walk_9 : decode cX11_walk 9 = .ok (.iconst 0, 1) := by decide +kernel
theorem dX11_walk_10 : decode cX11_walk 10 = .ok (.iconst 1, 1) := by decide +kernel
theorem dX11_walk_11 : decode cX11_walk 11 = .ok (.invokestatic 80, 3) := by decide +kernel
theorem dX11_walk_14 : decode cX11_walk 14 = .ok (.ifCond .ne 6, 3) := by decide +kernel
theorem dX11_walk_17 : decode cX11_walk 17 = .ok (.ldc 84, 2) := by decide +kernel
theorem dX11_walk_19 : decode cX11_walk 19 = .ok (.ireturn, 1) := by decide +kernel
theorem dX11_walk_20 : decode cX11_walk 20 = .ok (.aload_n 0, 1) := by decide +kernel
theorem dX11_walk_21 : decode cX11_walk 21 = .ok (.getfield 25, 3) := by decide +kernel
theorem dX11_walk_24 : decode cX11_walk 24 = .ok (.getfield 179, 3) := by decide +kernel
theorem dX11_walk_27 : decode cX11_walk 27 = .ok (.iload_n 1, 1) := by decide +kernel
theorem dX11_walk_28 : decode cX11_walk 28 = .ok (.iaload, 1) := by decide +kernel
theorem dX11_walk_29 : decode cX11_walk 29 = .ok (.iload_n 2, 1) := by decide +kernel
theorem dX11_walk_30 : decode cX11_walk 30 = .ok (.iconst 1, 1) := by decide +kernel
theorem dX11_walk_31 : decode cX11_walk 31 = .ok (.if_icmp .ne 7, 3) := by decide +kernel
theorem dX11_walk_34 : decode cX11_walk 34 = .ok (.iconst 1, 1) := by decide +kernel
theorem dX11_walk_35 : decode cX11_walk 35 = .ok (.goto 4, 3) := by decide +kernel
theorem dX11_walk_38 : decode cX11_walk 38 = .ok (.iconst (-1), 1) := by decide +kernel
theorem dX11_walk_39 : decode cX11_walk 39 = .ok (.iadd, 1) := by decide +kernel
theorem dX11_walk_40 : decode cX11_walk 40 = .ok (.istore_n 3, 1) := by decide +kernel
theorem dX11_walk_41 : decode cX11_walk 41 = .ok (.aload_n 0, 1) := by decide +kernel
theorem dX11_walk_42 : decode cX11_walk 42 = .ok (.getfield 25, 3) := by decide +kernel
theorem dX11_walk_45 : decode cX11_walk 45 = .ok (.getfield 182, 3) := by decide +kernel
theorem dX11_walk_48 : decode cX11_walk 48 = .ok (.iload_n 1, 1) := by decide +kernel
theorem dX11_walk_49 : decode cX11_walk 49 = .ok (.if_icmp .eq 18, 3) := by decide +kernel
theorem dX11_walk_52 : decode cX11_walk 52 = .ok (.iload_n 3, 1) := by decide +kernel
theorem dX11_walk_53 : decode cX11_walk 53 = .ok (.iconst 0, 1) := by decide +kernel
theorem dX11_walk_54 : decode cX11_walk 54 = .ok (.aload_n 0, 1) := by decide +kernel
theorem dX11_walk_55 : decode cX11_walk 55 = .ok (.getfield 25, 3) := by decide +kernel
theorem dX11_walk_58 : decode cX11_walk 58 = .ok (.getfield 185, 3) := by decide +kernel
theorem dX11_walk_61 : decode cX11_walk 61 = .ok (.invokestatic 80, 3) := by decide +kernel
theorem dX11_walk_64 : decode cX11_walk 64 = .ok (.ifCond .ne 6, 3) := by decide +kernel
theorem dX11_walk_67 : decode cX11_walk 67 = .ok (.ldc 156, 2) := by decide +kernel
theorem dX11_walk_69 : decode cX11_walk 69 = .ok (.ireturn, 1) := by decide +kernel
theorem dX11_walk_70 : decode cX11_walk 70 = .ok (.aload_n 0, 1) := by decide +kernel
theorem dX11_walk_71 : decode cX11_walk 71 = .ok (.getfield 43, 3) := by decide +kernel
theorem dX11_walk_74 : decode cX11_walk 74 = .ok (.aload_n 0, 1) := by decide +kernel
theorem dX11_walk_75 : decode cX11_walk 75 = .ok (.getfield 25, 3) := by decide +kernel
theorem dX11_walk_78 : decode cX11_walk 78 = .ok (.invokevirtual 160, 3) := by decide +kernel
theorem dX11_walk_81 : decode cX11_walk 81 = .ok (.aload_n 0, 1) := by decide +kernel
theorem dX11_walk_82 : decode cX11_walk 82 = .ok (.getfield 25, 3) := by decide +kernel
theorem dX11_walk_85 : decode cX11_walk 85 = .ok (.iconst 1, 1) := by decide +kernel
theorem dX11_walk_86 : decode cX11_walk 86 = .ok (.iload_n 1, 1) := by decide +kernel
theorem dX11_walk_87 : decode cX11_walk 87 = .ok (.iload_n 3, 1) := by decide +kernel
theorem dX11_walk_88 : decode cX11_walk 88 = .ok (.invokevirtual 175, 3) := by decide +kernel
theorem dX11_walk_91 : decode cX11_walk 91 = .ok (.iload_n 3, 1) := by decide +kernel
theorem dX11_walk_92 : decode cX11_walk 92 = .ok (.ireturn, 1) := by decide +kernel
theorem dX11_undo_0 : decode cX11_undo 0 = .ok (.aload_n 0, 1) := by decide +kernel
theorem dX11_undo_1 : decode cX11_undo 1 = .ok (.getfield 43, 3) := by decide +kernel
theorem dX11_undo_4 : decode cX11_undo 4 = .ok (.getfield 188, 3) := by decide +kernel
theorem dX11_undo_7 : decode cX11_undo 7 = .ok (.ifCond .ne 6, 3) := by decide +kernel
theorem dX11_undo_10 : decode cX11_undo 10 = .ok (.ldc 156, 2) := by decide +kernel
theorem dX11_undo_12 : decode cX11_undo 12 = .ok (.ireturn, 1) := by decide +kernel
theorem dX11_undo_13 : decode cX11_undo 13 = .ok (.aload_n 0, 1) := by decide +kernel
theorem dX11_undo_14 : decode cX11_undo 14 = .ok (.getfield 43, 3) := by decide +kernel
theorem dX11_undo_17 : decode cX11_undo 17 = .ok (.aload_n 0, 1) := by decide +kernel
theorem dX11_undo_18 : decode cX11_undo 18 = .ok (.getfield 25, 3) := by decide +kernel
theorem dX11_undo_21 : decode cX11_undo 21 = .ok (.invokevirtual 191, 3) := by decide +kernel
theorem dX11_undo_24 : decode cX11_undo 24 = .ok (.aload_n 0, 1) := by decide +kernel
theorem dX11_undo_25 : decode cX11_undo 25 = .ok (.getfield 43, 3) := by decide +kernel
theorem dX11_undo_28 : decode cX11_undo 28 = .ok (.getfield 188, 3) := by decide +kernel
theorem dX11_undo_31 : decode cX11_undo 31 = .ok (.ireturn, 1) := by decide +kernel
theorem dX11_person_0 : decode cX11_person 0 = .ok (.aload_n 0, 1) := by decide +kernel
theorem dX11_person_1 : decode cX11_person 1 = .ok (.iload_n 1, 1) := by decide +kernel
theorem dX11_person_2 : decode cX11_person 2 = .ok (.invokevirtual 169, 3) := by decide +kernel
theorem dX11_person_5 : decode cX11_person 5 = .ok (.ifCond .ne 6, 3) := by decide +kernel
theorem dX11_person_8 : decode cX11_person 8 = .ok (.ldc 84, 2) := by decide +kernel
theorem dX11_person_10 : decode cX11_person 10 = .ok (.ireturn, 1) := by decide +kernel
theorem dX11_person_11 : decode cX11_person 11 = .ok (.iload_n 2, 1) := by decide +kernel
theorem dX11_person_12 : decode cX11_person 12 = .ok (.tableswitch 106 0 5 #[40, 50, 60, 70, 80, 89], 40) := by decide +kernel
theorem dX11_person_52 : decode cX11_person 52 = .ok (.aload_n 0, 1) := by decide +kernel
theorem dX11_person_53 : decode cX11_person 53 = .ok (.getfield 25, 3) := by decide +kernel
theorem dX11_person_56 : decode cX11_person 56 = .ok (.getfield 179, 3) := by decide +kernel
theorem dX11_person_59 : decode cX11_person 59 = .ok (.iload_n 1, 1) := by decide +kernel
theorem dX11_person_60 : decode cX11_person 60 = .ok (.iaload, 1) := by decide +kernel
theorem dX11_person_61 : decode cX11_person 61 = .ok (.ireturn, 1) := by decide +kernel
theorem dX11_person_62 : decode cX11_person 62 = .ok (.aload_n 0, 1) := by decide +kernel
theorem dX11_person_63 : decode cX11_person 63 = .ok (.getfield 25, 3) := by decide +kernel
theorem dX11_person_66 : decode cX11_person 66 = .ok (.getfield 194, 3) := by decide +kernel
theorem dX11_person_69 : decode cX11_person 69 = .ok (.iload_n 1, 1) := by decide +kernel
theorem dX11_person_70 : decode cX11_person 70 = .ok (.iaload, 1) := by decide +kernel
theorem dX11_person_71 : decode cX11_person 71 = .ok (.ireturn, 1) := by decide +kernel
theorem dX11_person_72 : decode cX11_person 72 = .ok (.aload_n 0, 1) := by decide +kernel
theorem dX11_person_73 : decode cX11_person 73 = .ok (.getfield 25, 3) := by decide +kernel
theorem dX11_person_76 : decode cX11_person 76 = .ok (.getfield 172, 3) := by decide +kernel
theorem dX11_person_79 : decode cX11_person 79 = .ok (.iload_n 1, 1) := by decide +kernel
theorem dX11_person_80 : decode cX11_person 80 = .ok (.iaload, 1) := by decide +kernel
theorem dX11_person_81 : decode cX11_person 81 = .ok (.ireturn, 1) := by decide +kernel
theorem dX11_person_82 : decode cX11_person 82 = .ok (.aload_n 0, 1) := by decide +kernel
theorem dX11_person_83 : decode cX11_person 83 = .ok (.getfield 25, 3) := by decide +kernel
theorem dX11_person_86 : decode cX11_person 86 = .ok (.getfield 197, 3) := by decide +kernel
theorem dX11_person_89 : decode cX11_person 89 = .ok (.iload_n 1, 1) := by decide +kernel
theorem dX11_person_90 : decode cX11_person 90 = .ok (.iaload, 1) := by decide +kernel
theorem dX11_person_91 : decode cX11_person 91 = .ok (.ireturn, 1) := by decide +kernel
theorem dX11_person_92 : decode cX11_person 92 = .ok (.aload_n 0, 1) := by decide +kernel
theorem dX11_person_93 : decode cX11_person 93 = .ok (.getfield 25, 3) := by decide +kernel
theorem dX11_person_96 : decode cX11_person 96 = .ok (.iload_n 1, 1) := by decide +kernel
theorem dX11_person_97 : decode cX11_person 97 = .ok (.invokevirtual 200, 3) := by decide +kernel
theorem dX11_person_100 : decode cX11_person 100 = .ok (.ireturn, 1) := by decide +kernel
theorem dX11_person_101 : decode cX11_person 101 = .ok (.aload_n 0, 1) := by decide +kernel
theorem dX11_person_102 : decode cX11_person 102 = .ok (.getfield 25, 3) := by decide +kernel
theorem dX11_person_105 : decode cX11_person 105 = .ok (.iload_n 1, 1) := by decide +kernel
theorem dX11_person_106 : decode cX11_person 106 = .ok (.invokevirtual 203, 3) := by decide +kernel
theorem dX11_person_109 : decode cX11_person 109 = .ok (.ifCond .eq 7, 3) := by decide +kernel
theorem dX11_person_112 : decode cX11_person 112 = .ok (.iconst 1, 1) := by decide +kernel
theorem dX11_person_113 : decode cX11_person 113 = .ok (.goto 4, 3) := by decide +kernel
theorem dX11_person_116 : decode cX11_person 116 = .ok (.iconst 0, 1) := by decide +kernel
theorem dX11_person_117 : decode cX11_person 117 = .ok (.ireturn, 1) := by decide +kernel
theorem dX11_person_118 : decode cX11_person 118 = .ok (.ldc 84, 2) := by decide +kernel
theorem dX11_person_120 : decode cX11_person 120 = .ok (.ireturn, 1) := by decide +kernel
theorem dX11_minds_0 : decode cX11_minds 0 = .ok (.aload_n 0, 1) := by decide +kernel
theorem dX11_minds_1 : decode cX11_minds 1 = .ok (.iload_n 1, 1) := by decide +kernel
theorem dX11_minds_2 : decode cX11_minds 2 = .ok (.invokevirtual 169, 3) := by decide +kernel
theorem dX11_minds_5 : decode cX11_minds 5 = .ok (.ifCond .eq 16, 3) := by decide +kernel
theorem dX11_minds_8 : decode cX11_minds 8 = .ok (.aload_n 0, 1) := by decide +kernel
theorem dX11_minds_9 : decode cX11_minds 9 = .ok (.iload_n 2, 1) := by decide +kernel
theorem dX11_minds_10 : decode cX11_minds 10 = .ok (.invokevirtual 169, 3) := by decide +kernel
theorem dX11_minds_13 : decode cX11_minds 13 = .ok (.ifCond .eq 8, 3) := by decide +kernel
theorem dX11_minds_16 : decode cX11_minds 16 = .ok (.iload_n 1, 1) := by decide +kernel
theorem dX11_minds_17 : decode cX11_minds 17 = .ok (.iload_n 2, 1) := by decide +kernel
theorem dX11_minds_18 : decode cX11_minds 18 = .ok (.if_icmp .ne 6, 3) := by decide +kernel
theorem dX11_minds_21 : decode cX11_minds 21 = .ok (.ldc 84, 2) := by decide +kernel
theorem dX11_minds_23 : decode cX11_minds 23 = .ok (.ireturn, 1) := by decide +kernel
theorem dX11_minds_24 : decode cX11_minds 24 = .ok (.aload_n 0, 1) := by decide +kernel
theorem dX11_minds_25 : decode cX11_minds 25 = .ok (.getfield 25, 3) := by decide +kernel
theorem dX11_minds_28 : decode cX11_minds 28 = .ok (.iload_n 1, 1) := by decide +kernel
theorem dX11_minds_29 : decode cX11_minds 29 = .ok (.iload_n 2, 1) := by decide +kernel
theorem dX11_minds_30 : decode cX11_minds 30 = .ok (.invokevirtual 206, 3) := by decide +kernel
theorem dX11_minds_33 : decode cX11_minds 33 = .ok (.ireturn, 1) := by decide +kernel
theorem dX11_car_0 : decode cX11_car 0 = .ok (.aload_n 0, 1) := by decide +kernel
theorem dX11_car_1 : decode cX11_car 1 = .ok (.getfield 149, 3) := by decide +kernel
theorem dX11_car_4 : decode cX11_car 4 = .ok (.ifCond .ne 6, 3) := by decide +kernel
theorem dX11_car_7 : decode cX11_car 7 = .ok (.ldc 156, 2) := by decide +kernel
theorem dX11_car_9 : decode cX11_car 9 = .ok (.ireturn, 1) := by decide +kernel
theorem dX11_car_10 : decode cX11_car 10 = .ok (.iload_n 1, 1) := by decide +kernel
theorem dX11_car_11 : decode cX11_car 11 = .ok (.tableswitch 82 0 3 #[29, 37, 48, 74], 29) := by decide +kernel
theorem dX11_car_40 : decode cX11_car 40 = .ok (.aload_n 0, 1) := by decide +kernel
theorem dX11_car_41 : decode cX11_car 41 = .ok (.getfield 25, 3) := by decide +kernel
theorem dX11_car_44 : decode cX11_car 44 = .ok (.getfield 166, 3) := by decide +kernel
theorem dX11_car_47 : decode cX11_car 47 = .ok (.ireturn, 1) := by decide +kernel
theorem dX11_car_48 : decode cX11_car 48 = .ok (.aload_n 0, 1) := by decide +kernel
theorem dX11_car_49 : decode cX11_car 49 = .ok (.getfield 25, 3) := by decide +kernel
theorem dX11_car_52 : decode cX11_car 52 = .ok (.getfield 182, 3) := by decide +kernel
theorem dX11_car_55 : decode cX11_car 55 = .ok (.invokestatic 210, 3) := by decide +kernel
theorem dX11_car_58 : decode cX11_car 58 = .ok (.ireturn, 1) := by decide +kernel
theorem dX11_car_59 : decode cX11_car 59 = .ok (.aload_n 0, 1) := by decide +kernel
theorem dX11_car_60 : decode cX11_car 60 = .ok (.getfield 25, 3) := by decide +kernel
theorem dX11_car_63 : decode cX11_car 63 = .ok (.getfield 182, 3) := by decide +kernel
theorem dX11_car_66 : decode cX11_car 66 = .ok (.iconst (-1), 1) := by decide +kernel
theorem dX11_car_67 : decode cX11_car 67 = .ok (.if_icmp .ne 13, 3) := by decide +kernel
theorem dX11_car_70 : decode cX11_car 70 = .ok (.aload_n 0, 1) := by decide +kernel
theorem dX11_car_71 : decode cX11_car 71 = .ok (.getfield 25, 3) := by decide +kernel
theorem dX11_car_74 : decode cX11_car 74 = .ok (.invokevirtual 213, 3) := by decide +kernel
theorem dX11_car_77 : decode cX11_car 77 = .ok (.goto 4, 3) := by decide +kernel
theorem dX11_car_80 : decode cX11_car 80 = .ok (.iconst (-1), 1) := by decide +kernel
theorem dX11_car_81 : decode cX11_car 81 = .ok (.invokestatic 210, 3) := by decide +kernel
theorem dX11_car_84 : decode cX11_car 84 = .ok (.ireturn, 1) := by decide +kernel
theorem dX11_car_85 : decode cX11_car 85 = .ok (.aload_n 0, 1) := by decide +kernel
theorem dX11_car_86 : decode cX11_car 86 = .ok (.getfield 25, 3) := by decide +kernel
theorem dX11_car_89 : decode cX11_car 89 = .ok (.getfield 217, 3) := by decide +kernel
theorem dX11_car_92 : decode cX11_car 92 = .ok (.ireturn, 1) := by decide +kernel
theorem dX11_car_93 : decode cX11_car 93 = .ok (.ldc 84, 2) := by decide +kernel
theorem dX11_car_95 : decode cX11_car 95 = .ok (.ireturn, 1) := by decide +kernel
theorem dX11_ahead_0 : decode cX11_ahead 0 = .ok (.aload_n 0, 1) := by decide +kernel
theorem dX11_ahead_1 : decode cX11_ahead 1 = .ok (.getfield 149, 3) := by decide +kernel
theorem dX11_ahead_4 : decode cX11_ahead 4 = .ok (.ifCond .ne 6, 3) := by decide +kernel
theorem dX11_ahead_7 : decode cX11_ahead 7 = .ok (.ldc 156, 2) := by decide +kernel
theorem dX11_ahead_9 : decode cX11_ahead 9 = .ok (.ireturn, 1) := by decide +kernel
theorem dX11_ahead_10 : decode cX11_ahead 10 = .ok (.iload_n 1, 1) := by decide +kernel
theorem dX11_ahead_11 : decode cX11_ahead 11 = .ok (.iconst 0, 1) := by decide +kernel
theorem dX11_ahead_12 : decode cX11_ahead 12 = .ok (.bipush 60, 2) := by decide +kernel
theorem dX11_ahead_14 : decode cX11_ahead 14 = .ok (.invokestatic 80, 3) := by decide +kernel
theorem dX11_ahead_17 : decode cX11_ahead 17 = .ok (.ifCond .eq 12, 3) := by decide +kernel
theorem dX11_ahead_20 : decode cX11_ahead 20 = .ok (.iload_n 2, 1) := by decide +kernel
theorem dX11_ahead_21 : decode cX11_ahead 21 = .ok (.iconst 0, 1) := by decide +kernel
theorem dX11_ahead_22 : decode cX11_ahead 22 = .ok (.iconst 2, 1) := by decide +kernel
theorem dX11_ahead_23 : decode cX11_ahead 23 = .ok (.invokestatic 80, 3) := by decide +kernel
theorem dX11_ahead_26 : decode cX11_ahead 26 = .ok (.ifCond .ne 6, 3) := by decide +kernel
theorem dX11_ahead_29 : decode cX11_ahead 29 = .ok (.ldc 84, 2) := by decide +kernel
theorem dX11_ahead_31 : decode cX11_ahead 31 = .ok (.ireturn, 1) := by decide +kernel
theorem dX11_ahead_32 : decode cX11_ahead 32 = .ok (.aload_n 0, 1) := by decide +kernel
theorem dX11_ahead_33 : decode cX11_ahead 33 = .ok (.getfield 29, 3) := by decide +kernel
theorem dX11_ahead_36 : decode cX11_ahead 36 = .ok (.aload_n 0, 1) := by decide +kernel
theorem dX11_ahead_37 : decode cX11_ahead 37 = .ok (.getfield 25, 3) := by decide +kernel
theorem dX11_ahead_40 : decode cX11_ahead 40 = .ok (.invokevirtual 143, 3) := by decide +kernel
theorem dX11_ahead_43 : decode cX11_ahead 43 = .ok (.aload_n 0, 1) := by decide +kernel
theorem dX11_ahead_44 : decode cX11_ahead 44 = .ok (.getfield 29, 3) := by decide +kernel
theorem dX11_ahead_47 : decode cX11_ahead 47 = .ok (.iload_n 1, 1) := by decide +kernel
theorem dX11_ahead_48 : decode cX11_ahead 48 = .ok (.invokevirtual 220, 3) := by decide +kernel
theorem dX11_ahead_51 : decode cX11_ahead 51 = .ok (.pop, 1) := by decide +kernel
theorem dX11_ahead_52 : decode cX11_ahead 52 = .ok (.iload_n 2, 1) := by decide +kernel
theorem dX11_ahead_53 : decode cX11_ahead 53 = .ok (.lookupswitch 46 #[(0, 27), (1, 35)], 27) := by decide +kernel
theorem dX11_ahead_80 : decode cX11_ahead 80 = .ok (.aload_n 0, 1) := by decide +kernel
theorem dX11_ahead_81 : decode cX11_ahead 81 = .ok (.getfield 29, 3) := by decide +kernel
theorem dX11_ahead_84 : decode cX11_ahead 84 = .ok (.getfield 166, 3) := by decide +kernel
theorem dX11_ahead_87 : decode cX11_ahead 87 = .ok (.ireturn, 1) := by decide +kernel
theorem dX11_ahead_88 : decode cX11_ahead 88 = .ok (.aload_n 0, 1) := by decide +kernel
theorem dX11_ahead_89 : decode cX11_ahead 89 = .ok (.getfield 29, 3) := by decide +kernel
theorem dX11_ahead_92 : decode cX11_ahead 92 = .ok (.getfield 182, 3) := by decide +kernel
theorem dX11_ahead_95 : decode cX11_ahead 95 = .ok (.invokestatic 210, 3) := by decide +kernel
theorem dX11_ahead_98 : decode cX11_ahead 98 = .ok (.ireturn, 1) := by decide +kernel
theorem dX11_ahead_99 : decode cX11_ahead 99 = .ok (.aload_n 0, 1) := by decide +kernel
theorem dX11_ahead_100 : decode cX11_ahead 100 = .ok (.getfield 29, 3) := by decide +kernel
theorem dX11_ahead_103 : decode cX11_ahead 103 = .ok (.getfield 217, 3) := by decide +kernel
theorem dX11_ahead_106 : decode cX11_ahead 106 = .ok (.ireturn, 1) := by decide +kernel
theorem dX11_when_0 : decode cX11_when 0 = .ok (.aload_n 0, 1) := by decide +kernel
theorem dX11_when_1 : decode cX11_when 1 = .ok (.iload_n 1, 1) := by decide +kernel
theorem dX11_when_2 : decode cX11_when 2 = .ok (.invokevirtual 169, 3) := by decide +kernel
theorem dX11_when_5 : decode cX11_when 5 = .ok (.ifCond .ne 6, 3) := by decide +kernel
theorem dX11_when_8 : decode cX11_when 8 = .ok (.ldc 84, 2) := by decide +kernel
theorem dX11_when_10 : decode cX11_when 10 = .ok (.ireturn, 1) := by decide +kernel
theorem dX11_when_11 : decode cX11_when 11 = .ok (.aload_n 0, 1) := by decide +kernel
theorem dX11_when_12 : decode cX11_when 12 = .ok (.getfield 29, 3) := by decide +kernel
theorem dX11_when_15 : decode cX11_when 15 = .ok (.aload_n 0, 1) := by decide +kernel
theorem dX11_when_16 : decode cX11_when 16 = .ok (.getfield 25, 3) := by decide +kernel
theorem dX11_when_19 : decode cX11_when 19 = .ok (.invokevirtual 143, 3) := by decide +kernel
theorem dX11_when_22 : decode cX11_when 22 = .ok (.aload_n 0, 1) := by decide +kernel
theorem dX11_when_23 : decode cX11_when 23 = .ok (.getfield 29, 3) := by decide +kernel
theorem dX11_when_26 : decode cX11_when 26 = .ok (.iload_n 1, 1) := by decide +kernel
theorem dX11_when_27 : decode cX11_when 27 = .ok (.bipush 99, 2) := by decide +kernel
theorem dX11_when_29 : decode cX11_when 29 = .ok (.invokevirtual 223, 3) := by decide +kernel
theorem dX11_when_32 : decode cX11_when 32 = .ok (.invokestatic 210, 3) := by decide +kernel
theorem dX11_when_35 : decode cX11_when 35 = .ok (.ireturn, 1) := by decide +kernel
theorem dX11_first_0 : decode cX11_first 0 = .ok (.aload_n 0, 1) := by decide +kernel
theorem dX11_first_1 : decode cX11_first 1 = .ok (.getfield 149, 3) := by decide +kernel
theorem dX11_first_4 : decode cX11_first 4 = .ok (.ifCond .ne 6, 3) := by decide +kernel
theorem dX11_first_7 : decode cX11_first 7 = .ok (.ldc 156, 2) := by decide +kernel
theorem dX11_first_9 : decode cX11_first 9 = .ok (.ireturn, 1) := by decide +kernel
theorem dX11_first_10 : decode cX11_first 10 = .ok (.iload_n 1, 1) := by decide +kernel
theorem dX11_first_11 : decode cX11_first 11 = .ok (.iconst 0, 1) := by decide +kernel
theorem dX11_first_12 : decode cX11_first 12 = .ok (.iconst 1, 1) := by decide +kernel
theorem dX11_first_13 : decode cX11_first 13 = .ok (.invokestatic 80, 3) := by decide +kernel
theorem dX11_first_16 : decode cX11_first 16 = .ok (.ifCond .ne 6, 3) := by decide +kernel
theorem dX11_first_19 : decode cX11_first 19 = .ok (.ldc 84, 2) := by decide +kernel
theorem dX11_first_21 : decode cX11_first 21 = .ok (.ireturn, 1) := by decide +kernel
theorem dX11_first_22 : decode cX11_first 22 = .ok (.aload_n 0, 1) := by decide +kernel
theorem dX11_first_23 : decode cX11_first 23 = .ok (.getfield 29, 3) := by decide +kernel
theorem dX11_first_26 : decode cX11_first 26 = .ok (.aload_n 0, 1) := by decide +kernel
theorem dX11_first_27 : decode cX11_first 27 = .ok (.getfield 25, 3) := by decide +kernel
theorem dX11_first_30 : decode cX11_first 30 = .ok (.invokevirtual 143, 3) := by decide +kernel
theorem dX11_first_33 : decode cX11_first 33 = .ok (.iconst 1, 1) := by decide +kernel
theorem dX11_first_34 : decode cX11_first 34 = .ok (.istore_n 2, 1) := by decide +kernel
theorem dX11_first_35 : decode cX11_first 35 = .ok (.iload_n 2, 1) := by decide +kernel
theorem dX11_first_36 : decode cX11_first 36 = .ok (.bipush 99, 2) := by decide +kernel
theorem dX11_first_38 : decode cX11_first 38 = .ok (.if_icmp .gt 51, 3) := by decide +kernel
theorem dX11_first_41 : decode cX11_first 41 = .ok (.aload_n 0, 1) := by decide +kernel
theorem dX11_first_42 : decode cX11_first 42 = .ok (.getfield 29, 3) := by decide +kernel
theorem dX11_first_45 : decode cX11_first 45 = .ok (.getfield 182, 3) := by decide +kernel
theorem dX11_first_48 : decode cX11_first 48 = .ok (.istore_n 3, 1) := by decide +kernel
theorem dX11_first_49 : decode cX11_first 49 = .ok (.aload_n 0, 1) := by decide +kernel
theorem dX11_first_50 : decode cX11_first 50 = .ok (.getfield 29, 3) := by decide +kernel
theorem dX11_first_53 : decode cX11_first 53 = .ok (.invokevirtual 163, 3) := by decide +kernel
theorem dX11_first_56 : decode cX11_first 56 = .ok (.aload_n 0, 1) := by decide +kernel
theorem dX11_first_57 : decode cX11_first 57 = .ok (.getfield 29, 3) := by decide +kernel
theorem dX11_first_60 : decode cX11_first 60 = .ok (.getfield 217, 3) := by decide +kernel
theorem dX11_first_63 : decode cX11_first 63 = .ok (.aload_n 0, 1) := by decide +kernel
theorem dX11_first_64 : decode cX11_first 64 = .ok (.getfield 25, 3) := by decide +kernel
theorem dX11_first_67 : decode cX11_first 67 = .ok (.getfield 217, 3) := by decide +kernel
theorem dX11_first_70 : decode cX11_first 70 = .ok (.if_icmp .eq 13, 3) := by decide +kernel
theorem dX11_first_73 : decode cX11_first 73 = .ok (.iload_n 1, 1) := by decide +kernel
theorem dX11_first_74 : decode cX11_first 74 = .ok (.ifCond .ne 7, 3) := by decide +kernel
theorem dX11_first_77 : decode cX11_first 77 = .ok (.iload_n 3, 1) := by decide +kernel
theorem dX11_first_78 : decode cX11_first 78 = .ok (.goto 4, 3) := by decide +kernel
theorem dX11_first_81 : decode cX11_first 81 = .ok (.iload_n 2, 1) := by decide +kernel
theorem dX11_first_82 : decode cX11_first 82 = .ok (.ireturn, 1) := by decide +kernel
theorem dX11_first_83 : decode cX11_first 83 = .ok (.iinc 2 1, 3) := by decide +kernel
theorem dX11_first_86 : decode cX11_first 86 = .ok (.goto (-51), 3) := by decide +kernel
theorem dX11_first_89 : decode cX11_first 89 = .ok (.ldc 226, 2) := by decide +kernel
theorem dX11_first_91 : decode cX11_first 91 = .ok (.ireturn, 1) := by decide +kernel
theorem dX11_never_0 : decode cX11_never 0 = .ok (.aload_n 0, 1) := by decide +kernel
theorem dX11_never_1 : decode cX11_never 1 = .ok (.getfield 149, 3) := by decide +kernel
theorem dX11_never_4 : decode cX11_never 4 = .ok (.ifCond .ne 6, 3) := by decide +kernel
theorem dX11_never_7 : decode cX11_never 7 = .ok (.ldc 156, 2) := by decide +kernel
theorem dX11_never_9 : decode cX11_never 9 = .ok (.ireturn, 1) := by decide +kernel
theorem dX11_never_10 : decode cX11_never 10 = .ok (.aload_n 0, 1) := by decide +kernel
theorem dX11_never_11 : decode cX11_never 11 = .ok (.getfield 29, 3) := by decide +kernel
theorem dX11_never_14 : decode cX11_never 14 = .ok (.aload_n 0, 1) := by decide +kernel
theorem dX11_never_15 : decode cX11_never 15 = .ok (.getfield 25, 3) := by decide +kernel
theorem dX11_never_18 : decode cX11_never 18 = .ok (.invokevirtual 143, 3) := by decide +kernel
theorem dX11_never_21 : decode cX11_never 21 = .ok (.aload_n 0, 1) := by decide +kernel
theorem dX11_never_22 : decode cX11_never 22 = .ok (.getfield 29, 3) := by decide +kernel
theorem dX11_never_25 : decode cX11_never 25 = .ok (.bipush 99, 2) := by decide +kernel
theorem dX11_never_27 : decode cX11_never 27 = .ok (.invokevirtual 220, 3) := by decide +kernel
theorem dX11_never_30 : decode cX11_never 30 = .ok (.pop, 1) := by decide +kernel
theorem dX11_never_31 : decode cX11_never 31 = .ok (.iconst 1, 1) := by decide +kernel
theorem dX11_never_32 : decode cX11_never 32 = .ok (.aload_n 0, 1) := by decide +kernel
theorem dX11_never_33 : decode cX11_never 33 = .ok (.getfield 25, 3) := by decide +kernel
theorem dX11_never_36 : decode cX11_never 36 = .ok (.getfield 153, 3) := by decide +kernel
theorem dX11_never_39 : decode cX11_never 39 = .ok (.ishl, 1) := by decide +kernel
theorem dX11_never_40 : decode cX11_never 40 = .ok (.iconst 1, 1) := by decide +kernel
theorem dX11_never_41 : decode cX11_never 41 = .ok (.isub, 1) := by decide +kernel
theorem dX11_never_42 : decode cX11_never 42 = .ok (.aload_n 0, 1) := by decide +kernel
theorem dX11_never_43 : decode cX11_never 43 = .ok (.getfield 29, 3) := by decide +kernel
theorem dX11_never_46 : decode cX11_never 46 = .ok (.getfield 217, 3) := by decide +kernel
theorem dX11_never_49 : decode cX11_never 49 = .ok (.iconst (-1), 1) := by decide +kernel
theorem dX11_never_50 : decode cX11_never 50 = .ok (.ixor, 1) := by decide +kernel
theorem dX11_never_51 : decode cX11_never 51 = .ok (.iand, 1) := by decide +kernel
theorem dX11_never_52 : decode cX11_never 52 = .ok (.ireturn, 1) := by decide +kernel
theorem dX11_least_0 : decode cX11_least 0 = .ok (.aload_n 0, 1) := by decide +kernel
theorem dX11_least_1 : decode cX11_least 1 = .ok (.iload_n 1, 1) := by decide +kernel
theorem dX11_least_2 : decode cX11_least 2 = .ok (.invokevirtual 169, 3) := by decide +kernel
theorem dX11_least_5 : decode cX11_least 5 = .ok (.ifCond .eq 13, 3) := by decide +kernel
theorem dX11_least_8 : decode cX11_least 8 = .ok (.iload_n 2, 1) := by decide +kernel
theorem dX11_least_9 : decode cX11_least 9 = .ok (.iconst 0, 1) := by decide +kernel
theorem dX11_least_10 : decode cX11_least 10 = .ok (.bipush 60, 2) := by decide +kernel
theorem dX11_least_12 : decode cX11_least 12 = .ok (.invokestatic 80, 3) := by decide +kernel
theorem dX11_least_15 : decode cX11_least 15 = .ok (.ifCond .ne 6, 3) := by decide +kernel
theorem dX11_least_18 : decode cX11_least 18 = .ok (.ldc 84, 2) := by decide +kernel
theorem dX11_least_20 : decode cX11_least 20 = .ok (.ireturn, 1) := by decide +kernel
theorem dX11_least_21 : decode cX11_least 21 = .ok (.aload_n 0, 1) := by decide +kernel
theorem dX11_least_22 : decode cX11_least 22 = .ok (.getfield 25, 3) := by decide +kernel
theorem dX11_least_25 : decode cX11_least 25 = .ok (.iload_n 1, 1) := by decide +kernel
theorem dX11_least_26 : decode cX11_least 26 = .ok (.invokevirtual 203, 3) := by decide +kernel
theorem dX11_least_29 : decode cX11_least 29 = .ok (.ifCond .eq 6, 3) := by decide +kernel
theorem dX11_least_32 : decode cX11_least 32 = .ok (.ldc 156, 2) := by decide +kernel
theorem dX11_least_34 : decode cX11_least 34 = .ok (.ireturn, 1) := by decide +kernel
theorem dX11_least_35 : decode cX11_least 35 = .ok (.iconst 0, 1) := by decide +kernel
theorem dX11_least_36 : decode cX11_least 36 = .ok (.istore_n 3, 1) := by decide +kernel
theorem dX11_least_37 : decode cX11_least 37 = .ok (.iload_n 3, 1) := by decide +kernel
theorem dX11_least_38 : decode cX11_least 38 = .ok (.bipush 9, 2) := by decide +kernel
theorem dX11_least_40 : decode cX11_least 40 = .ok (.if_icmp .gt 45, 3) := by decide +kernel
theorem dX11_least_43 : decode cX11_least 43 = .ok (.aload_n 0, 1) := by decide +kernel
theorem dX11_least_44 : decode cX11_least 44 = .ok (.getfield 29, 3) := by decide +kernel
theorem dX11_least_47 : decode cX11_least 47 = .ok (.aload_n 0, 1) := by decide +kernel
theorem dX11_least_48 : decode cX11_least 48 = .ok (.getfield 25, 3) := by decide +kernel
theorem dX11_least_51 : decode cX11_least 51 = .ok (.invokevirtual 143, 3) := by decide +kernel
theorem dX11_least_54 : decode cX11_least 54 = .ok (.aload_n 0, 1) := by decide +kernel
theorem dX11_least_55 : decode cX11_least 55 = .ok (.getfield 29, 3) := by decide +kernel
theorem dX11_least_58 : decode cX11_least 58 = .ok (.iconst 3, 1) := by decide +kernel
theorem dX11_least_59 : decode cX11_least 59 = .ok (.iload_n 1, 1) := by decide +kernel
theorem dX11_least_60 : decode cX11_least 60 = .ok (.iload_n 3, 1) := by decide +kernel
theorem dX11_least_61 : decode cX11_least 61 = .ok (.invokevirtual 175, 3) := by decide +kernel
theorem dX11_least_64 : decode cX11_least 64 = .ok (.aload_n 0, 1) := by decide +kernel
theorem dX11_least_65 : decode cX11_least 65 = .ok (.getfield 29, 3) := by decide +kernel
theorem dX11_least_68 : decode cX11_least 68 = .ok (.iload_n 1, 1) := by decide +kernel
theorem dX11_least_69 : decode cX11_least 69 = .ok (.iload_n 2, 1) := by decide +kernel
theorem dX11_least_70 : decode cX11_least 70 = .ok (.invokevirtual 223, 3) := by decide +kernel
theorem dX11_least_73 : decode cX11_least 73 = .ok (.iconst (-1), 1) := by decide +kernel
theorem dX11_least_74 : decode cX11_least 74 = .ok (.if_icmp .eq 5, 3) := by decide +kernel
theorem dX11_least_77 : decode cX11_least 77 = .ok (.iload_n 3, 1) := by decide +kernel
theorem dX11_least_78 : decode cX11_least 78 = .ok (.ireturn, 1) := by decide +kernel
theorem dX11_least_79 : decode cX11_least 79 = .ok (.iinc 3 1, 3) := by decide +kernel
theorem dX11_least_82 : decode cX11_least 82 = .ok (.goto (-45), 3) := by decide +kernel
theorem dX11_least_85 : decode cX11_least 85 = .ok (.ldc 226, 2) := by decide +kernel
theorem dX11_least_87 : decode cX11_least 87 = .ok (.ireturn, 1) := by decide +kernel
theorem dX11_hide_0 : decode cX11_hide 0 = .ok (.aload_n 0, 1) := by decide +kernel
theorem dX11_hide_1 : decode cX11_hide 1 = .ok (.getfield 149, 3) := by decide +kernel
theorem dX11_hide_4 : decode cX11_hide 4 = .ok (.ifCond .ne 6, 3) := by decide +kernel
theorem dX11_hide_7 : decode cX11_hide 7 = .ok (.ldc 156, 2) := by decide +kernel
theorem dX11_hide_9 : decode cX11_hide 9 = .ok (.ireturn, 1) := by decide +kernel
theorem dX11_hide_10 : decode cX11_hide 10 = .ok (.iload_n 1, 1) := by decide +kernel
theorem dX11_hide_11 : decode cX11_hide 11 = .ok (.iconst 0, 1) := by decide +kernel
theorem dX11_hide_12 : decode cX11_hide 12 = .ok (.iconst 1, 1) := by decide +kernel
theorem dX11_hide_13 : decode cX11_hide 13 = .ok (.invokestatic 80, 3) := by decide +kernel
theorem dX11_hide_16 : decode cX11_hide 16 = .ok (.ifCond .ne 6, 3) := by decide +kernel
theorem dX11_hide_19 : decode cX11_hide 19 = .ok (.ldc 84, 2) := by decide +kernel
theorem dX11_hide_21 : decode cX11_hide 21 = .ok (.ireturn, 1) := by decide +kernel
theorem dX11_hide_22 : decode cX11_hide 22 = .ok (.iconst 0, 1) := by decide +kernel
theorem dX11_hide_23 : decode cX11_hide 23 = .ok (.istore_n 2, 1) := by decide +kernel
theorem dX11_hide_24 : decode cX11_hide 24 = .ok (.aload_n 0, 1) := by decide +kernel
theorem dX11_hide_25 : decode cX11_hide 25 = .ok (.iconst 0, 1) := by decide +kernel
theorem dX11_hide_26 : decode cX11_hide 26 = .ok (.invokevirtual 227, 3) := by decide +kernel
theorem dX11_hide_29 : decode cX11_hide 29 = .ok (.istore_n 3, 1) := by decide +kernel
theorem dX11_hide_30 : decode cX11_hide 30 = .ok (.iconst 1, 1) := by decide +kernel
theorem dX11_hide_31 : decode cX11_hide 31 = .ok (.aload_n 0, 1) := by decide +kernel
theorem dX11_hide_32 : decode cX11_hide 32 = .ok (.getfield 25, 3) := by decide +kernel
theorem dX11_hide_35 : decode cX11_hide 35 = .ok (.getfield 153, 3) := by decide +kernel
theorem dX11_hide_38 : decode cX11_hide 38 = .ok (.ishl, 1) := by decide +kernel
theorem dX11_hide_39 : decode cX11_hide 39 = .ok (.istore 4, 2) := by decide +kernel
theorem dX11_hide_41 : decode cX11_hide 41 = .ok (.iconst 1, 1) := by decide +kernel
theorem dX11_hide_42 : decode cX11_hide 42 = .ok (.istore 5, 2) := by decide +kernel
theorem dX11_hide_44 : decode cX11_hide 44 = .ok (.iload 5, 2) := by decide +kernel
theorem dX11_hide_46 : decode cX11_hide 46 = .ok (.iload 4, 2) := by decide +kernel
theorem dX11_hide_48 : decode cX11_hide 48 = .ok (.if_icmp .ge 29, 3) := by decide +kernel
theorem dX11_hide_51 : decode cX11_hide 51 = .ok (.aload_n 0, 1) := by decide +kernel
theorem dX11_hide_52 : decode cX11_hide 52 = .ok (.iload 5, 2) := by decide +kernel
theorem dX11_hide_54 : decode cX11_hide 54 = .ok (.invokevirtual 227, 3) := by decide +kernel
theorem dX11_hide_57 : decode cX11_hide 57 = .ok (.istore 6, 2) := by decide +kernel
theorem dX11_hide_59 : decode cX11_hide 59 = .ok (.iload 6, 2) := by decide +kernel
theorem dX11_hide_61 : decode cX11_hide 61 = .ok (.iload_n 3, 1) := by decide +kernel
theorem dX11_hide_62 : decode cX11_hide 62 = .ok (.if_icmp .le 9, 3) := by decide +kernel
theorem dX11_hide_65 : decode cX11_hide 65 = .ok (.iload 5, 2) := by decide +kernel
theorem dX11_hide_67 : decode cX11_hide 67 = .ok (.istore_n 2, 1) := by decide +kernel
theorem dX11_hide_68 : decode cX11_hide 68 = .ok (.iload 6, 2) := by decide +kernel
theorem dX11_hide_70 : decode cX11_hide 70 = .ok (.istore_n 3, 1) := by decide +kernel
theorem dX11_hide_71 : decode cX11_hide 71 = .ok (.iinc 5 1, 3) := by decide +kernel
theorem dX11_hide_74 : decode cX11_hide 74 = .ok (.goto (-30), 3) := by decide +kernel
theorem dX11_hide_77 : decode cX11_hide 77 = .ok (.iload_n 1, 1) := by decide +kernel
theorem dX11_hide_78 : decode cX11_hide 78 = .ok (.ifCond .ne 11, 3) := by decide +kernel
theorem dX11_hide_81 : decode cX11_hide 81 = .ok (.iload_n 3, 1) := by decide +kernel
theorem dX11_hide_82 : decode cX11_hide 82 = .ok (.sipush 1000, 3) := by decide +kernel
theorem dX11_hide_85 : decode cX11_hide 85 = .ok (.idiv, 1) := by decide +kernel
theorem dX11_hide_86 : decode cX11_hide 86 = .ok (.goto 4, 3) := by decide +kernel
theorem dX11_hide_89 : decode cX11_hide 89 = .ok (.iload_n 2, 1) := by decide +kernel
theorem dX11_hide_90 : decode cX11_hide 90 = .ok (.ireturn, 1) := by decide +kernel
theorem dX11_beside_0 : decode cX11_beside 0 = .ok (.aload_n 0, 1) := by decide +kernel
theorem dX11_beside_1 : decode cX11_beside 1 = .ok (.iload_n 1, 1) := by decide +kernel
theorem dX11_beside_2 : decode cX11_beside 2 = .ok (.invokevirtual 169, 3) := by decide +kernel
theorem dX11_beside_5 : decode cX11_beside 5 = .ok (.ifCond .eq 12, 3) := by decide +kernel
theorem dX11_beside_8 : decode cX11_beside 8 = .ok (.iload_n 2, 1) := by decide +kernel
theorem dX11_beside_9 : decode cX11_beside 9 = .ok (.iconst 0, 1) := by decide +kernel
theorem dX11_beside_10 : decode cX11_beside 10 = .ok (.iconst 1, 1) := by decide +kernel
theorem dX11_beside_11 : decode cX11_beside 11 = .ok (.invokestatic 80, 3) := by decide +kernel
theorem dX11_beside_14 : decode cX11_beside 14 = .ok (.ifCond .ne 6, 3) := by decide +kernel
theorem dX11_beside_17 : decode cX11_beside 17 = .ok (.ldc 84, 2) := by decide +kernel
theorem dX11_beside_19 : decode cX11_beside 19 = .ok (.ireturn, 1) := by decide +kernel
theorem dX11_beside_20 : decode cX11_beside 20 = .ok (.aload_n 0, 1) := by decide +kernel
theorem dX11_beside_21 : decode cX11_beside 21 = .ok (.getfield 25, 3) := by decide +kernel
theorem dX11_beside_24 : decode cX11_beside 24 = .ok (.getfield 182, 3) := by decide +kernel
theorem dX11_beside_27 : decode cX11_beside 27 = .ok (.iload_n 1, 1) := by decide +kernel
theorem dX11_beside_28 : decode cX11_beside 28 = .ok (.if_icmp .eq 14, 3) := by decide +kernel
theorem dX11_beside_31 : decode cX11_beside 31 = .ok (.aload_n 0, 1) := by decide +kernel
theorem dX11_beside_32 : decode cX11_beside 32 = .ok (.getfield 25, 3) := by decide +kernel
theorem dX11_beside_35 : decode cX11_beside 35 = .ok (.iload_n 1, 1) := by decide +kernel
theorem dX11_beside_36 : decode cX11_beside 36 = .ok (.invokevirtual 203, 3) := by decide +kernel
theorem dX11_beside_39 : decode cX11_beside 39 = .ok (.ifCond .eq 6, 3) := by decide +kernel
theorem dX11_beside_42 : decode cX11_beside 42 = .ok (.ldc 156, 2) := by decide +kernel
theorem dX11_beside_44 : decode cX11_beside 44 = .ok (.ireturn, 1) := by decide +kernel
theorem dX11_beside_45 : decode cX11_beside 45 = .ok (.ldc 226, 2) := by decide +kernel
theorem dX11_beside_47 : decode cX11_beside 47 = .ok (.istore_n 3, 1) := by decide +kernel
theorem dX11_beside_48 : decode cX11_beside 48 = .ok (.ldc 226, 2) := by decide +kernel
theorem dX11_beside_50 : decode cX11_beside 50 = .ok (.istore 4, 2) := by decide +kernel
theorem dX11_beside_52 : decode cX11_beside 52 = .ok (.iconst 0, 1) := by decide +kernel
theorem dX11_beside_53 : decode cX11_beside 53 = .ok (.istore 5, 2) := by decide +kernel
theorem dX11_beside_55 : decode cX11_beside 55 = .ok (.iload 5, 2) := by decide +kernel
theorem dX11_beside_57 : decode cX11_beside 57 = .ok (.aload_n 0, 1) := by decide +kernel
theorem dX11_beside_58 : decode cX11_beside 58 = .ok (.getfield 25, 3) := by decide +kernel
theorem dX11_beside_61 : decode cX11_beside 61 = .ok (.getfield 185, 3) := by decide +kernel
theorem dX11_beside_64 : decode cX11_beside 64 = .ok (.if_icmp .gt 69, 3) := by decide +kernel
theorem dX11_beside_67 : decode cX11_beside 67 = .ok (.aload_n 0, 1) := by decide +kernel
theorem dX11_beside_68 : decode cX11_beside 68 = .ok (.getfield 29, 3) := by decide +kernel
theorem dX11_beside_71 : decode cX11_beside 71 = .ok (.aload_n 0, 1) := by decide +kernel
theorem dX11_beside_72 : decode cX11_beside 72 = .ok (.getfield 25, 3) := by decide +kernel
theorem dX11_beside_75 : decode cX11_beside 75 = .ok (.invokevirtual 143, 3) := by decide +kernel
theorem dX11_beside_78 : decode cX11_beside 78 = .ok (.aload_n 0, 1) := by decide +kernel
theorem dX11_beside_79 : decode cX11_beside 79 = .ok (.getfield 29, 3) := by decide +kernel
theorem dX11_beside_82 : decode cX11_beside 82 = .ok (.iconst 1, 1) := by decide +kernel
theorem dX11_beside_83 : decode cX11_beside 83 = .ok (.iload_n 1, 1) := by decide +kernel
theorem dX11_beside_84 : decode cX11_beside 84 = .ok (.iload 5, 2) := by decide +kernel
theorem dX11_beside_86 : decode cX11_beside 86 = .ok (.invokevirtual 175, 3) := by decide +kernel
theorem dX11_beside_89 : decode cX11_beside 89 = .ok (.aload_n 0, 1) := by decide +kernel
theorem dX11_beside_90 : decode cX11_beside 90 = .ok (.getfield 29, 3) := by decide +kernel
theorem dX11_beside_93 : decode cX11_beside 93 = .ok (.iload_n 1, 1) := by decide +kernel
theorem dX11_beside_94 : decode cX11_beside 94 = .ok (.bipush 99, 2) := by decide +kernel
theorem dX11_beside_96 : decode cX11_beside 96 = .ok (.invokevirtual 223, 3) := by decide +kernel
theorem dX11_beside_99 : decode cX11_beside 99 = .ok (.istore 6, 2) := by decide +kernel
theorem dX11_beside_101 : decode cX11_beside 101 = .ok (.iload 6, 2) := by decide +kernel
theorem dX11_beside_103 : decode cX11_beside 103 = .ok (.iconst (-1), 1) := by decide +kernel
theorem dX11_beside_104 : decode cX11_beside 104 = .ok (.if_icmp .eq 23, 3) := by decide +kernel
theorem dX11_beside_107 : decode cX11_beside 107 = .ok (.iload_n 3, 1) := by decide +kernel
theorem dX11_beside_108 : decode cX11_beside 108 = .ok (.ldc 226, 2) := by decide +kernel
theorem dX11_beside_110 : decode cX11_beside 110 = .ok (.if_icmp .eq 10, 3) := by decide +kernel
theorem dX11_beside_113 : decode cX11_beside 113 = .ok (.iload 6, 2) := by decide +kernel
theorem dX11_beside_115 : decode cX11_beside 115 = .ok (.iload 4, 2) := by decide +kernel
theorem dX11_beside_117 : decode cX11_beside 117 = .ok (.if_icmp .ge 10, 3) := by decide +kernel
theorem dX11_beside_120 : decode cX11_beside 120 = .ok (.iload 5, 2) := by decide +kernel
theorem dX11_beside_122 : decode cX11_beside 122 = .ok (.istore_n 3, 1) := by decide +kernel
theorem dX11_beside_123 : decode cX11_beside 123 = .ok (.iload 6, 2) := by decide +kernel
theorem dX11_beside_125 : decode cX11_beside 125 = .ok (.istore 4, 2) := by decide +kernel
theorem dX11_beside_127 : decode cX11_beside 127 = .ok (.iinc 5 1, 3) := by decide +kernel
theorem dX11_beside_130 : decode cX11_beside 130 = .ok (.goto (-75), 3) := by decide +kernel
theorem dX11_beside_133 : decode cX11_beside 133 = .ok (.iload_n 2, 1) := by decide +kernel
theorem dX11_beside_134 : decode cX11_beside 134 = .ok (.ifCond .ne 7, 3) := by decide +kernel
theorem dX11_beside_137 : decode cX11_beside 137 = .ok (.iload_n 3, 1) := by decide +kernel
theorem dX11_beside_138 : decode cX11_beside 138 = .ok (.goto 5, 3) := by decide +kernel
theorem dX11_beside_141 : decode cX11_beside 141 = .ok (.iload 4, 2) := by decide +kernel
theorem dX11_beside_143 : decode cX11_beside 143 = .ok (.ireturn, 1) := by decide +kernel
theorem dX11_fits_0 : decode cX11_fits 0 = .ok (.aload_n 0, 1) := by decide +kernel
theorem dX11_fits_1 : decode cX11_fits 1 = .ok (.iload_n 1, 1) := by decide +kernel
theorem dX11_fits_2 : decode cX11_fits 2 = .ok (.invokevirtual 169, 3) := by decide +kernel
theorem dX11_fits_5 : decode cX11_fits 5 = .ok (.ifCond .eq 10, 3) := by decide +kernel
theorem dX11_fits_8 : decode cX11_fits 8 = .ok (.iload_n 2, 1) := by decide +kernel
theorem dX11_fits_9 : decode cX11_fits 9 = .ok (.invokestatic 76, 3) := by decide +kernel
theorem dX11_fits_12 : decode cX11_fits 12 = .ok (.ifCond .ne 6, 3) := by decide +kernel
theorem dX11_fits_15 : decode cX11_fits 15 = .ok (.ldc 84, 2) := by decide +kernel
theorem dX11_fits_17 : decode cX11_fits 17 = .ok (.ireturn, 1) := by decide +kernel
theorem dX11_fits_18 : decode cX11_fits 18 = .ok (.iload 4, 2) := by decide +kernel
theorem dX11_fits_20 : decode cX11_fits 20 = .ok (.iconst 1, 1) := by decide +kernel
theorem dX11_fits_21 : decode cX11_fits 21 = .ok (.bipush 16, 2) := by decide +kernel
theorem dX11_fits_23 : decode cX11_fits 23 = .ok (.invokestatic 80, 3) := by decide +kernel
theorem dX11_fits_26 : decode cX11_fits 26 = .ok (.ifCond .eq 13, 3) := by decide +kernel
theorem dX11_fits_29 : decode cX11_fits 29 = .ok (.iload 5, 2) := by decide +kernel
theorem dX11_fits_31 : decode cX11_fits 31 = .ok (.iconst 0, 1) := by decide +kernel
theorem dX11_fits_32 : decode cX11_fits 32 = .ok (.iconst 2, 1) := by decide +kernel
theorem dX11_fits_33 : decode cX11_fits 33 = .ok (.invokestatic 80, 3) := by decide +kernel
theorem dX11_fits_36 : decode cX11_fits 36 = .ok (.ifCond .ne 6, 3) := by decide +kernel
theorem dX11_fits_39 : decode cX11_fits 39 = .ok (.ldc 84, 2) := by decide +kernel
theorem dX11_fits_41 : decode cX11_fits 41 = .ok (.ireturn, 1) := by decide +kernel
theorem dX11_fits_42 : decode cX11_fits 42 = .ok (.aload_n 0, 1) := by decide +kernel
theorem dX11_fits_43 : decode cX11_fits 43 = .ok (.getfield 11, 3) := by decide +kernel
theorem dX11_fits_46 : decode cX11_fits 46 = .ok (.iload_n 2, 1) := by decide +kernel
theorem dX11_fits_47 : decode cX11_fits 47 = .ok (.aaload, 1) := by decide +kernel
theorem dX11_fits_48 : decode cX11_fits 48 = .ok (.astore 6, 2) := by decide +kernel
theorem dX11_fits_50 : decode cX11_fits 50 = .ok (.aload 6, 2) := by decide +kernel
theorem dX11_fits_52 : decode cX11_fits 52 = .ok (.invokevirtual 96, 3) := by decide +kernel
theorem dX11_fits_55 : decode cX11_fits 55 = .ok (.ifCond .eq 9, 3) := by decide +kernel
theorem dX11_fits_58 : decode cX11_fits 58 = .ok (.aload_n 0, 1) := by decide +kernel
theorem dX11_fits_59 : decode cX11_fits 59 = .ok (.iconst 1, 1) := by decide +kernel
theorem dX11_fits_60 : decode cX11_fits 60 = .ok (.invokevirtual 85, 3) := by decide +kernel
theorem dX11_fits_63 : decode cX11_fits 63 = .ok (.ireturn, 1) := by decide +kernel
theorem dX11_fits_64 : decode cX11_fits 64 = .ok (.aload 6, 2) := by decide +kernel
theorem dX11_fits_66 : decode cX11_fits 66 = .ok (.iload_n 3, 1) := by decide +kernel
theorem dX11_fits_67 : decode cX11_fits 67 = .ok (.iload 4, 2) := by decide +kernel
theorem dX11_fits_69 : decode cX11_fits 69 = .ok (.invokevirtual 100, 3) := by decide +kernel
theorem dX11_fits_72 : decode cX11_fits 72 = .ok (.ifCond .ne 9, 3) := by decide +kernel
theorem dX11_fits_75 : decode cX11_fits 75 = .ok (.aload_n 0, 1) := by decide +kernel
theorem dX11_fits_76 : decode cX11_fits 76 = .ok (.iconst 2, 1) := by decide +kernel
theorem dX11_fits_77 : decode cX11_fits 77 = .ok (.invokevirtual 85, 3) := by decide +kernel
theorem dX11_fits_80 : decode cX11_fits 80 = .ok (.ireturn, 1) := by decide +kernel
theorem dX11_fits_81 : decode cX11_fits 81 = .ok (.iload 5, 2) := by decide +kernel
theorem dX11_fits_83 : decode cX11_fits 83 = .ok (.lookupswitch 57 #[(0, 25), (1, 41)], 25) := by decide +kernel
theorem dX11_fits_108 : decode cX11_fits 108 = .ok (.aload_n 0, 1) := by decide +kernel
theorem dX11_fits_109 : decode cX11_fits 109 = .ok (.aload_n 0, 1) := by decide +kernel
theorem dX11_fits_110 : decode cX11_fits 110 = .ok (.iload_n 1, 1) := by decide +kernel
theorem dX11_fits_111 : decode cX11_fits 111 = .ok (.iconst 0, 1) := by decide +kernel
theorem dX11_fits_112 : decode cX11_fits 112 = .ok (.aload 6, 2) := by decide +kernel
theorem dX11_fits_114 : decode cX11_fits 114 = .ok (.iload_n 3, 1) := by decide +kernel
theorem dX11_fits_115 : decode cX11_fits 115 = .ok (.iload 4, 2) := by decide +kernel
theorem dX11_fits_117 : decode cX11_fits 117 = .ok (.invokevirtual 230, 3) := by decide +kernel
theorem dX11_fits_120 : decode cX11_fits 120 = .ok (.invokevirtual 93, 3) := by decide +kernel
theorem dX11_fits_123 : decode cX11_fits 123 = .ok (.ireturn, 1) := by decide +kernel
theorem dX11_fits_124 : decode cX11_fits 124 = .ok (.aload_n 0, 1) := by decide +kernel
theorem dX11_fits_125 : decode cX11_fits 125 = .ok (.aload_n 0, 1) := by decide +kernel
theorem dX11_fits_126 : decode cX11_fits 126 = .ok (.iload_n 1, 1) := by decide +kernel
theorem dX11_fits_127 : decode cX11_fits 127 = .ok (.iconst 3, 1) := by decide +kernel
theorem dX11_fits_128 : decode cX11_fits 128 = .ok (.aload 6, 2) := by decide +kernel
theorem dX11_fits_130 : decode cX11_fits 130 = .ok (.iload_n 3, 1) := by decide +kernel
theorem dX11_fits_131 : decode cX11_fits 131 = .ok (.iload 4, 2) := by decide +kernel
theorem dX11_fits_133 : decode cX11_fits 133 = .ok (.invokevirtual 230, 3) := by decide +kernel
theorem dX11_fits_136 : decode cX11_fits 136 = .ok (.invokevirtual 93, 3) := by decide +kernel
theorem dX11_fits_139 : decode cX11_fits 139 = .ok (.ireturn, 1) := by decide +kernel
theorem dX11_fits_140 : decode cX11_fits 140 = .ok (.aload_n 0, 1) := by decide +kernel
theorem dX11_fits_141 : decode cX11_fits 141 = .ok (.aload_n 0, 1) := by decide +kernel
theorem dX11_fits_142 : decode cX11_fits 142 = .ok (.iload_n 1, 1) := by decide +kernel
theorem dX11_fits_143 : decode cX11_fits 143 = .ok (.iconst 2, 1) := by decide +kernel
theorem dX11_fits_144 : decode cX11_fits 144 = .ok (.aload 6, 2) := by decide +kernel
theorem dX11_fits_146 : decode cX11_fits 146 = .ok (.iload_n 3, 1) := by decide +kernel
theorem dX11_fits_147 : decode cX11_fits 147 = .ok (.iload 4, 2) := by decide +kernel
theorem dX11_fits_149 : decode cX11_fits 149 = .ok (.invokevirtual 230, 3) := by decide +kernel
theorem dX11_fits_152 : decode cX11_fits 152 = .ok (.invokevirtual 93, 3) := by decide +kernel
theorem dX11_fits_155 : decode cX11_fits 155 = .ok (.ireturn, 1) := by decide +kernel
theorem dX11_hidden_0 : decode cX11_hidden 0 = .ok (.aload_n 0, 1) := by decide +kernel
theorem dX11_hidden_1 : decode cX11_hidden 1 = .ok (.iload_n 1, 1) := by decide +kernel
theorem dX11_hidden_2 : decode cX11_hidden 2 = .ok (.invokevirtual 169, 3) := by decide +kernel
theorem dX11_hidden_5 : decode cX11_hidden 5 = .ok (.ifCond .eq 13, 3) := by decide +kernel
theorem dX11_hidden_8 : decode cX11_hidden 8 = .ok (.iload_n 2, 1) := by decide +kernel
theorem dX11_hidden_9 : decode cX11_hidden 9 = .ok (.iconst 0, 1) := by decide +kernel
theorem dX11_hidden_10 : decode cX11_hidden 10 = .ok (.bipush 60, 2) := by decide +kernel
theorem dX11_hidden_12 : decode cX11_hidden 12 = .ok (.invokestatic 80, 3) := by decide +kernel
theorem dX11_hidden_15 : decode cX11_hidden 15 = .ok (.ifCond .ne 6, 3) := by decide +kernel
theorem dX11_hidden_18 : decode cX11_hidden 18 = .ok (.ldc 84, 2) := by decide +kernel
theorem dX11_hidden_20 : decode cX11_hidden 20 = .ok (.ireturn, 1) := by decide +kernel
theorem dX11_hidden_21 : decode cX11_hidden 21 = .ok (.iload_n 3, 1) := by decide +kernel
theorem dX11_hidden_22 : decode cX11_hidden 22 = .ok (.iconst 0, 1) := by decide +kernel
theorem dX11_hidden_23 : decode cX11_hidden 23 = .ok (.bipush 10, 2) := by decide +kernel
theorem dX11_hidden_25 : decode cX11_hidden 25 = .ok (.invokestatic 80, 3) := by decide +kernel
theorem dX11_hidden_28 : decode cX11_hidden 28 = .ok (.ifCond .eq 13, 3) := by decide +kernel
theorem dX11_hidden_31 : decode cX11_hidden 31 = .ok (.iload 4, 2) := by decide +kernel
theorem dX11_hidden_33 : decode cX11_hidden 33 = .ok (.iconst 0, 1) := by decide +kernel
theorem dX11_hidden_34 : decode cX11_hidden 34 = .ok (.iconst 1, 1) := by decide +kernel
theorem dX11_hidden_35 : decode cX11_hidden 35 = .ok (.invokestatic 80, 3) := by decide +kernel
theorem dX11_hidden_38 : decode cX11_hidden 38 = .ok (.ifCond .ne 6, 3) := by decide +kernel
theorem dX11_hidden_41 : decode cX11_hidden 41 = .ok (.ldc 84, 2) := by decide +kernel
theorem dX11_hidden_43 : decode cX11_hidden 43 = .ok (.ireturn, 1) := by decide +kernel
theorem dX11_hidden_44 : decode cX11_hidden 44 = .ok (.aload_n 0, 1) := by decide +kernel
theorem dX11_hidden_45 : decode cX11_hidden 45 = .ok (.getfield 25, 3) := by decide +kernel
theorem dX11_hidden_48 : decode cX11_hidden 48 = .ok (.invokevirtual 234, 3) := by decide +kernel
theorem dX11_hidden_51 : decode cX11_hidden 51 = .ok (.istore 5, 2) := by decide +kernel
theorem dX11_hidden_53 : decode cX11_hidden 53 = .ok (.iload 5, 2) := by decide +kernel
theorem dX11_hidden_55 : decode cX11_hidden 55 = .ok (.invokestatic 237, 3) := by decide +kernel
theorem dX11_hidden_58 : decode cX11_hidden 58 = .ok (.istore 6, 2) := by decide +kernel
theorem dX11_hidden_60 : decode cX11_hidden 60 = .ok (.iconst 0, 1) := by decide +kernel
theorem dX11_hidden_61 : decode cX11_hidden 61 = .ok (.istore 7, 2) := by decide +kernel
theorem dX11_hidden_63 : decode cX11_hidden 63 = .ok (.iconst 0, 1) := by decide +kernel
theorem dX11_hidden_64 : decode cX11_hidden 64 = .ok (.istore 8, 2) := by decide +kernel
theorem dX11_hidden_66 : decode cX11_hidden 66 = .ok (.iload 8, 2) := by decide +kernel
theorem dX11_hidden_68 : decode cX11_hidden 68 = .ok (.iload 5, 2) := by decide +kernel
end
section
theorem dX11_hidden_70 : decode cX11_hidden 70 = .ok (.if_icmp .gt 74, 3) := by decide +kernel
theorem dX11_hidden_73 : decode cX11_hidden 73 = .ok (.iload 8, 2) := by decide +kernel
theorem dX11_hidden_75 : decode cX11_hidden 75 = .ok (.iload 5, 2) := by decide +kernel
theorem dX11_hidden_77 : decode cX11_hidden 77 = .ok (.iconst (-1), 1) := by decide +kernel
theorem dX11_hidden_78 : decode cX11_hidden 78 = .ok (.ixor, 1) := by decide +kernel
theorem dX11_hidden_79 : decode cX11_hidden 79 = .ok (.iand, 1) := by decide +kernel
theorem dX11_hidden_80 : decode cX11_hidden 80 = .ok (.ifCond .ne 58, 3) := by decide +kernel
theorem dX11_hidden_83 : decode cX11_hidden 83 = .ok (.iload 8, 2) := by decide +kernel
theorem dX11_hidden_85 : decode cX11_hidden 85 = .ok (.invokestatic 237, 3) := by decide +kernel
theorem dX11_hidden_88 : decode cX11_hidden 88 = .ok (.istore 9, 2) := by decide +kernel
theorem dX11_hidden_90 : decode cX11_hidden 90 = .ok (.iload_n 3, 1) := by decide +kernel
theorem dX11_hidden_91 : decode cX11_hidden 91 = .ok (.iload 9, 2) := by decide +kernel
theorem dX11_hidden_93 : decode cX11_hidden 93 = .ok (.invokestatic 242, 3) := by decide +kernel
theorem dX11_hidden_96 : decode cX11_hidden 96 = .ok (.bipush 10, 2) := by decide +kernel
theorem dX11_hidden_98 : decode cX11_hidden 98 = .ok (.iload_n 3, 1) := by decide +kernel
theorem dX11_hidden_99 : decode cX11_hidden 99 = .ok (.isub, 1) := by decide +kernel
theorem dX11_hidden_100 : decode cX11_hidden 100 = .ok (.iload 6, 2) := by decide +kernel
theorem dX11_hidden_102 : decode cX11_hidden 102 = .ok (.iload 9, 2) := by decide +kernel
theorem dX11_hidden_104 : decode cX11_hidden 104 = .ok (.isub, 1) := by decide +kernel
theorem dX11_hidden_105 : decode cX11_hidden 105 = .ok (.invokestatic 242, 3) := by decide +kernel
theorem dX11_hidden_108 : decode cX11_hidden 108 = .ok (.imul, 1) := by decide +kernel
theorem dX11_hidden_109 : decode cX11_hidden 109 = .ok (.istore 10, 2) := by decide +kernel
theorem dX11_hidden_111 : decode cX11_hidden 111 = .ok (.iload 7, 2) := by decide +kernel
theorem dX11_hidden_113 : decode cX11_hidden 113 = .ok (.iload 10, 2) := by decide +kernel
theorem dX11_hidden_115 : decode cX11_hidden 115 = .ok (.ifCond .eq 19, 3) := by decide +kernel
theorem dX11_hidden_118 : decode cX11_hidden 118 = .ok (.aload_n 0, 1) := by decide +kernel
theorem dX11_hidden_119 : decode cX11_hidden 119 = .ok (.iload_n 1, 1) := by decide +kernel
theorem dX11_hidden_120 : decode cX11_hidden 120 = .ok (.iload_n 2, 1) := by decide +kernel
theorem dX11_hidden_121 : decode cX11_hidden 121 = .ok (.iload 8, 2) := by decide +kernel
theorem dX11_hidden_123 : decode cX11_hidden 123 = .ok (.invokevirtual 245, 3) := by decide +kernel
theorem dX11_hidden_126 : decode cX11_hidden 126 = .ok (.ifCond .eq 8, 3) := by decide +kernel
theorem dX11_hidden_129 : decode cX11_hidden 129 = .ok (.iload 10, 2) := by decide +kernel
theorem dX11_hidden_131 : decode cX11_hidden 131 = .ok (.goto 4, 3) := by decide +kernel
theorem dX11_hidden_134 : decode cX11_hidden 134 = .ok (.iconst 0, 1) := by decide +kernel
theorem dX11_hidden_135 : decode cX11_hidden 135 = .ok (.iadd, 1) := by decide +kernel
theorem dX11_hidden_136 : decode cX11_hidden 136 = .ok (.istore 7, 2) := by decide +kernel
theorem dX11_hidden_138 : decode cX11_hidden 138 = .ok (.iinc 8 1, 3) := by decide +kernel
theorem dX11_hidden_141 : decode cX11_hidden 141 = .ok (.goto (-75), 3) := by decide +kernel
theorem dX11_hidden_144 : decode cX11_hidden 144 = .ok (.bipush 10, 2) := by decide +kernel
theorem dX11_hidden_146 : decode cX11_hidden 146 = .ok (.iload 6, 2) := by decide +kernel
theorem dX11_hidden_148 : decode cX11_hidden 148 = .ok (.invokestatic 242, 3) := by decide +kernel
theorem dX11_hidden_151 : decode cX11_hidden 151 = .ok (.istore 8, 2) := by decide +kernel
theorem dX11_hidden_153 : decode cX11_hidden 153 = .ok (.iload 7, 2) := by decide +kernel
theorem dX11_hidden_155 : decode cX11_hidden 155 = .ok (.iload 8, 2) := by decide +kernel
theorem dX11_hidden_157 : decode cX11_hidden 157 = .ok (.invokestatic 248, 3) := by decide +kernel
theorem dX11_hidden_160 : decode cX11_hidden 160 = .ok (.istore 9, 2) := by decide +kernel
theorem dX11_hidden_162 : decode cX11_hidden 162 = .ok (.iload 4, 2) := by decide +kernel
theorem dX11_hidden_164 : decode cX11_hidden 164 = .ok (.ifCond .ne 8, 3) := by decide +kernel
theorem dX11_hidden_167 : decode cX11_hidden 167 = .ok (.iload 7, 2) := by decide +kernel
theorem dX11_hidden_169 : decode cX11_hidden 169 = .ok (.goto 5, 3) := by decide +kernel
theorem dX11_hidden_172 : decode cX11_hidden 172 = .ok (.iload 8, 2) := by decide +kernel
theorem dX11_hidden_174 : decode cX11_hidden 174 = .ok (.iload 9, 2) := by decide +kernel
theorem dX11_hidden_176 : decode cX11_hidden 176 = .ok (.idiv, 1) := by decide +kernel
theorem dX11_hidden_177 : decode cX11_hidden 177 = .ok (.ireturn, 1) := by decide +kernel
theorem dX11_drawn_0 : decode cX11_drawn 0 = .ok (.aload_n 0, 1) := by decide +kernel
theorem dX11_drawn_1 : decode cX11_drawn 1 = .ok (.getfield 149, 3) := by decide +kernel
theorem dX11_drawn_4 : decode cX11_drawn 4 = .ok (.ifCond .ne 6, 3) := by decide +kernel
theorem dX11_drawn_7 : decode cX11_drawn 7 = .ok (.ldc 156, 2) := by decide +kernel
theorem dX11_drawn_9 : decode cX11_drawn 9 = .ok (.ireturn, 1) := by decide +kernel
theorem dX11_drawn_10 : decode cX11_drawn 10 = .ok (.iload_n 1, 1) := by decide +kernel
theorem dX11_drawn_11 : decode cX11_drawn 11 = .ok (.iconst 0, 1) := by decide +kernel
theorem dX11_drawn_12 : decode cX11_drawn 12 = .ok (.bipush 60, 2) := by decide +kernel
theorem dX11_drawn_14 : decode cX11_drawn 14 = .ok (.invokestatic 80, 3) := by decide +kernel
theorem dX11_drawn_17 : decode cX11_drawn 17 = .ok (.ifCond .eq 22, 3) := by decide +kernel
theorem dX11_drawn_20 : decode cX11_drawn 20 = .ok (.iload_n 2, 1) := by decide +kernel
theorem dX11_drawn_21 : decode cX11_drawn 21 = .ok (.iconst 1, 1) := by decide +kernel
theorem dX11_drawn_22 : decode cX11_drawn 22 = .ok (.ldc 251, 2) := by decide +kernel
theorem dX11_drawn_24 : decode cX11_drawn 24 = .ok (.invokestatic 80, 3) := by decide +kernel
theorem dX11_drawn_27 : decode cX11_drawn 27 = .ok (.ifCond .eq 12, 3) := by decide +kernel
theorem dX11_drawn_30 : decode cX11_drawn 30 = .ok (.iload_n 3, 1) := by decide +kernel
theorem dX11_drawn_31 : decode cX11_drawn 31 = .ok (.iconst 0, 1) := by decide +kernel
theorem dX11_drawn_32 : decode cX11_drawn 32 = .ok (.iconst 1, 1) := by decide +kernel
theorem dX11_drawn_33 : decode cX11_drawn 33 = .ok (.invokestatic 80, 3) := by decide +kernel
theorem dX11_drawn_36 : decode cX11_drawn 36 = .ok (.ifCond .ne 6, 3) := by decide +kernel
theorem dX11_drawn_39 : decode cX11_drawn 39 = .ok (.ldc 84, 2) := by decide +kernel
theorem dX11_drawn_41 : decode cX11_drawn 41 = .ok (.ireturn, 1) := by decide +kernel
theorem dX11_drawn_42 : decode cX11_drawn 42 = .ok (.aload_n 0, 1) := by decide +kernel
theorem dX11_drawn_43 : decode cX11_drawn 43 = .ok (.getfield 29, 3) := by decide +kernel
theorem dX11_drawn_46 : decode cX11_drawn 46 = .ok (.aload_n 0, 1) := by decide +kernel
theorem dX11_drawn_47 : decode cX11_drawn 47 = .ok (.getfield 25, 3) := by decide +kernel
theorem dX11_drawn_50 : decode cX11_drawn 50 = .ok (.invokevirtual 143, 3) := by decide +kernel
theorem dX11_drawn_53 : decode cX11_drawn 53 = .ok (.iload_n 2, 1) := by decide +kernel
theorem dX11_drawn_54 : decode cX11_drawn 54 = .ok (.i2l, 1) := by decide +kernel
theorem dX11_drawn_55 : decode cX11_drawn 55 = .ok (.lstore 4, 2) := by decide +kernel
theorem dX11_drawn_57 : decode cX11_drawn 57 = .ok (.iconst 0, 1) := by decide +kernel
theorem dX11_drawn_58 : decode cX11_drawn 58 = .ok (.istore 6, 2) := by decide +kernel
theorem dX11_drawn_60 : decode cX11_drawn 60 = .ok (.iload 6, 2) := by decide +kernel
theorem dX11_drawn_62 : decode cX11_drawn 62 = .ok (.iload_n 1, 1) := by decide +kernel
theorem dX11_drawn_63 : decode cX11_drawn 63 = .ok (.if_icmp .ge 37, 3) := by decide +kernel
theorem dX11_drawn_66 : decode cX11_drawn 66 = .ok (.lload 4, 2) := by decide +kernel
theorem dX11_drawn_68 : decode cX11_drawn 68 = .ok (.ldc2_w 252, 3) := by decide +kernel
theorem dX11_drawn_71 : decode cX11_drawn 71 = .ok (.lmul, 1) := by decide +kernel
theorem dX11_drawn_72 : decode cX11_drawn 72 = .ok (.ldc2_w 254, 3) := by decide +kernel
theorem dX11_drawn_75 : decode cX11_drawn 75 = .ok (.lrem, 1) := by decide +kernel
theorem dX11_drawn_76 : decode cX11_drawn 76 = .ok (.lstore 4, 2) := by decide +kernel
theorem dX11_drawn_78 : decode cX11_drawn 78 = .ok (.aload_n 0, 1) := by decide +kernel
theorem dX11_drawn_79 : decode cX11_drawn 79 = .ok (.getfield 29, 3) := by decide +kernel
theorem dX11_drawn_82 : decode cX11_drawn 82 = .ok (.lload 4, 2) := by decide +kernel
theorem dX11_drawn_84 : decode cX11_drawn 84 = .ok (.invokevirtual 256, 3) := by decide +kernel
theorem dX11_drawn_87 : decode cX11_drawn 87 = .ok (.aload_n 0, 1) := by decide +kernel
theorem dX11_drawn_88 : decode cX11_drawn 88 = .ok (.getfield 29, 3) := by decide +kernel
theorem dX11_drawn_91 : decode cX11_drawn 91 = .ok (.invokevirtual 163, 3) := by decide +kernel
theorem dX11_drawn_94 : decode cX11_drawn 94 = .ok (.iinc 6 1, 3) := by decide +kernel
theorem dX11_drawn_97 : decode cX11_drawn 97 = .ok (.goto (-37), 3) := by decide +kernel
theorem dX11_drawn_100 : decode cX11_drawn 100 = .ok (.iload_n 3, 1) := by decide +kernel
theorem dX11_drawn_101 : decode cX11_drawn 101 = .ok (.ifCond .ne 16, 3) := by decide +kernel
theorem dX11_drawn_104 : decode cX11_drawn 104 = .ok (.aload_n 0, 1) := by decide +kernel
theorem dX11_drawn_105 : decode cX11_drawn 105 = .ok (.getfield 29, 3) := by decide +kernel
theorem dX11_drawn_108 : decode cX11_drawn 108 = .ok (.getfield 217, 3) := by decide +kernel
theorem dX11_drawn_111 : decode cX11_drawn 111 = .ok (.invokestatic 237, 3) := by decide +kernel
theorem dX11_drawn_114 : decode cX11_drawn 114 = .ok (.goto 10, 3) := by decide +kernel
theorem dX11_drawn_117 : decode cX11_drawn 117 = .ok (.aload_n 0, 1) := by decide +kernel
theorem dX11_drawn_118 : decode cX11_drawn 118 = .ok (.getfield 29, 3) := by decide +kernel
theorem dX11_drawn_121 : decode cX11_drawn 121 = .ok (.getfield 166, 3) := by decide +kernel
theorem dX11_drawn_124 : decode cX11_drawn 124 = .ok (.ireturn, 1) := by decide +kernel
theorem dX11_image_0 : decode cX11_image 0 = .ok (.iload_n 1, 1) := by decide +kernel
theorem dX11_image_1 : decode cX11_image 1 = .ok (.iconst 0, 1) := by decide +kernel
theorem dX11_image_2 : decode cX11_image 2 = .ok (.iconst 1, 1) := by decide +kernel
theorem dX11_image_3 : decode cX11_image 3 = .ok (.invokestatic 80, 3) := by decide +kernel
theorem dX11_image_6 : decode cX11_image 6 = .ok (.ifCond .ne 6, 3) := by decide +kernel
theorem dX11_image_9 : decode cX11_image 9 = .ok (.ldc 84, 2) := by decide +kernel
theorem dX11_image_11 : decode cX11_image 11 = .ok (.ireturn, 1) := by decide +kernel
theorem dX11_image_12 : decode cX11_image 12 = .ok (.aload_n 0, 1) := by decide +kernel
theorem dX11_image_13 : decode cX11_image 13 = .ok (.getfield 149, 3) := by decide +kernel
theorem dX11_image_16 : decode cX11_image 16 = .ok (.ifCond .ne 6, 3) := by decide +kernel
theorem dX11_image_19 : decode cX11_image 19 = .ok (.ldc 156, 2) := by decide +kernel
theorem dX11_image_21 : decode cX11_image 21 = .ok (.ireturn, 1) := by decide +kernel
theorem dX11_image_22 : decode cX11_image 22 = .ok (.aload_n 0, 1) := by decide +kernel
theorem dX11_image_23 : decode cX11_image 23 = .ok (.getfield 32, 3) := by decide +kernel
theorem dX11_image_26 : decode cX11_image 26 = .ok (.iload_n 1, 1) := by decide +kernel
theorem dX11_image_27 : decode cX11_image 27 = .ok (.aaload, 1) := by decide +kernel
theorem dX11_image_28 : decode cX11_image 28 = .ok (.aload_n 0, 1) := by decide +kernel
theorem dX11_image_29 : decode cX11_image 29 = .ok (.getfield 25, 3) := by decide +kernel
theorem dX11_image_32 : decode cX11_image 32 = .ok (.invokevirtual 143, 3) := by decide +kernel
theorem dX11_image_35 : decode cX11_image 35 = .ok (.aload_n 0, 1) := by decide +kernel
theorem dX11_image_36 : decode cX11_image 36 = .ok (.getfield 36, 3) := by decide +kernel
theorem dX11_image_39 : decode cX11_image 39 = .ok (.iload_n 1, 1) := by decide +kernel
theorem dX11_image_40 : decode cX11_image 40 = .ok (.iconst 1, 1) := by decide +kernel
theorem dX11_image_41 : decode cX11_image 41 = .ok (.bastore, 1) := by decide +kernel
theorem dX11_image_42 : decode cX11_image 42 = .ok (.iconst 1, 1) := by decide +kernel
theorem dX11_image_43 : decode cX11_image 43 = .ok (.ireturn, 1) := by decide +kernel
theorem dX11_restore_0 : decode cX11_restore 0 = .ok (.iload_n 1, 1) := by decide +kernel
theorem dX11_restore_1 : decode cX11_restore 1 = .ok (.iconst 0, 1) := by decide +kernel
theorem dX11_restore_2 : decode cX11_restore 2 = .ok (.iconst 1, 1) := by decide +kernel
theorem dX11_restore_3 : decode cX11_restore 3 = .ok (.invokestatic 80, 3) := by decide +kernel
theorem dX11_restore_6 : decode cX11_restore 6 = .ok (.ifCond .ne 6, 3) := by decide +kernel
theorem dX11_restore_9 : decode cX11_restore 9 = .ok (.ldc 84, 2) := by decide +kernel
theorem dX11_restore_11 : decode cX11_restore 11 = .ok (.ireturn, 1) := by decide +kernel
theorem dX11_restore_12 : decode cX11_restore 12 = .ok (.aload_n 0, 1) := by decide +kernel
theorem dX11_restore_13 : decode cX11_restore 13 = .ok (.getfield 36, 3) := by decide +kernel
theorem dX11_restore_16 : decode cX11_restore 16 = .ok (.iload_n 1, 1) := by decide +kernel
theorem dX11_restore_17 : decode cX11_restore 17 = .ok (.baload, 1) := by decide +kernel
theorem dX11_restore_18 : decode cX11_restore 18 = .ok (.ifCond .ne 6, 3) := by decide +kernel
theorem dX11_restore_21 : decode cX11_restore 21 = .ok (.ldc 156, 2) := by decide +kernel
theorem dX11_restore_23 : decode cX11_restore 23 = .ok (.ireturn, 1) := by decide +kernel
theorem dX11_restore_24 : decode cX11_restore 24 = .ok (.aload_n 0, 1) := by decide +kernel
theorem dX11_restore_25 : decode cX11_restore 25 = .ok (.getfield 25, 3) := by decide +kernel
theorem dX11_restore_28 : decode cX11_restore 28 = .ok (.aload_n 0, 1) := by decide +kernel
theorem dX11_restore_29 : decode cX11_restore 29 = .ok (.getfield 32, 3) := by decide +kernel
theorem dX11_restore_32 : decode cX11_restore 32 = .ok (.iload_n 1, 1) := by decide +kernel
theorem dX11_restore_33 : decode cX11_restore 33 = .ok (.aaload, 1) := by decide +kernel
theorem dX11_restore_34 : decode cX11_restore 34 = .ok (.invokevirtual 143, 3) := by decide +kernel
theorem dX11_restore_37 : decode cX11_restore 37 = .ok (.aload_n 0, 1) := by decide +kernel
theorem dX11_restore_38 : decode cX11_restore 38 = .ok (.getfield 43, 3) := by decide +kernel
theorem dX11_restore_41 : decode cX11_restore 41 = .ok (.invokevirtual 146, 3) := by decide +kernel
theorem dX11_restore_44 : decode cX11_restore 44 = .ok (.iconst 1, 1) := by decide +kernel
theorem dX11_restore_45 : decode cX11_restore 45 = .ok (.ireturn, 1) := by decide +kernel
theorem dX11_kind_0 : decode cX11_kind 0 = .ok (.aload_n 0, 1) := by decide +kernel
theorem dX11_kind_1 : decode cX11_kind 1 = .ok (.iload_n 1, 1) := by decide +kernel
theorem dX11_kind_2 : decode cX11_kind 2 = .ok (.invokevirtual 169, 3) := by decide +kernel
theorem dX11_kind_5 : decode cX11_kind 5 = .ok (.ifCond .eq 15, 3) := by decide +kernel
theorem dX11_kind_8 : decode cX11_kind 8 = .ok (.aload_n 0, 1) := by decide +kernel
theorem dX11_kind_9 : decode cX11_kind 9 = .ok (.getfield 25, 3) := by decide +kernel
theorem dX11_kind_12 : decode cX11_kind 12 = .ok (.getfield 260, 3) := by decide +kernel
theorem dX11_kind_15 : decode cX11_kind 15 = .ok (.iload_n 1, 1) := by decide +kernel
theorem dX11_kind_16 : decode cX11_kind 16 = .ok (.iaload, 1) := by decide +kernel
theorem dX11_kind_17 : decode cX11_kind 17 = .ok (.goto 5, 3) := by decide +kernel
theorem dX11_kind_20 : decode cX11_kind 20 = .ok (.ldc 84, 2) := by decide +kernel
theorem dX11_kind_22 : decode cX11_kind 22 = .ok (.ireturn, 1) := by decide +kernel
theorem dX11_as_0 : decode cX11_as 0 = .ok (.aload_n 0, 1) := by decide +kernel
theorem dX11_as_1 : decode cX11_as 1 = .ok (.iload_n 1, 1) := by decide +kernel
theorem dX11_as_2 : decode cX11_as 2 = .ok (.invokevirtual 169, 3) := by decide +kernel
theorem dX11_as_5 : decode cX11_as 5 = .ok (.ifCond .eq 12, 3) := by decide +kernel
theorem dX11_as_8 : decode cX11_as 8 = .ok (.iload_n 2, 1) := by decide +kernel
theorem dX11_as_9 : decode cX11_as 9 = .ok (.iconst 0, 1) := by decide +kernel
theorem dX11_as_10 : decode cX11_as 10 = .ok (.iconst 5, 1) := by decide +kernel
theorem dX11_as_11 : decode cX11_as 11 = .ok (.invokestatic 80, 3) := by decide +kernel
theorem dX11_as_14 : decode cX11_as 14 = .ok (.ifCond .ne 6, 3) := by decide +kernel
theorem dX11_as_17 : decode cX11_as 17 = .ok (.ldc 84, 2) := by decide +kernel
theorem dX11_as_19 : decode cX11_as 19 = .ok (.ireturn, 1) := by decide +kernel
theorem dX11_as_20 : decode cX11_as 20 = .ok (.aload_n 0, 1) := by decide +kernel
theorem dX11_as_21 : decode cX11_as 21 = .ok (.iload_n 1, 1) := by decide +kernel
theorem dX11_as_22 : decode cX11_as 22 = .ok (.invokevirtual 263, 3) := by decide +kernel
theorem dX11_as_25 : decode cX11_as 25 = .ok (.iload_n 2, 1) := by decide +kernel
theorem dX11_as_26 : decode cX11_as 26 = .ok (.invokestatic 267, 3) := by decide +kernel
theorem dX11_as_29 : decode cX11_as 29 = .ok (.ifCond .ne 9, 3) := by decide +kernel
theorem dX11_as_32 : decode cX11_as 32 = .ok (.aload_n 0, 1) := by decide +kernel
theorem dX11_as_33 : decode cX11_as 33 = .ok (.iconst 3, 1) := by decide +kernel
theorem dX11_as_34 : decode cX11_as 34 = .ok (.invokevirtual 85, 3) := by decide +kernel
theorem dX11_as_37 : decode cX11_as 37 = .ok (.ireturn, 1) := by decide +kernel
theorem dX11_as_38 : decode cX11_as 38 = .ok (.aload_n 0, 1) := by decide +kernel
theorem dX11_as_39 : decode cX11_as 39 = .ok (.iload_n 1, 1) := by decide +kernel
theorem dX11_as_40 : decode cX11_as 40 = .ok (.invokevirtual 93, 3) := by decide +kernel
theorem dX11_as_43 : decode cX11_as 43 = .ok (.ireturn, 1) := by decide +kernel
theorem dX11_ask_0 : decode cX11_ask 0 = .ok (.aload_n 0, 1) := by decide +kernel
theorem dX11_ask_1 : decode cX11_ask 1 = .ok (.iload_n 1, 1) := by decide +kernel
theorem dX11_ask_2 : decode cX11_ask 2 = .ok (.invokevirtual 169, 3) := by decide +kernel
theorem dX11_ask_5 : decode cX11_ask 5 = .ok (.ifCond .eq 12, 3) := by decide +kernel
theorem dX11_ask_8 : decode cX11_ask 8 = .ok (.iload_n 2, 1) := by decide +kernel
theorem dX11_ask_9 : decode cX11_ask 9 = .ok (.iconst 0, 1) := by decide +kernel
theorem dX11_ask_10 : decode cX11_ask 10 = .ok (.iconst 1, 1) := by decide +kernel
theorem dX11_ask_11 : decode cX11_ask 11 = .ok (.invokestatic 80, 3) := by decide +kernel
theorem dX11_ask_14 : decode cX11_ask 14 = .ok (.ifCond .ne 6, 3) := by decide +kernel
theorem dX11_ask_17 : decode cX11_ask 17 = .ok (.ldc 84, 2) := by decide +kernel
theorem dX11_ask_19 : decode cX11_ask 19 = .ok (.ireturn, 1) := by decide +kernel
theorem dX11_ask_20 : decode cX11_ask 20 = .ok (.aload_n 0, 1) := by decide +kernel
theorem dX11_ask_21 : decode cX11_ask 21 = .ok (.getfield 71, 3) := by decide +kernel
theorem dX11_ask_24 : decode cX11_ask 24 = .ok (.iconst 0, 1) := by decide +kernel
theorem dX11_ask_25 : decode cX11_ask 25 = .ok (.putfield 271, 3) := by decide +kernel
theorem dX11_ask_28 : decode cX11_ask 28 = .ok (.aload_n 0, 1) := by decide +kernel
theorem dX11_ask_29 : decode cX11_ask 29 = .ok (.iload_n 1, 1) := by decide +kernel
theorem dX11_ask_30 : decode cX11_ask 30 = .ok (.invokevirtual 263, 3) := by decide +kernel
theorem dX11_ask_33 : decode cX11_ask 33 = .ok (.astore_n 3, 1) := by decide +kernel
theorem dX11_ask_34 : decode cX11_ask 34 = .ok (.iload_n 2, 1) := by decide +kernel
theorem dX11_ask_35 : decode cX11_ask 35 = .ok (.ifCond .ne 19, 3) := by decide +kernel
theorem dX11_ask_38 : decode cX11_ask 38 = .ok (.aload_n 3, 1) := by decide +kernel
theorem dX11_ask_39 : decode cX11_ask 39 = .ok (.aload_n 0, 1) := by decide +kernel
theorem dX11_ask_40 : decode cX11_ask 40 = .ok (.getfield 25, 3) := by decide +kernel
theorem dX11_ask_43 : decode cX11_ask 43 = .ok (.iload_n 1, 1) := by decide +kernel
theorem dX11_ask_44 : decode cX11_ask 44 = .ok (.aload_n 0, 1) := by decide +kernel
theorem dX11_ask_45 : decode cX11_ask 45 = .ok (.getfield 71, 3) := by decide +kernel
theorem dX11_ask_48 : decode cX11_ask 48 = .ok (.invokevirtual 272, 3) := by decide +kernel
theorem dX11_ask_51 : decode cX11_ask 51 = .ok (.goto 16, 3) := by decide +kernel
theorem dX11_ask_54 : decode cX11_ask 54 = .ok (.aload_n 3, 1) := by decide +kernel
theorem dX11_ask_55 : decode cX11_ask 55 = .ok (.aload_n 0, 1) := by decide +kernel
theorem dX11_ask_56 : decode cX11_ask 56 = .ok (.getfield 25, 3) := by decide +kernel
theorem dX11_ask_59 : decode cX11_ask 59 = .ok (.iload_n 1, 1) := by decide +kernel
theorem dX11_ask_60 : decode cX11_ask 60 = .ok (.aload_n 0, 1) := by decide +kernel
theorem dX11_ask_61 : decode cX11_ask 61 = .ok (.getfield 71, 3) := by decide +kernel
theorem dX11_ask_64 : decode cX11_ask 64 = .ok (.invokevirtual 276, 3) := by decide +kernel
theorem dX11_ask_67 : decode cX11_ask 67 = .ok (.ireturn, 1) := by decide +kernel
theorem dX11_trace_0 : decode cX11_trace 0 = .ok (.iload_n 1, 1) := by decide +kernel
theorem dX11_trace_1 : decode cX11_trace 1 = .ok (.iconst 0, 1) := by decide +kernel
theorem dX11_trace_2 : decode cX11_trace 2 = .ok (.aload_n 0, 1) := by decide +kernel
theorem dX11_trace_3 : decode cX11_trace 3 = .ok (.getfield 71, 3) := by decide +kernel
theorem dX11_trace_6 : decode cX11_trace 6 = .ok (.getfield 271, 3) := by decide +kernel
theorem dX11_trace_9 : decode cX11_trace 9 = .ok (.iconst 1, 1) := by decide +kernel
theorem dX11_trace_10 : decode cX11_trace 10 = .ok (.isub, 1) := by decide +kernel
theorem dX11_trace_11 : decode cX11_trace 11 = .ok (.invokestatic 80, 3) := by decide +kernel
theorem dX11_trace_14 : decode cX11_trace 14 = .ok (.ifCond .eq 15, 3) := by decide +kernel
theorem dX11_trace_17 : decode cX11_trace 17 = .ok (.aload_n 0, 1) := by decide +kernel
theorem dX11_trace_18 : decode cX11_trace 18 = .ok (.getfield 71, 3) := by decide +kernel
theorem dX11_trace_21 : decode cX11_trace 21 = .ok (.getfield 279, 3) := by decide +kernel
theorem dX11_trace_24 : decode cX11_trace 24 = .ok (.iload_n 1, 1) := by decide +kernel
theorem dX11_trace_25 : decode cX11_trace 25 = .ok (.iaload, 1) := by decide +kernel
theorem dX11_trace_26 : decode cX11_trace 26 = .ok (.goto 5, 3) := by decide +kernel
theorem dX11_trace_29 : decode cX11_trace 29 = .ok (.ldc 226, 2) := by decide +kernel
theorem dX11_trace_31 : decode cX11_trace 31 = .ok (.ireturn, 1) := by decide +kernel
theorem dX11_count_0 : decode cX11_count 0 = .ok (.iload_n 1, 1) := by decide +kernel
theorem dX11_count_1 : decode cX11_count 1 = .ok (.tableswitch 99 0 6 #[43, 48, 56, 64, 72, 83, 91], 43) := by decide +kernel
theorem dX11_count_44 : decode cX11_count 44 = .ok (.aload_n 0, 1) := by decide +kernel
theorem dX11_count_45 : decode cX11_count 45 = .ok (.invokevirtual 282, 3) := by decide +kernel
theorem dX11_count_48 : decode cX11_count 48 = .ok (.ireturn, 1) := by decide +kernel
theorem dX11_count_49 : decode cX11_count 49 = .ok (.aload_n 0, 1) := by decide +kernel
theorem dX11_count_50 : decode cX11_count 50 = .ok (.getfield 25, 3) := by decide +kernel
theorem dX11_count_53 : decode cX11_count 53 = .ok (.getfield 153, 3) := by decide +kernel
theorem dX11_count_56 : decode cX11_count 56 = .ok (.ireturn, 1) := by decide +kernel
theorem dX11_count_57 : decode cX11_count 57 = .ok (.aload_n 0, 1) := by decide +kernel
theorem dX11_count_58 : decode cX11_count 58 = .ok (.getfield 25, 3) := by decide +kernel
theorem dX11_count_61 : decode cX11_count 61 = .ok (.getfield 157, 3) := by decide +kernel
theorem dX11_count_64 : decode cX11_count 64 = .ok (.ireturn, 1) := by decide +kernel
theorem dX11_count_65 : decode cX11_count 65 = .ok (.aload_n 0, 1) := by decide +kernel
theorem dX11_count_66 : decode cX11_count 66 = .ok (.getfield 25, 3) := by decide +kernel
theorem dX11_count_69 : decode cX11_count 69 = .ok (.getfield 185, 3) := by decide +kernel
theorem dX11_count_72 : decode cX11_count 72 = .ok (.ireturn, 1) := by decide +kernel
theorem dX11_count_73 : decode cX11_count 73 = .ok (.aload_n 0, 1) := by decide +kernel
theorem dX11_count_74 : decode cX11_count 74 = .ok (.getfield 25, 3) := by decide +kernel
theorem dX11_count_77 : decode cX11_count 77 = .ok (.getfield 217, 3) := by decide +kernel
theorem dX11_count_80 : decode cX11_count 80 = .ok (.invokestatic 237, 3) := by decide +kernel
theorem dX11_count_83 : decode cX11_count 83 = .ok (.ireturn, 1) := by decide +kernel
theorem dX11_count_84 : decode cX11_count 84 = .ok (.aload_n 0, 1) := by decide +kernel
theorem dX11_count_85 : decode cX11_count 85 = .ok (.getfield 43, 3) := by decide +kernel
theorem dX11_count_88 : decode cX11_count 88 = .ok (.getfield 188, 3) := by decide +kernel
theorem dX11_count_91 : decode cX11_count 91 = .ok (.ireturn, 1) := by decide +kernel
theorem dX11_count_92 : decode cX11_count 92 = .ok (.aload_n 0, 1) := by decide +kernel
theorem dX11_count_93 : decode cX11_count 93 = .ok (.getfield 18, 3) := by decide +kernel
theorem dX11_count_96 : decode cX11_count 96 = .ok (.getfield 124, 3) := by decide +kernel
theorem dX11_count_99 : decode cX11_count 99 = .ok (.ireturn, 1) := by decide +kernel
theorem dX11_count_100 : decode cX11_count 100 = .ok (.ldc 84, 2) := by decide +kernel
theorem dX11_count_102 : decode cX11_count 102 = .ok (.ireturn, 1) := by decide +kernel
theorem dX11_status_0 : decode cX11_status 0 = .ok (.aload_n 0, 1) := by decide +kernel
theorem dX11_status_1 : decode cX11_status 1 = .ok (.getfield 285, 3) := by decide +kernel
theorem dX11_status_4 : decode cX11_status 4 = .ok (.ireturn, 1) := by decide +kernel
theorem dX11_isWithin_0 : decode cX11_isWithin 0 = .ok (.iload_n 0, 1) := by decide +kernel
theorem dX11_isWithin_1 : decode cX11_isWithin 1 = .ok (.iload_n 1, 1) := by decide +kernel
theorem dX11_isWithin_2 : decode cX11_isWithin 2 = .ok (.if_icmp .lt 12, 3) := by decide +kernel
theorem dX11_isWithin_5 : decode cX11_isWithin 5 = .ok (.iload_n 0, 1) := by decide +kernel
theorem dX11_isWithin_6 : decode cX11_isWithin 6 = .ok (.iload_n 2, 1) := by decide +kernel
theorem dX11_isWithin_7 : decode cX11_isWithin 7 = .ok (.if_icmp .gt 7, 3) := by decide +kernel
theorem dX11_isWithin_10 : decode cX11_isWithin 10 = .ok (.iconst 1, 1) := by decide +kernel
theorem dX11_isWithin_11 : decode cX11_isWithin 11 = .ok (.goto 4, 3) := by decide +kernel
theorem dX11_isWithin_14 : decode cX11_isWithin 14 = .ok (.iconst 0, 1) := by decide +kernel
theorem dX11_isWithin_15 : decode cX11_isWithin 15 = .ok (.ireturn, 1) := by decide +kernel
theorem dX11_isRow_0 : decode cX11_isRow 0 = .ok (.iload_n 0, 1) := by decide +kernel
theorem dX11_isRow_1 : decode cX11_isRow 1 = .ok (.iconst 0, 1) := by decide +kernel
theorem dX11_isRow_2 : decode cX11_isRow 2 = .ok (.bipush 7, 2) := by decide +kernel
theorem dX11_isRow_4 : decode cX11_isRow 4 = .ok (.invokestatic 80, 3) := by decide +kernel
theorem dX11_isRow_7 : decode cX11_isRow 7 = .ok (.ireturn, 1) := by decide +kernel
theorem dX11_isPerson_0 : decode cX11_isPerson 0 = .ok (.iload_n 1, 1) := by decide +kernel
theorem dX11_isPerson_1 : decode cX11_isPerson 1 = .ok (.iconst 0, 1) := by decide +kernel
theorem dX11_isPerson_2 : decode cX11_isPerson 2 = .ok (.aload_n 0, 1) := by decide +kernel
theorem dX11_isPerson_3 : decode cX11_isPerson 3 = .ok (.getfield 25, 3) := by decide +kernel
theorem dX11_isPerson_6 : decode cX11_isPerson 6 = .ok (.getfield 153, 3) := by decide +kernel
theorem dX11_isPerson_9 : decode cX11_isPerson 9 = .ok (.iconst 1, 1) := by decide +kernel
theorem dX11_isPerson_10 : decode cX11_isPerson 10 = .ok (.isub, 1) := by decide +kernel
theorem dX11_isPerson_11 : decode cX11_isPerson 11 = .ok (.invokestatic 80, 3) := by decide +kernel
theorem dX11_isPerson_14 : decode cX11_isPerson 14 = .ok (.ireturn, 1) := by decide +kernel
theorem dX11_kindOf_0 : decode cX11_kindOf 0 = .ok (.aload_n 0, 1) := by decide +kernel
theorem dX11_kindOf_1 : decode cX11_kindOf 1 = .ok (.getfield 64, 3) := by decide +kernel
theorem dX11_kindOf_4 : decode cX11_kindOf 4 = .ok (.aload_n 0, 1) := by decide +kernel
theorem dX11_kindOf_5 : decode cX11_kindOf 5 = .ok (.getfield 25, 3) := by decide +kernel
theorem dX11_kindOf_8 : decode cX11_kindOf 8 = .ok (.getfield 260, 3) := by decide +kernel
theorem dX11_kindOf_11 : decode cX11_kindOf 11 = .ok (.iload_n 1, 1) := by decide +kernel
theorem dX11_kindOf_12 : decode cX11_kindOf 12 = .ok (.iaload, 1) := by decide +kernel
theorem dX11_kindOf_13 : decode cX11_kindOf 13 = .ok (.iconst 1, 1) := by decide +kernel
theorem dX11_kindOf_14 : decode cX11_kindOf 14 = .ok (.isub, 1) := by decide +kernel
theorem dX11_kindOf_15 : decode cX11_kindOf 15 = .ok (.aaload, 1) := by decide +kernel
theorem dX11_kindOf_16 : decode cX11_kindOf 16 = .ok (.areturn, 1) := by decide +kernel
theorem dX11_found_0 : decode cX11_found 0 = .ok (.aload_n 0, 1) := by decide +kernel
theorem dX11_found_1 : decode cX11_found 1 = .ok (.iload_n 1, 1) := by decide +kernel
theorem dX11_found_2 : decode cX11_found 2 = .ok (.putfield 285, 3) := by decide +kernel
theorem dX11_found_5 : decode cX11_found 5 = .ok (.ldc_w 288, 3) := by decide +kernel
theorem dX11_found_8 : decode cX11_found 8 = .ok (.iload_n 1, 1) := by decide +kernel
theorem dX11_found_9 : decode cX11_found 9 = .ok (.isub, 1) := by decide +kernel
theorem dX11_found_10 : decode cX11_found 10 = .ok (.ireturn, 1) := by decide +kernel
theorem dX11_unhindered_0 : decode cX11_unhindered 0 = .ok (.aload_n 0, 1) := by decide +kernel
theorem dX11_unhindered_1 : decode cX11_unhindered 1 = .ok (.iconst 0, 1) := by decide +kernel
theorem dX11_unhindered_2 : decode cX11_unhindered 2 = .ok (.putfield 285, 3) := by decide +kernel
theorem dX11_unhindered_5 : decode cX11_unhindered 5 = .ok (.iload_n 1, 1) := by decide +kernel
theorem dX11_unhindered_6 : decode cX11_unhindered 6 = .ok (.ireturn, 1) := by decide +kernel
theorem dX11_orNone_0 : decode cX11_orNone 0 = .ok (.iload_n 0, 1) := by decide +kernel
theorem dX11_orNone_1 : decode cX11_orNone 1 = .ok (.ifCond .ge 8, 3) := by decide +kernel
theorem dX11_orNone_4 : decode cX11_orNone 4 = .ok (.ldc 226, 2) := by decide +kernel
theorem dX11_orNone_6 : decode cX11_orNone 6 = .ok (.goto 4, 3) := by decide +kernel
theorem dX11_orNone_9 : decode cX11_orNone 9 = .ok (.iload_n 0, 1) := by decide +kernel
theorem dX11_orNone_10 : decode cX11_orNone 10 = .ok (.ireturn, 1) := by decide +kernel
theorem dX11_rowsThere_0 : decode cX11_rowsThere 0 = .ok (.iconst 0, 1) := by decide +kernel
theorem dX11_rowsThere_1 : decode cX11_rowsThere 1 = .ok (.istore_n 1, 1) := by decide +kernel
theorem dX11_rowsThere_2 : decode cX11_rowsThere 2 = .ok (.iconst 0, 1) := by decide +kernel
theorem dX11_rowsThere_3 : decode cX11_rowsThere 3 = .ok (.istore_n 2, 1) := by decide +kernel
theorem dX11_rowsThere_4 : decode cX11_rowsThere 4 = .ok (.iload_n 2, 1) := by decide +kernel
theorem dX11_rowsThere_5 : decode cX11_rowsThere 5 = .ok (.bipush 8, 2) := by decide +kernel
theorem dX11_rowsThere_7 : decode cX11_rowsThere 7 = .ok (.if_icmp .ge 29, 3) := by decide +kernel
theorem dX11_rowsThere_10 : decode cX11_rowsThere 10 = .ok (.iload_n 1, 1) := by decide +kernel
theorem dX11_rowsThere_11 : decode cX11_rowsThere 11 = .ok (.aload_n 0, 1) := by decide +kernel
theorem dX11_rowsThere_12 : decode cX11_rowsThere 12 = .ok (.getfield 11, 3) := by decide +kernel
theorem dX11_rowsThere_15 : decode cX11_rowsThere 15 = .ok (.iload_n 2, 1) := by decide +kernel
theorem dX11_rowsThere_16 : decode cX11_rowsThere 16 = .ok (.aaload, 1) := by decide +kernel
theorem dX11_rowsThere_17 : decode cX11_rowsThere 17 = .ok (.invokevirtual 96, 3) := by decide +kernel
theorem dX11_rowsThere_20 : decode cX11_rowsThere 20 = .ok (.ifCond .eq 7, 3) := by decide +kernel
theorem dX11_rowsThere_23 : decode cX11_rowsThere 23 = .ok (.iconst 0, 1) := by decide +kernel
theorem dX11_rowsThere_24 : decode cX11_rowsThere 24 = .ok (.goto 4, 3) := by decide +kernel
theorem dX11_rowsThere_27 : decode cX11_rowsThere 27 = .ok (.iconst 1, 1) := by decide +kernel
theorem dX11_rowsThere_28 : decode cX11_rowsThere 28 = .ok (.iadd, 1) := by decide +kernel
theorem dX11_rowsThere_29 : decode cX11_rowsThere 29 = .ok (.istore_n 1, 1) := by decide +kernel
theorem dX11_rowsThere_30 : decode cX11_rowsThere 30 = .ok (.iinc 2 1, 3) := by decide +kernel
theorem dX11_rowsThere_33 : decode cX11_rowsThere 33 = .ok (.goto (-29), 3) := by decide +kernel
theorem dX11_rowsThere_36 : decode cX11_rowsThere 36 = .ok (.iload_n 1, 1) := by decide +kernel
theorem dX11_rowsThere_37 : decode cX11_rowsThere 37 = .ok (.ireturn, 1) := by decide +kernel
theorem dX11_worth_0 : decode cX11_worth 0 = .ok (.aload_n 0, 1) := by decide +kernel
theorem dX11_worth_1 : decode cX11_worth 1 = .ok (.getfield 29, 3) := by decide +kernel
theorem dX11_worth_4 : decode cX11_worth 4 = .ok (.aload_n 0, 1) := by decide +kernel
theorem dX11_worth_5 : decode cX11_worth 5 = .ok (.getfield 25, 3) := by decide +kernel
theorem dX11_worth_8 : decode cX11_worth 8 = .ok (.invokevirtual 143, 3) := by decide +kernel
theorem dX11_worth_11 : decode cX11_worth 11 = .ok (.aload_n 0, 1) := by decide +kernel
theorem dX11_worth_12 : decode cX11_worth 12 = .ok (.getfield 29, 3) := by decide +kernel
theorem dX11_worth_15 : decode cX11_worth 15 = .ok (.iload_n 1, 1) := by decide +kernel
theorem dX11_worth_16 : decode cX11_worth 16 = .ok (.invokevirtual 289, 3) := by decide +kernel
theorem dX11_worth_19 : decode cX11_worth 19 = .ok (.aload_n 0, 1) := by decide +kernel
theorem dX11_worth_20 : decode cX11_worth 20 = .ok (.getfield 29, 3) := by decide +kernel
theorem dX11_worth_23 : decode cX11_worth 23 = .ok (.bipush 99, 2) := by decide +kernel
theorem dX11_worth_25 : decode cX11_worth 25 = .ok (.invokevirtual 220, 3) := by decide +kernel
theorem dX11_worth_28 : decode cX11_worth 28 = .ok (.istore_n 2, 1) := by decide +kernel
theorem dX11_worth_29 : decode cX11_worth 29 = .ok (.aload_n 0, 1) := by decide +kernel
theorem dX11_worth_30 : decode cX11_worth 30 = .ok (.getfield 29, 3) := by decide +kernel
theorem dX11_worth_33 : decode cX11_worth 33 = .ok (.getfield 217, 3) := by decide +kernel
theorem dX11_worth_36 : decode cX11_worth 36 = .ok (.invokestatic 237, 3) := by decide +kernel
theorem dX11_worth_39 : decode cX11_worth 39 = .ok (.istore_n 3, 1) := by decide +kernel
theorem dX11_worth_40 : decode cX11_worth 40 = .ok (.iload_n 3, 1) := by decide +kernel
theorem dX11_worth_41 : decode cX11_worth 41 = .ok (.sipush 1000, 3) := by decide +kernel
theorem dX11_worth_44 : decode cX11_worth 44 = .ok (.imul, 1) := by decide +kernel
theorem dX11_worth_45 : decode cX11_worth 45 = .ok (.bipush 99, 2) := by decide +kernel
theorem dX11_worth_47 : decode cX11_worth 47 = .ok (.iload_n 2, 1) := by decide +kernel
theorem dX11_worth_48 : decode cX11_worth 48 = .ok (.isub, 1) := by decide +kernel
theorem dX11_worth_49 : decode cX11_worth 49 = .ok (.bipush 10, 2) := by decide +kernel
theorem dX11_worth_51 : decode cX11_worth 51 = .ok (.imul, 1) := by decide +kernel
theorem dX11_worth_52 : decode cX11_worth 52 = .ok (.iadd, 1) := by decide +kernel
theorem dX11_worth_53 : decode cX11_worth 53 = .ok (.bipush 6, 2) := by decide +kernel
theorem dX11_worth_55 : decode cX11_worth 55 = .ok (.iload_n 1, 1) := by decide +kernel
theorem dX11_worth_56 : decode cX11_worth 56 = .ok (.invokestatic 237, 3) := by decide +kernel
theorem dX11_worth_59 : decode cX11_worth 59 = .ok (.isub, 1) := by decide +kernel
theorem dX11_worth_60 : decode cX11_worth 60 = .ok (.iadd, 1) := by decide +kernel
theorem dX11_worth_61 : decode cX11_worth 61 = .ok (.ireturn, 1) := by decide +kernel
theorem dX11_isBroughtHiding_0 : decode cX11_isBroughtHiding 0 = .ok (.aload_n 0, 1) := by decide +kernel
theorem dX11_isBroughtHiding_1 : decode cX11_isBroughtHiding 1 = .ok (.getfield 29, 3) := by decide +kernel
theorem dX11_isBroughtHiding_4 : decode cX11_isBroughtHiding 4 = .ok (.aload_n 0, 1) := by decide +kernel
theorem dX11_isBroughtHiding_5 : decode cX11_isBroughtHiding 5 = .ok (.getfield 25, 3) := by decide +kernel
theorem dX11_isBroughtHiding_8 : decode cX11_isBroughtHiding 8 = .ok (.invokevirtual 143, 3) := by decide +kernel
theorem dX11_isBroughtHiding_11 : decode cX11_isBroughtHiding 11 = .ok (.aload_n 0, 1) := by decide +kernel
theorem dX11_isBroughtHiding_12 : decode cX11_isBroughtHiding 12 = .ok (.getfield 29, 3) := by decide +kernel
theorem dX11_isBroughtHiding_15 : decode cX11_isBroughtHiding 15 = .ok (.iload_n 3, 1) := by decide +kernel
theorem dX11_isBroughtHiding_16 : decode cX11_isBroughtHiding 16 = .ok (.invokevirtual 289, 3) := by decide +kernel
theorem dX11_isBroughtHiding_19 : decode cX11_isBroughtHiding 19 = .ok (.aload_n 0, 1) := by decide +kernel
theorem dX11_isBroughtHiding_20 : decode cX11_isBroughtHiding 20 = .ok (.getfield 29, 3) := by decide +kernel
theorem dX11_isBroughtHiding_23 : decode cX11_isBroughtHiding 23 = .ok (.iload_n 1, 1) := by decide +kernel
theorem dX11_isBroughtHiding_24 : decode cX11_isBroughtHiding 24 = .ok (.iload_n 2, 1) := by decide +kernel
theorem dX11_isBroughtHiding_25 : decode cX11_isBroughtHiding 25 = .ok (.invokevirtual 223, 3) := by decide +kernel
theorem dX11_isBroughtHiding_28 : decode cX11_isBroughtHiding 28 = .ok (.iconst (-1), 1) := by decide +kernel
theorem dX11_isBroughtHiding_29 : decode cX11_isBroughtHiding 29 = .ok (.if_icmp .eq 7, 3) := by decide +kernel
theorem dX11_isBroughtHiding_32 : decode cX11_isBroughtHiding 32 = .ok (.iconst 1, 1) := by decide +kernel
theorem dX11_isBroughtHiding_33 : decode cX11_isBroughtHiding 33 = .ok (.goto 4, 3) := by decide +kernel
theorem dX11_isBroughtHiding_36 : decode cX11_isBroughtHiding 36 = .ok (.iconst 0, 1) := by decide +kernel
theorem dX11_isBroughtHiding_37 : decode cX11_isBroughtHiding 37 = .ok (.ireturn, 1) := by decide +kernel
theorem dX11_fitting_0 : decode cX11_fitting 0 = .ok (.iconst 0, 1) := by decide +kernel
theorem dX11_fitting_1 : decode cX11_fitting 1 = .ok (.istore 6, 2) := by decide +kernel
theorem dX11_fitting_3 : decode cX11_fitting 3 = .ok (.aload_n 0, 1) := by decide +kernel
theorem dX11_fitting_4 : decode cX11_fitting 4 = .ok (.getfield 25, 3) := by decide +kernel
theorem dX11_fitting_7 : decode cX11_fitting 7 = .ok (.iload_n 2, 1) := by decide +kernel
theorem dX11_fitting_8 : decode cX11_fitting 8 = .ok (.invokevirtual 293, 3) := by decide +kernel
theorem dX11_fitting_11 : decode cX11_fitting 11 = .ok (.istore 7, 2) := by decide +kernel
theorem dX11_fitting_13 : decode cX11_fitting 13 = .ok (.iload_n 2, 1) := by decide +kernel
theorem dX11_fitting_14 : decode cX11_fitting 14 = .ok (.ifCond .ne 7, 3) := by decide +kernel
theorem dX11_fitting_17 : decode cX11_fitting 17 = .ok (.iconst 1, 1) := by decide +kernel
theorem dX11_fitting_18 : decode cX11_fitting 18 = .ok (.goto 4, 3) := by decide +kernel
theorem dX11_fitting_21 : decode cX11_fitting 21 = .ok (.iconst 0, 1) := by decide +kernel
theorem dX11_fitting_22 : decode cX11_fitting 22 = .ok (.istore 8, 2) := by decide +kernel
theorem dX11_fitting_24 : decode cX11_fitting 24 = .ok (.iload 8, 2) := by decide +kernel
theorem dX11_fitting_26 : decode cX11_fitting 26 = .ok (.iload 7, 2) := by decide +kernel
theorem dX11_fitting_28 : decode cX11_fitting 28 = .ok (.if_icmp .gt 62, 3) := by decide +kernel
theorem dX11_fitting_31 : decode cX11_fitting 31 = .ok (.aload_n 0, 1) := by decide +kernel
theorem dX11_fitting_32 : decode cX11_fitting 32 = .ok (.getfield 29, 3) := by decide +kernel
theorem dX11_fitting_35 : decode cX11_fitting 35 = .ok (.aload_n 0, 1) := by decide +kernel
theorem dX11_fitting_36 : decode cX11_fitting 36 = .ok (.getfield 25, 3) := by decide +kernel
theorem dX11_fitting_39 : decode cX11_fitting 39 = .ok (.invokevirtual 143, 3) := by decide +kernel
theorem dX11_fitting_42 : decode cX11_fitting 42 = .ok (.aload_n 0, 1) := by decide +kernel
theorem dX11_fitting_43 : decode cX11_fitting 43 = .ok (.getfield 29, 3) := by decide +kernel
theorem dX11_fitting_46 : decode cX11_fitting 46 = .ok (.iload_n 2, 1) := by decide +kernel
theorem dX11_fitting_47 : decode cX11_fitting 47 = .ok (.iload_n 1, 1) := by decide +kernel
theorem dX11_fitting_48 : decode cX11_fitting 48 = .ok (.iload 8, 2) := by decide +kernel
theorem dX11_fitting_50 : decode cX11_fitting 50 = .ok (.invokevirtual 175, 3) := by decide +kernel
theorem dX11_fitting_53 : decode cX11_fitting 53 = .ok (.iload 6, 2) := by decide +kernel
theorem dX11_fitting_55 : decode cX11_fitting 55 = .ok (.aload_n 0, 1) := by decide +kernel
theorem dX11_fitting_56 : decode cX11_fitting 56 = .ok (.getfield 29, 3) := by decide +kernel
theorem dX11_fitting_59 : decode cX11_fitting 59 = .ok (.aload_n 3, 1) := by decide +kernel
theorem dX11_fitting_60 : decode cX11_fitting 60 = .ok (.getfield 104, 3) := by decide +kernel
theorem dX11_fitting_63 : decode cX11_fitting 63 = .ok (.iload 4, 2) := by decide +kernel
theorem dX11_fitting_65 : decode cX11_fitting 65 = .ok (.iload 5, 2) := by decide +kernel
theorem dX11_fitting_67 : decode cX11_fitting 67 = .ok (.invokevirtual 296, 3) := by decide +kernel
theorem dX11_fitting_70 : decode cX11_fitting 70 = .ok (.ifCond .eq 10, 3) := by decide +kernel
theorem dX11_fitting_73 : decode cX11_fitting 73 = .ok (.iconst 1, 1) := by decide +kernel
theorem dX11_fitting_74 : decode cX11_fitting 74 = .ok (.iload 8, 2) := by decide +kernel
theorem dX11_fitting_76 : decode cX11_fitting 76 = .ok (.ishl, 1) := by decide +kernel
theorem dX11_fitting_77 : decode cX11_fitting 77 = .ok (.goto 4, 3) := by decide +kernel
theorem dX11_fitting_80 : decode cX11_fitting 80 = .ok (.iconst 0, 1) := by decide +kernel
theorem dX11_fitting_81 : decode cX11_fitting 81 = .ok (.ior, 1) := by decide +kernel
theorem dX11_fitting_82 : decode cX11_fitting 82 = .ok (.istore 6, 2) := by decide +kernel
theorem dX11_fitting_84 : decode cX11_fitting 84 = .ok (.iinc 8 1, 3) := by decide +kernel
theorem dX11_fitting_87 : decode cX11_fitting 87 = .ok (.goto (-63), 3) := by decide +kernel
theorem dX11_fitting_90 : decode cX11_fitting 90 = .ok (.iload 6, 2) := by decide +kernel
theorem dX11_fitting_92 : decode cX11_fitting 92 = .ok (.ireturn, 1) := by decide +kernel
theorem dX11_power_0 : decode cX11_power 0 = .ok (.iconst 1, 1) := by decide +kernel
theorem dX11_power_1 : decode cX11_power 1 = .ok (.istore_n 2, 1) := by decide +kernel
theorem dX11_power_2 : decode cX11_power 2 = .ok (.iconst 0, 1) := by decide +kernel
theorem dX11_power_3 : decode cX11_power 3 = .ok (.istore_n 3, 1) := by decide +kernel
theorem dX11_power_4 : decode cX11_power 4 = .ok (.iload_n 3, 1) := by decide +kernel
theorem dX11_power_5 : decode cX11_power 5 = .ok (.iload_n 1, 1) := by decide +kernel
theorem dX11_power_6 : decode cX11_power 6 = .ok (.if_icmp .ge 13, 3) := by decide +kernel
theorem dX11_power_9 : decode cX11_power 9 = .ok (.iload_n 2, 1) := by decide +kernel
theorem dX11_power_10 : decode cX11_power 10 = .ok (.iload_n 0, 1) := by decide +kernel
theorem dX11_power_11 : decode cX11_power 11 = .ok (.imul, 1) := by decide +kernel
theorem dX11_power_12 : decode cX11_power 12 = .ok (.istore_n 2, 1) := by decide +kernel
theorem dX11_power_13 : decode cX11_power 13 = .ok (.iinc 3 1, 3) := by decide +kernel
theorem dX11_power_16 : decode cX11_power 16 = .ok (.goto (-12), 3) := by decide +kernel
theorem dX11_power_19 : decode cX11_power 19 = .ok (.iload_n 2, 1) := by decide +kernel
theorem dX11_power_20 : decode cX11_power 20 = .ok (.ireturn, 1) := by decide +kernel
theorem dX11_commonDivisor_0 : decode cX11_commonDivisor 0 = .ok (.iload_n 0, 1) := by decide +kernel
theorem dX11_commonDivisor_1 : decode cX11_commonDivisor 1 = .ok (.istore_n 2, 1) := by decide +kernel
theorem dX11_commonDivisor_2 : decode cX11_commonDivisor 2 = .ok (.iload_n 1, 1) := by decide +kernel
theorem dX11_commonDivisor_3 : decode cX11_commonDivisor 3 = .ok (.istore_n 3, 1) := by decide +kernel
theorem dX11_commonDivisor_4 : decode cX11_commonDivisor 4 = .ok (.iconst 0, 1) := by decide +kernel
theorem dX11_commonDivisor_5 : decode cX11_commonDivisor 5 = .ok (.istore 4, 2) := by decide +kernel
theorem dX11_commonDivisor_7 : decode cX11_commonDivisor 7 = .ok (.iload 4, 2) := by decide +kernel
theorem dX11_commonDivisor_9 : decode cX11_commonDivisor 9 = .ok (.bipush 100, 2) := by decide +kernel
theorem dX11_commonDivisor_11 : decode cX11_commonDivisor 11 = .ok (.if_icmp .ge 23, 3) := by decide +kernel
theorem dX11_commonDivisor_14 : decode cX11_commonDivisor 14 = .ok (.iload_n 3, 1) := by decide +kernel
theorem dX11_commonDivisor_15 : decode cX11_commonDivisor 15 = .ok (.ifCond .eq 19, 3) := by decide +kernel
theorem dX11_commonDivisor_18 : decode cX11_commonDivisor 18 = .ok (.iload_n 2, 1) := by decide +kernel
theorem dX11_commonDivisor_19 : decode cX11_commonDivisor 19 = .ok (.iload_n 3, 1) := by decide +kernel
theorem dX11_commonDivisor_20 : decode cX11_commonDivisor 20 = .ok (.irem, 1) := by decide +kernel
theorem dX11_commonDivisor_21 : decode cX11_commonDivisor 21 = .ok (.istore 5, 2) := by decide +kernel
theorem dX11_commonDivisor_23 : decode cX11_commonDivisor 23 = .ok (.iload_n 3, 1) := by decide +kernel
theorem dX11_commonDivisor_24 : decode cX11_commonDivisor 24 = .ok (.istore_n 2, 1) := by decide +kernel
theorem dX11_commonDivisor_25 : decode cX11_commonDivisor 25 = .ok (.iload 5, 2) := by decide +kernel
theorem dX11_commonDivisor_27 : decode cX11_commonDivisor 27 = .ok (.istore_n 3, 1) := by decide +kernel
theorem dX11_commonDivisor_28 : decode cX11_commonDivisor 28 = .ok (.iinc 4 1, 3) := by decide +kernel
theorem dX11_commonDivisor_31 : decode cX11_commonDivisor 31 = .ok (.goto (-24), 3) := by decide +kernel
theorem dX11_commonDivisor_34 : decode cX11_commonDivisor 34 = .ok (.iload_n 2, 1) := by decide +kernel
theorem dX11_commonDivisor_35 : decode cX11_commonDivisor 35 = .ok (.iconst 1, 1) := by decide +kernel
theorem dX11_commonDivisor_36 : decode cX11_commonDivisor 36 = .ok (.invokestatic 300, 3) := by decide +kernel
theorem dX11_commonDivisor_39 : decode cX11_commonDivisor 39 = .ok (.ireturn, 1) := by decide +kernel
theorem dX11_isOne_0 : decode cX11_isOne 0 = .ok (.iload_n 1, 1) := by decide +kernel
theorem dX11_isOne_1 : decode cX11_isOne 1 = .ok (.tableswitch 60 1 5 #[35, 40, 45, 50, 55], 35) := by decide +kernel
theorem dX11_isOne_36 : decode cX11_isOne 36 = .ok (.aload_n 0, 1) := by decide +kernel
theorem dX11_isOne_37 : decode cX11_isOne 37 = .ok (.instanceof 49, 3) := by decide +kernel
theorem dX11_isOne_40 : decode cX11_isOne 40 = .ok (.ireturn, 1) := by decide +kernel
theorem dX11_isOne_41 : decode cX11_isOne 41 = .ok (.aload_n 0, 1) := by decide +kernel
theorem dX11_isOne_42 : decode cX11_isOne 42 = .ok (.instanceof 52, 3) := by decide +kernel
theorem dX11_isOne_45 : decode cX11_isOne 45 = .ok (.ireturn, 1) := by decide +kernel
theorem dX11_isOne_46 : decode cX11_isOne 46 = .ok (.aload_n 0, 1) := by decide +kernel
theorem dX11_isOne_47 : decode cX11_isOne 47 = .ok (.instanceof 55, 3) := by decide +kernel
theorem dX11_isOne_50 : decode cX11_isOne 50 = .ok (.ireturn, 1) := by decide +kernel
theorem dX11_isOne_51 : decode cX11_isOne 51 = .ok (.aload_n 0, 1) := by decide +kernel
theorem dX11_isOne_52 : decode cX11_isOne 52 = .ok (.instanceof 58, 3) := by decide +kernel
theorem dX11_isOne_55 : decode cX11_isOne 55 = .ok (.ireturn, 1) := by decide +kernel
theorem dX11_isOne_56 : decode cX11_isOne 56 = .ok (.aload_n 0, 1) := by decide +kernel
theorem dX11_isOne_57 : decode cX11_isOne 57 = .ok (.instanceof 61, 3) := by decide +kernel
theorem dX11_isOne_60 : decode cX11_isOne 60 = .ok (.ireturn, 1) := by decide +kernel
theorem dX11_isOne_61 : decode cX11_isOne 61 = .ok (.iconst 1, 1) := by decide +kernel
theorem dX11_isOne_62 : decode cX11_isOne 62 = .ok (.ireturn, 1) := by decide +kernel
theorem dX12_init_0 : decode cX12_init 0 = .ok (.aload_n 0, 1) := by decide +kernel
theorem dX12_init_1 : decode cX12_init 1 = .ok (.invokespecial 1, 3) := by decide +kernel
theorem dX12_init_4 : decode cX12_init 4 = .ok (.aload_n 0, 1) := by decide +kernel
theorem dX12_init_5 : decode cX12_init 5 = .ok (.bipush 8, 2) := by decide +kernel
theorem dX12_init_7 : decode cX12_init 7 = .ok (.newarray .int, 2) := by decide +kernel
theorem dX12_init_9 : decode cX12_init 9 = .ok (.putfield 7, 3) := by decide +kernel
theorem dX12_init_12 : decode cX12_init 12 = .ok (.aload_n 0, 1) := by decide +kernel
theorem dX12_init_13 : decode cX12_init 13 = .ok (.bipush 8, 2) := by decide +kernel
theorem dX12_init_15 : decode cX12_init 15 = .ok (.newarray .int, 2) := by decide +kernel
theorem dX12_init_17 : decode cX12_init 17 = .ok (.putfield 13, 3) := by decide +kernel
theorem dX12_init_20 : decode cX12_init 20 = .ok (.aload_n 0, 1) := by decide +kernel
theorem dX12_init_21 : decode cX12_init 21 = .ok (.sipush 320, 3) := by decide +kernel
theorem dX12_init_24 : decode cX12_init 24 = .ok (.newarray .int, 2) := by decide +kernel
theorem dX12_init_26 : decode cX12_init 26 = .ok (.putfield 16, 3) := by decide +kernel
theorem dX12_init_29 : decode cX12_init 29 = .ok (.aload_n 0, 1) := by decide +kernel
theorem dX12_init_30 : decode cX12_init 30 = .ok (.bipush 40, 2) := by decide +kernel
theorem dX12_init_32 : decode cX12_init 32 = .ok (.newarray .int, 2) := by decide +kernel
theorem dX12_init_34 : decode cX12_init 34 = .ok (.putfield 19, 3) := by decide +kernel
theorem dX12_init_37 : decode cX12_init 37 = .ok (.aload_n 0, 1) := by decide +kernel
theorem dX12_init_38 : decode cX12_init 38 = .ok (.bipush 120, 2) := by decide +kernel
theorem dX12_init_40 : decode cX12_init 40 = .ok (.newarray .int, 2) := by decide +kernel
theorem dX12_init_42 : decode cX12_init 42 = .ok (.putfield 22, 3) := by decide +kernel
theorem dX12_init_45 : decode cX12_init 45 = .ok (.aload_n 0, 1) := by decide +kernel
theorem dX12_init_46 : decode cX12_init 46 = .ok (.bipush 41, 2) := by decide +kernel
theorem dX12_init_48 : decode cX12_init 48 = .ok (.newarray .int, 2) := by decide +kernel
theorem dX12_init_50 : decode cX12_init 50 = .ok (.putfield 25, 3) := by decide +kernel
theorem dX12_init_53 : decode cX12_init 53 = .ok (.aload_n 0, 1) := by decide +kernel
theorem dX12_init_54 : decode cX12_init 54 = .ok (.bipush 41, 2) := by decide +kernel
theorem dX12_init_56 : decode cX12_init 56 = .ok (.newarray .int, 2) := by decide +kernel
theorem dX12_init_58 : decode cX12_init 58 = .ok (.putfield 28, 3) := by decide +kernel
theorem dX12_init_61 : decode cX12_init 61 = .ok (.aload_n 0, 1) := by decide +kernel
theorem dX12_init_62 : decode cX12_init 62 = .ok (.bipush 41, 2) := by decide +kernel
theorem dX12_init_64 : decode cX12_init 64 = .ok (.newarray .int, 2) := by decide +kernel
theorem dX12_init_66 : decode cX12_init 66 = .ok (.putfield 31, 3) := by decide +kernel
theorem dX12_init_69 : decode cX12_init 69 = .ok (.aload_n 0, 1) := by decide +kernel
theorem dX12_init_70 : decode cX12_init 70 = .ok (.sipush 984, 3) := by decide +kernel
theorem dX12_init_73 : decode cX12_init 73 = .ok (.newarray .int, 2) := by decide +kernel
theorem dX12_init_75 : decode cX12_init 75 = .ok (.putfield 34, 3) := by decide +kernel
theorem dX12_init_78 : decode cX12_init 78 = .ok (.aload_n 0, 1) := by decide +kernel
theorem dX12_init_79 : decode cX12_init 79 = .ok (.bipush 82, 2) := by decide +kernel
theorem dX12_init_81 : decode cX12_init 81 = .ok (.newarray .int, 2) := by decide +kernel
theorem dX12_init_83 : decode cX12_init 83 = .ok (.putfield 37, 3) := by decide +kernel
theorem dX12_init_86 : decode cX12_init 86 = .ok (.aload_n 0, 1) := by decide +kernel
theorem dX12_init_87 : decode cX12_init 87 = .ok (.iconst 2, 1) := by decide +kernel
theorem dX12_init_88 : decode cX12_init 88 = .ok (.newarray .boolean, 2) := by decide +kernel
theorem dX12_init_90 : decode cX12_init 90 = .ok (.putfield 40, 3) := by decide +kernel
theorem dX12_init_93 : decode cX12_init 93 = .ok (.aload_n 0, 1) := by decide +kernel
theorem dX12_init_94 : decode cX12_init 94 = .ok (.bipush 16, 2) := by decide +kernel
theorem dX12_init_96 : decode cX12_init 96 = .ok (.newarray .int, 2) := by decide +kernel
theorem dX12_init_98 : decode cX12_init 98 = .ok (.putfield 44, 3) := by decide +kernel
theorem dX12_init_101 : decode cX12_init 101 = .ok (.iconst 0, 1) := by decide +kernel
theorem dX12_init_102 : decode cX12_init 102 = .ok (.istore_n 1, 1) := by decide +kernel
theorem dX12_init_103 : decode cX12_init 103 = .ok (.iload_n 1, 1) := by decide +kernel
theorem dX12_init_104 : decode cX12_init 104 = .ok (.bipush 8, 2) := by decide +kernel
theorem dX12_init_106 : decode cX12_init 106 = .ok (.if_icmp .ge 17, 3) := by decide +kernel
theorem dX12_init_109 : decode cX12_init 109 = .ok (.aload_n 0, 1) := by decide +kernel
theorem dX12_init_110 : decode cX12_init 110 = .ok (.getfield 7, 3) := by decide +kernel
theorem dX12_init_113 : decode cX12_init 113 = .ok (.iload_n 1, 1) := by decide +kernel
theorem dX12_init_114 : decode cX12_init 114 = .ok (.ldc 47, 2) := by decide +kernel
theorem dX12_init_116 : decode cX12_init 116 = .ok (.iastore, 1) := by decide +kernel
theorem dX12_init_117 : decode cX12_init 117 = .ok (.iinc 1 1, 3) := by decide +kernel
theorem dX12_init_120 : decode cX12_init 120 = .ok (.goto (-17), 3) := by decide +kernel
theorem dX12_init_123 : decode cX12_init 123 = .ok (.return_, 1) := by decide +kernel
theorem dX12_in_0 : decode cX12_in 0 = .ok (.iload_n 0, 1) := by decide +kernel
theorem dX12_in_1 : decode cX12_in 1 = .ok (.iload_n 1, 1) := by decide +kernel
theorem dX12_in_2 : decode cX12_in 2 = .ok (.if_icmp .lt 12, 3) := by decide +kernel
theorem dX12_in_5 : decode cX12_in 5 = .ok (.iload_n 0, 1) := by decide +kernel
theorem dX12_in_6 : decode cX12_in 6 = .ok (.iload_n 2, 1) := by decide +kernel
theorem dX12_in_7 : decode cX12_in 7 = .ok (.if_icmp .gt 7, 3) := by decide +kernel
theorem dX12_in_10 : decode cX12_in 10 = .ok (.iconst 1, 1) := by decide +kernel
theorem dX12_in_11 : decode cX12_in 11 = .ok (.goto 4, 3) := by decide +kernel
theorem dX12_in_14 : decode cX12_in 14 = .ok (.iconst 0, 1) := by decide +kernel
theorem dX12_in_15 : decode cX12_in 15 = .ok (.ireturn, 1) := by decide +kernel
theorem dX12_has_0 : decode cX12_has 0 = .ok (.iload_n 0, 1) := by decide +kernel
theorem dX12_has_1 : decode cX12_has 1 = .ok (.iload_n 1, 1) := by decide +kernel
theorem dX12_has_2 : decode cX12_has 2 = .ok (.ishr, 1) := by decide +kernel
theorem dX12_has_3 : decode cX12_has 3 = .ok (.iconst 1, 1) := by decide +kernel
theorem dX12_has_4 : decode cX12_has 4 = .ok (.iand, 1) := by decide +kernel
theorem dX12_has_5 : decode cX12_has 5 = .ok (.iconst 1, 1) := by decide +kernel
theorem dX12_has_6 : decode cX12_has 6 = .ok (.if_icmp .ne 7, 3) := by decide +kernel
theorem dX12_has_9 : decode cX12_has 9 = .ok (.iconst 1, 1) := by decide +kernel
theorem dX12_has_10 : decode cX12_has 10 = .ok (.goto 4, 3) := by decide +kernel
theorem dX12_has_13 : decode cX12_has 13 = .ok (.iconst 0, 1) := by decide +kernel
theorem dX12_has_14 : decode cX12_has 14 = .ok (.ireturn, 1) := by decide +kernel
theorem dX12_ones_0 : decode cX12_ones 0 = .ok (.iconst 0, 1) := by decide +kernel
theorem dX12_ones_1 : decode cX12_ones 1 = .ok (.istore_n 1, 1) := by decide +kernel
theorem dX12_ones_2 : decode cX12_ones 2 = .ok (.iconst 0, 1) := by decide +kernel
theorem dX12_ones_3 : decode cX12_ones 3 = .ok (.istore_n 2, 1) := by decide +kernel
theorem dX12_ones_4 : decode cX12_ones 4 = .ok (.iload_n 2, 1) := by decide +kernel
theorem dX12_ones_5 : decode cX12_ones 5 = .ok (.bipush 8, 2) := by decide +kernel
theorem dX12_ones_7 : decode cX12_ones 7 = .ok (.if_icmp .ge 17, 3) := by decide +kernel
theorem dX12_ones_10 : decode cX12_ones 10 = .ok (.iload_n 1, 1) := by decide +kernel
theorem dX12_ones_11 : decode cX12_ones 11 = .ok (.iload_n 0, 1) := by decide +kernel
theorem dX12_ones_12 : decode cX12_ones 12 = .ok (.iload_n 2, 1) := by decide +kernel
theorem dX12_ones_13 : decode cX12_ones 13 = .ok (.ishr, 1) := by decide +kernel
theorem dX12_ones_14 : decode cX12_ones 14 = .ok (.iconst 1, 1) := by decide +kernel
theorem dX12_ones_15 : decode cX12_ones 15 = .ok (.iand, 1) := by decide +kernel
theorem dX12_ones_16 : decode cX12_ones 16 = .ok (.iadd, 1) := by decide +kernel
theorem dX12_ones_17 : decode cX12_ones 17 = .ok (.istore_n 1, 1) := by decide +kernel
theorem dX12_ones_18 : decode cX12_ones 18 = .ok (.iinc 2 1, 3) := by decide +kernel
theorem dX12_ones_21 : decode cX12_ones 21 = .ok (.goto (-17), 3) := by decide +kernel
theorem dX12_ones_24 : decode cX12_ones 24 = .ok (.iload_n 1, 1) := by decide +kernel
theorem dX12_ones_25 : decode cX12_ones 25 = .ok (.ireturn, 1) := by decide +kernel
theorem dX12_found_0 : decode cX12_found 0 = .ok (.aload_n 0, 1) := by decide +kernel
theorem dX12_found_1 : decode cX12_found 1 = .ok (.iload_n 1, 1) := by decide +kernel
theorem dX12_found_2 : decode cX12_found 2 = .ok (.putfield 48, 3) := by decide +kernel
theorem dX12_found_5 : decode cX12_found 5 = .ok (.ldc 52, 2) := by decide +kernel
theorem dX12_found_7 : decode cX12_found 7 = .ok (.iload_n 1, 1) := by decide +kernel
theorem dX12_found_8 : decode cX12_found 8 = .ok (.isub, 1) := by decide +kernel
theorem dX12_found_9 : decode cX12_found 9 = .ok (.ireturn, 1) := by decide +kernel
theorem dX12_well_0 : decode cX12_well 0 = .ok (.aload_n 0, 1) := by decide +kernel
theorem dX12_well_1 : decode cX12_well 1 = .ok (.iconst 0, 1) := by decide +kernel
theorem dX12_well_2 : decode cX12_well 2 = .ok (.putfield 48, 3) := by decide +kernel
theorem dX12_well_5 : decode cX12_well 5 = .ok (.iload_n 1, 1) := by decide +kernel
theorem dX12_well_6 : decode cX12_well 6 = .ok (.ireturn, 1) := by decide +kernel
theorem dX12_copies_0 : decode cX12_copies 0 = .ok (.iconst 0, 1) := by decide +kernel
theorem dX12_copies_1 : decode cX12_copies 1 = .ok (.istore 4, 2) := by decide +kernel
theorem dX12_copies_3 : decode cX12_copies 3 = .ok (.iload 4, 2) := by decide +kernel
theorem dX12_copies_5 : decode cX12_copies 5 = .ok (.bipush 41, 2) := by decide +kernel
theorem dX12_copies_7 : decode cX12_copies 7 = .ok (.if_icmp .ge 21, 3) := by decide +kernel
theorem dX12_copies_10 : decode cX12_copies 10 = .ok (.aload_n 2, 1) := by decide +kernel
theorem dX12_copies_11 : decode cX12_copies 11 = .ok (.iload_n 3, 1) := by decide +kernel
theorem dX12_copies_12 : decode cX12_copies 12 = .ok (.iload 4, 2) := by decide +kernel
theorem dX12_copies_14 : decode cX12_copies 14 = .ok (.iadd, 1) := by decide +kernel
theorem dX12_copies_15 : decode cX12_copies 15 = .ok (.aload_n 0, 1) := by decide +kernel
theorem dX12_copies_16 : decode cX12_copies 16 = .ok (.iload_n 1, 1) := by decide +kernel
theorem dX12_copies_17 : decode cX12_copies 17 = .ok (.iload 4, 2) := by decide +kernel
theorem dX12_copies_19 : decode cX12_copies 19 = .ok (.iadd, 1) := by decide +kernel
theorem dX12_copies_20 : decode cX12_copies 20 = .ok (.iaload, 1) := by decide +kernel
theorem dX12_copies_21 : decode cX12_copies 21 = .ok (.iastore, 1) := by decide +kernel
theorem dX12_copies_22 : decode cX12_copies 22 = .ok (.iinc 4 1, 3) := by decide +kernel
theorem dX12_copies_25 : decode cX12_copies 25 = .ok (.goto (-22), 3) := by decide +kernel
theorem dX12_copies_28 : decode cX12_copies 28 = .ok (.return_, 1) := by decide +kernel
theorem dX12_isRow_0 : decode cX12_isRow 0 = .ok (.iload_n 0, 1) := by decide +kernel
theorem dX12_isRow_1 : decode cX12_isRow 1 = .ok (.iconst 0, 1) := by decide +kernel
theorem dX12_isRow_2 : decode cX12_isRow 2 = .ok (.bipush 7, 2) := by decide +kernel
theorem dX12_isRow_4 : decode cX12_isRow 4 = .ok (.invokestatic 53, 3) := by decide +kernel
theorem dX12_isRow_7 : decode cX12_isRow 7 = .ok (.ireturn, 1) := by decide +kernel
theorem dX12_isMissing_0 : decode cX12_isMissing 0 = .ok (.aload_n 0, 1) := by decide +kernel
theorem dX12_isMissing_1 : decode cX12_isMissing 1 = .ok (.getfield 7, 3) := by decide +kernel
theorem dX12_isMissing_4 : decode cX12_isMissing 4 = .ok (.iload_n 1, 1) := by decide +kernel
theorem dX12_isMissing_5 : decode cX12_isMissing 5 = .ok (.iaload, 1) := by decide +kernel
theorem dX12_isMissing_6 : decode cX12_isMissing 6 = .ok (.ldc 47, 2) := by decide +kernel
theorem dX12_isMissing_8 : decode cX12_isMissing 8 = .ok (.if_icmp .ne 7, 3) := by decide +kernel
theorem dX12_isMissing_11 : decode cX12_isMissing 11 = .ok (.iconst 1, 1) := by decide +kernel
theorem dX12_isMissing_12 : decode cX12_isMissing 12 = .ok (.goto 4, 3) := by decide +kernel
theorem dX12_isMissing_15 : decode cX12_isMissing 15 = .ok (.iconst 0, 1) := by decide +kernel
theorem dX12_isMissing_16 : decode cX12_isMissing 16 = .ok (.ireturn, 1) := by decide +kernel
theorem dX12_cut_0 : decode cX12_cut 0 = .ok (.iload_n 0, 1) := by decide +kernel
theorem dX12_cut_1 : decode cX12_cut 1 = .ok (.ifCond .ne 13, 3) := by decide +kernel
theorem dX12_cut_4 : decode cX12_cut 4 = .ok (.iload_n 1, 1) := by decide +kernel
theorem dX12_cut_5 : decode cX12_cut 5 = .ok (.bipush 24, 2) := by decide +kernel
theorem dX12_cut_7 : decode cX12_cut 7 = .ok (.ishl, 1) := by decide +kernel
theorem dX12_cut_8 : decode cX12_cut 8 = .ok (.bipush 24, 2) := by decide +kernel
theorem dX12_cut_10 : decode cX12_cut 10 = .ok (.ishr, 1) := by decide +kernel
theorem dX12_cut_11 : decode cX12_cut 11 = .ok (.goto 19, 3) := by decide +kernel
theorem dX12_cut_14 : decode cX12_cut 14 = .ok (.iload_n 0, 1) := by decide +kernel
theorem dX12_cut_15 : decode cX12_cut 15 = .ok (.iconst 1, 1) := by decide +kernel
theorem dX12_cut_16 : decode cX12_cut 16 = .ok (.if_icmp .ne 13, 3) := by decide +kernel
theorem dX12_cut_19 : decode cX12_cut 19 = .ok (.iload_n 1, 1) := by decide +kernel
theorem dX12_cut_20 : decode cX12_cut 20 = .ok (.bipush 16, 2) := by decide +kernel
theorem dX12_cut_22 : decode cX12_cut 22 = .ok (.ishl, 1) := by decide +kernel
theorem dX12_cut_23 : decode cX12_cut 23 = .ok (.bipush 16, 2) := by decide +kernel
theorem dX12_cut_25 : decode cX12_cut 25 = .ok (.ishr, 1) := by decide +kernel
theorem dX12_cut_26 : decode cX12_cut 26 = .ok (.goto 4, 3) := by decide +kernel
theorem dX12_cut_29 : decode cX12_cut 29 = .ok (.iload_n 1, 1) := by decide +kernel
theorem dX12_cut_30 : decode cX12_cut 30 = .ok (.ireturn, 1) := by decide +kernel
theorem dX12_row_0 : decode cX12_row 0 = .ok (.iload_n 1, 1) := by decide +kernel
theorem dX12_row_1 : decode cX12_row 1 = .ok (.invokestatic 57, 3) := by decide +kernel
theorem dX12_row_4 : decode cX12_row 4 = .ok (.ifCond .eq 18, 3) := by decide +kernel
theorem dX12_row_7 : decode cX12_row 7 = .ok (.iload_n 2, 1) := by decide +kernel
theorem dX12_row_8 : decode cX12_row 8 = .ok (.iconst 0, 1) := by decide +kernel
theorem dX12_row_9 : decode cX12_row 9 = .ok (.iconst 2, 1) := by decide +kernel
theorem dX12_row_10 : decode cX12_row 10 = .ok (.invokestatic 53, 3) := by decide +kernel
theorem dX12_row_13 : decode cX12_row 13 = .ok (.ifCond .eq 9, 3) := by decide +kernel
theorem dX12_row_16 : decode cX12_row 16 = .ok (.iload_n 3, 1) := by decide +kernel
theorem dX12_row_17 : decode cX12_row 17 = .ok (.bipush 40, 2) := by decide +kernel
theorem dX12_row_19 : decode cX12_row 19 = .ok (.if_icmp .le 6, 3) := by decide +kernel
theorem dX12_row_22 : decode cX12_row 22 = .ok (.ldc 61, 2) := by decide +kernel
theorem dX12_row_24 : decode cX12_row 24 = .ok (.ireturn, 1) := by decide +kernel
theorem dX12_row_25 : decode cX12_row 25 = .ok (.iload_n 3, 1) := by decide +kernel
theorem dX12_row_26 : decode cX12_row 26 = .ok (.ifCond .ge 9, 3) := by decide +kernel
theorem dX12_row_29 : decode cX12_row 29 = .ok (.aload_n 0, 1) := by decide +kernel
theorem dX12_row_30 : decode cX12_row 30 = .ok (.iconst 4, 1) := by decide +kernel
theorem dX12_row_31 : decode cX12_row 31 = .ok (.invokevirtual 62, 3) := by decide +kernel
theorem dX12_row_34 : decode cX12_row 34 = .ok (.ireturn, 1) := by decide +kernel
theorem dX12_row_35 : decode cX12_row 35 = .ok (.aload_n 0, 1) := by decide +kernel
theorem dX12_row_36 : decode cX12_row 36 = .ok (.getfield 7, 3) := by decide +kernel
theorem dX12_row_39 : decode cX12_row 39 = .ok (.iload_n 1, 1) := by decide +kernel
theorem dX12_row_40 : decode cX12_row 40 = .ok (.iload_n 2, 1) := by decide +kernel
theorem dX12_row_41 : decode cX12_row 41 = .ok (.iastore, 1) := by decide +kernel
theorem dX12_row_42 : decode cX12_row 42 = .ok (.aload_n 0, 1) := by decide +kernel
theorem dX12_row_43 : decode cX12_row 43 = .ok (.getfield 13, 3) := by decide +kernel
theorem dX12_row_46 : decode cX12_row 46 = .ok (.iload_n 1, 1) := by decide +kernel
theorem dX12_row_47 : decode cX12_row 47 = .ok (.iload_n 3, 1) := by decide +kernel
theorem dX12_row_48 : decode cX12_row 48 = .ok (.iastore, 1) := by decide +kernel
theorem dX12_row_49 : decode cX12_row 49 = .ok (.iconst 0, 1) := by decide +kernel
theorem dX12_row_50 : decode cX12_row 50 = .ok (.istore 4, 2) := by decide +kernel
theorem dX12_row_52 : decode cX12_row 52 = .ok (.iload 4, 2) := by decide +kernel
theorem dX12_row_54 : decode cX12_row 54 = .ok (.bipush 40, 2) := by decide +kernel
theorem dX12_row_56 : decode cX12_row 56 = .ok (.if_icmp .ge 22, 3) := by decide +kernel
theorem dX12_row_59 : decode cX12_row 59 = .ok (.aload_n 0, 1) := by decide +kernel
theorem dX12_row_60 : decode cX12_row 60 = .ok (.getfield 16, 3) := by decide +kernel
theorem dX12_row_63 : decode cX12_row 63 = .ok (.bipush 40, 2) := by decide +kernel
theorem dX12_row_65 : decode cX12_row 65 = .ok (.iload_n 1, 1) := by decide +kernel
theorem dX12_row_66 : decode cX12_row 66 = .ok (.imul, 1) := by decide +kernel
theorem dX12_row_67 : decode cX12_row 67 = .ok (.iload 4, 2) := by decide +kernel
theorem dX12_row_69 : decode cX12_row 69 = .ok (.iadd, 1) := by decide +kernel
theorem dX12_row_70 : decode cX12_row 70 = .ok (.iconst 0, 1) := by decide +kernel
theorem dX12_row_71 : decode cX12_row 71 = .ok (.iastore, 1) := by decide +kernel
theorem dX12_row_72 : decode cX12_row 72 = .ok (.iinc 4 1, 3) := by decide +kernel
theorem dX12_row_75 : decode cX12_row 75 = .ok (.goto (-23), 3) := by decide +kernel
theorem dX12_row_78 : decode cX12_row 78 = .ok (.aload_n 0, 1) := by decide +kernel
theorem dX12_row_79 : decode cX12_row 79 = .ok (.iload_n 3, 1) := by decide +kernel
theorem dX12_row_80 : decode cX12_row 80 = .ok (.invokevirtual 66, 3) := by decide +kernel
theorem dX12_row_83 : decode cX12_row 83 = .ok (.ireturn, 1) := by decide +kernel
theorem dX12_set_0 : decode cX12_set 0 = .ok (.iload_n 1, 1) := by decide +kernel
theorem dX12_set_1 : decode cX12_set 1 = .ok (.invokestatic 57, 3) := by decide +kernel
theorem dX12_set_4 : decode cX12_set 4 = .ok (.ifCond .ne 6, 3) := by decide +kernel
theorem dX12_set_7 : decode cX12_set 7 = .ok (.ldc 61, 2) := by decide +kernel
theorem dX12_set_9 : decode cX12_set 9 = .ok (.ireturn, 1) := by decide +kernel
theorem dX12_set_10 : decode cX12_set 10 = .ok (.aload_n 0, 1) := by decide +kernel
theorem dX12_set_11 : decode cX12_set 11 = .ok (.iload_n 1, 1) := by decide +kernel
theorem dX12_set_12 : decode cX12_set 12 = .ok (.invokevirtual 69, 3) := by decide +kernel
theorem dX12_set_15 : decode cX12_set 15 = .ok (.ifCond .eq 9, 3) := by decide +kernel
theorem dX12_set_18 : decode cX12_set 18 = .ok (.aload_n 0, 1) := by decide +kernel
theorem dX12_set_19 : decode cX12_set 19 = .ok (.iconst 1, 1) := by decide +kernel
theorem dX12_set_20 : decode cX12_set 20 = .ok (.invokevirtual 62, 3) := by decide +kernel
theorem dX12_set_23 : decode cX12_set 23 = .ok (.ireturn, 1) := by decide +kernel
theorem dX12_set_24 : decode cX12_set 24 = .ok (.iload_n 2, 1) := by decide +kernel
theorem dX12_set_25 : decode cX12_set 25 = .ok (.iconst 0, 1) := by decide +kernel
theorem dX12_set_26 : decode cX12_set 26 = .ok (.aload_n 0, 1) := by decide +kernel
theorem dX12_set_27 : decode cX12_set 27 = .ok (.getfield 13, 3) := by decide +kernel
theorem dX12_set_30 : decode cX12_set 30 = .ok (.iload_n 1, 1) := by decide +kernel
theorem dX12_set_31 : decode cX12_set 31 = .ok (.iaload, 1) := by decide +kernel
theorem dX12_set_32 : decode cX12_set 32 = .ok (.iconst 1, 1) := by decide +kernel
theorem dX12_set_33 : decode cX12_set 33 = .ok (.isub, 1) := by decide +kernel
theorem dX12_set_34 : decode cX12_set 34 = .ok (.invokestatic 53, 3) := by decide +kernel
theorem dX12_set_37 : decode cX12_set 37 = .ok (.ifCond .ne 9, 3) := by decide +kernel
theorem dX12_set_40 : decode cX12_set 40 = .ok (.aload_n 0, 1) := by decide +kernel
theorem dX12_set_41 : decode cX12_set 41 = .ok (.iconst 2, 1) := by decide +kernel
theorem dX12_set_42 : decode cX12_set 42 = .ok (.invokevirtual 62, 3) := by decide +kernel
theorem dX12_set_45 : decode cX12_set 45 = .ok (.ireturn, 1) := by decide +kernel
theorem dX12_set_46 : decode cX12_set 46 = .ok (.aload_n 0, 1) := by decide +kernel
theorem dX12_set_47 : decode cX12_set 47 = .ok (.getfield 16, 3) := by decide +kernel
theorem dX12_set_50 : decode cX12_set 50 = .ok (.bipush 40, 2) := by decide +kernel
theorem dX12_set_52 : decode cX12_set 52 = .ok (.iload_n 1, 1) := by decide +kernel
theorem dX12_set_53 : decode cX12_set 53 = .ok (.imul, 1) := by decide +kernel
theorem dX12_set_54 : decode cX12_set 54 = .ok (.iload_n 2, 1) := by decide +kernel
theorem dX12_set_55 : decode cX12_set 55 = .ok (.iadd, 1) := by decide +kernel
theorem dX12_set_56 : decode cX12_set 56 = .ok (.aload_n 0, 1) := by decide +kernel
theorem dX12_set_57 : decode cX12_set 57 = .ok (.getfield 7, 3) := by decide +kernel
theorem dX12_set_60 : decode cX12_set 60 = .ok (.iload_n 1, 1) := by decide +kernel
theorem dX12_set_61 : decode cX12_set 61 = .ok (.iaload, 1) := by decide +kernel
theorem dX12_set_62 : decode cX12_set 62 = .ok (.iload_n 3, 1) := by decide +kernel
theorem dX12_set_63 : decode cX12_set 63 = .ok (.invokestatic 72, 3) := by decide +kernel
theorem dX12_set_66 : decode cX12_set 66 = .ok (.iastore, 1) := by decide +kernel
theorem dX12_set_67 : decode cX12_set 67 = .ok (.aload_n 0, 1) := by decide +kernel
theorem dX12_set_68 : decode cX12_set 68 = .ok (.aload_n 0, 1) := by decide +kernel
theorem dX12_set_69 : decode cX12_set 69 = .ok (.getfield 16, 3) := by decide +kernel
theorem dX12_set_72 : decode cX12_set 72 = .ok (.bipush 40, 2) := by decide +kernel
theorem dX12_set_74 : decode cX12_set 74 = .ok (.iload_n 1, 1) := by decide +kernel
theorem dX12_set_75 : decode cX12_set 75 = .ok (.imul, 1) := by decide +kernel
theorem dX12_set_76 : decode cX12_set 76 = .ok (.iload_n 2, 1) := by decide +kernel
theorem dX12_set_77 : decode cX12_set 77 = .ok (.iadd, 1) := by decide +kernel
theorem dX12_set_78 : decode cX12_set 78 = .ok (.iaload, 1) := by decide +kernel
theorem dX12_set_79 : decode cX12_set 79 = .ok (.invokevirtual 66, 3) := by decide +kernel
theorem dX12_set_82 : decode cX12_set 82 = .ok (.ireturn, 1) := by decide +kernel
theorem dX12_isPart_0 : decode cX12_isPart 0 = .ok (.iload_n 2, 1) := by decide +kernel
theorem dX12_isPart_1 : decode cX12_isPart 1 = .ok (.ifCond .lt 33, 3) := by decide +kernel
theorem dX12_isPart_4 : decode cX12_isPart 4 = .ok (.iload_n 3, 1) := by decide +kernel
theorem dX12_isPart_5 : decode cX12_isPart 5 = .ok (.ifCond .lt 29, 3) := by decide +kernel
theorem dX12_isPart_8 : decode cX12_isPart 8 = .ok (.iload_n 2, 1) := by decide +kernel
theorem dX12_isPart_9 : decode cX12_isPart 9 = .ok (.aload_n 0, 1) := by decide +kernel
theorem dX12_isPart_10 : decode cX12_isPart 10 = .ok (.getfield 13, 3) := by decide +kernel
theorem dX12_isPart_13 : decode cX12_isPart 13 = .ok (.iload_n 1, 1) := by decide +kernel
theorem dX12_isPart_14 : decode cX12_isPart 14 = .ok (.iaload, 1) := by decide +kernel
theorem dX12_isPart_15 : decode cX12_isPart 15 = .ok (.if_icmp .gt 19, 3) := by decide +kernel
theorem dX12_isPart_18 : decode cX12_isPart 18 = .ok (.iload_n 3, 1) := by decide +kernel
theorem dX12_isPart_19 : decode cX12_isPart 19 = .ok (.aload_n 0, 1) := by decide +kernel
theorem dX12_isPart_20 : decode cX12_isPart 20 = .ok (.getfield 13, 3) := by decide +kernel
theorem dX12_isPart_23 : decode cX12_isPart 23 = .ok (.iload_n 1, 1) := by decide +kernel
theorem dX12_isPart_24 : decode cX12_isPart 24 = .ok (.iaload, 1) := by decide +kernel
theorem dX12_isPart_25 : decode cX12_isPart 25 = .ok (.iload_n 2, 1) := by decide +kernel
theorem dX12_isPart_26 : decode cX12_isPart 26 = .ok (.isub, 1) := by decide +kernel
theorem dX12_isPart_27 : decode cX12_isPart 27 = .ok (.if_icmp .gt 7, 3) := by decide +kernel
theorem dX12_isPart_30 : decode cX12_isPart 30 = .ok (.iconst 1, 1) := by decide +kernel
theorem dX12_isPart_31 : decode cX12_isPart 31 = .ok (.goto 4, 3) := by decide +kernel
theorem dX12_isPart_34 : decode cX12_isPart 34 = .ok (.iconst 0, 1) := by decide +kernel
theorem dX12_isPart_35 : decode cX12_isPart 35 = .ok (.ireturn, 1) := by decide +kernel
theorem dX12_copy_0 : decode cX12_copy 0 = .ok (.iload_n 1, 1) := by decide +kernel
theorem dX12_copy_1 : decode cX12_copy 1 = .ok (.invokestatic 57, 3) := by decide +kernel
theorem dX12_copy_4 : decode cX12_copy 4 = .ok (.ifCond .eq 10, 3) := by decide +kernel
theorem dX12_copy_7 : decode cX12_copy 7 = .ok (.iload_n 3, 1) := by decide +kernel
theorem dX12_copy_8 : decode cX12_copy 8 = .ok (.invokestatic 57, 3) := by decide +kernel
theorem dX12_copy_11 : decode cX12_copy 11 = .ok (.ifCond .ne 6, 3) := by decide +kernel
theorem dX12_copy_14 : decode cX12_copy 14 = .ok (.ldc 61, 2) := by decide +kernel
theorem dX12_copy_16 : decode cX12_copy 16 = .ok (.ireturn, 1) := by decide +kernel
theorem dX12_copy_17 : decode cX12_copy 17 = .ok (.aload_n 0, 1) := by decide +kernel
theorem dX12_copy_18 : decode cX12_copy 18 = .ok (.iload_n 1, 1) := by decide +kernel
theorem dX12_copy_19 : decode cX12_copy 19 = .ok (.invokevirtual 69, 3) := by decide +kernel
theorem dX12_copy_22 : decode cX12_copy 22 = .ok (.ifCond .ne 11, 3) := by decide +kernel
theorem dX12_copy_25 : decode cX12_copy 25 = .ok (.aload_n 0, 1) := by decide +kernel
theorem dX12_copy_26 : decode cX12_copy 26 = .ok (.iload_n 3, 1) := by decide +kernel
theorem dX12_copy_27 : decode cX12_copy 27 = .ok (.invokevirtual 69, 3) := by decide +kernel
theorem dX12_copy_30 : decode cX12_copy 30 = .ok (.ifCond .eq 9, 3) := by decide +kernel
theorem dX12_copy_33 : decode cX12_copy 33 = .ok (.aload_n 0, 1) := by decide +kernel
theorem dX12_copy_34 : decode cX12_copy 34 = .ok (.iconst 1, 1) := by decide +kernel
theorem dX12_copy_35 : decode cX12_copy 35 = .ok (.invokevirtual 62, 3) := by decide +kernel
theorem dX12_copy_38 : decode cX12_copy 38 = .ok (.ireturn, 1) := by decide +kernel
theorem dX12_copy_39 : decode cX12_copy 39 = .ok (.aload_n 0, 1) := by decide +kernel
theorem dX12_copy_40 : decode cX12_copy 40 = .ok (.getfield 7, 3) := by decide +kernel
theorem dX12_copy_43 : decode cX12_copy 43 = .ok (.iload_n 1, 1) := by decide +kernel
theorem dX12_copy_44 : decode cX12_copy 44 = .ok (.iaload, 1) := by decide +kernel
theorem dX12_copy_45 : decode cX12_copy 45 = .ok (.aload_n 0, 1) := by decide +kernel
theorem dX12_copy_46 : decode cX12_copy 46 = .ok (.getfield 7, 3) := by decide +kernel
theorem dX12_copy_49 : decode cX12_copy 49 = .ok (.iload_n 3, 1) := by decide +kernel
theorem dX12_copy_50 : decode cX12_copy 50 = .ok (.iaload, 1) := by decide +kernel
theorem dX12_copy_51 : decode cX12_copy 51 = .ok (.if_icmp .eq 9, 3) := by decide +kernel
theorem dX12_copy_54 : decode cX12_copy 54 = .ok (.aload_n 0, 1) := by decide +kernel
theorem dX12_copy_55 : decode cX12_copy 55 = .ok (.iconst 5, 1) := by decide +kernel
theorem dX12_copy_56 : decode cX12_copy 56 = .ok (.invokevirtual 62, 3) := by decide +kernel
theorem dX12_copy_59 : decode cX12_copy 59 = .ok (.ireturn, 1) := by decide +kernel
theorem dX12_copy_60 : decode cX12_copy 60 = .ok (.aload_n 0, 1) := by decide +kernel
theorem dX12_copy_61 : decode cX12_copy 61 = .ok (.iload_n 1, 1) := by decide +kernel
theorem dX12_copy_62 : decode cX12_copy 62 = .ok (.iload_n 2, 1) := by decide +kernel
theorem dX12_copy_63 : decode cX12_copy 63 = .ok (.iload 5, 2) := by decide +kernel
theorem dX12_copy_65 : decode cX12_copy 65 = .ok (.invokevirtual 76, 3) := by decide +kernel
theorem dX12_copy_68 : decode cX12_copy 68 = .ok (.ifCond .eq 15, 3) := by decide +kernel
theorem dX12_copy_71 : decode cX12_copy 71 = .ok (.aload_n 0, 1) := by decide +kernel
theorem dX12_copy_72 : decode cX12_copy 72 = .ok (.iload_n 3, 1) := by decide +kernel
theorem dX12_copy_73 : decode cX12_copy 73 = .ok (.iload 4, 2) := by decide +kernel
theorem dX12_copy_75 : decode cX12_copy 75 = .ok (.iload 5, 2) := by decide +kernel
theorem dX12_copy_77 : decode cX12_copy 77 = .ok (.invokevirtual 76, 3) := by decide +kernel
theorem dX12_copy_80 : decode cX12_copy 80 = .ok (.ifCond .ne 9, 3) := by decide +kernel
theorem dX12_copy_83 : decode cX12_copy 83 = .ok (.aload_n 0, 1) := by decide +kernel
theorem dX12_copy_84 : decode cX12_copy 84 = .ok (.iconst 2, 1) := by decide +kernel
theorem dX12_copy_85 : decode cX12_copy 85 = .ok (.invokevirtual 62, 3) := by decide +kernel
theorem dX12_copy_88 : decode cX12_copy 88 = .ok (.ireturn, 1) := by decide +kernel
theorem dX12_copy_89 : decode cX12_copy 89 = .ok (.iconst 0, 1) := by decide +kernel
theorem dX12_copy_90 : decode cX12_copy 90 = .ok (.istore 6, 2) := by decide +kernel
theorem dX12_copy_92 : decode cX12_copy 92 = .ok (.iload 6, 2) := by decide +kernel
theorem dX12_copy_94 : decode cX12_copy 94 = .ok (.iload 5, 2) := by decide +kernel
theorem dX12_copy_96 : decode cX12_copy 96 = .ok (.if_icmp .ge 30, 3) := by decide +kernel
theorem dX12_copy_99 : decode cX12_copy 99 = .ok (.aload_n 0, 1) := by decide +kernel
theorem dX12_copy_100 : decode cX12_copy 100 = .ok (.getfield 19, 3) := by decide +kernel
theorem dX12_copy_103 : decode cX12_copy 103 = .ok (.iload 6, 2) := by decide +kernel
theorem dX12_copy_105 : decode cX12_copy 105 = .ok (.aload_n 0, 1) := by decide +kernel
theorem dX12_copy_106 : decode cX12_copy 106 = .ok (.getfield 16, 3) := by decide +kernel
theorem dX12_copy_109 : decode cX12_copy 109 = .ok (.bipush 40, 2) := by decide +kernel
theorem dX12_copy_111 : decode cX12_copy 111 = .ok (.iload_n 1, 1) := by decide +kernel
theorem dX12_copy_112 : decode cX12_copy 112 = .ok (.imul, 1) := by decide +kernel
theorem dX12_copy_113 : decode cX12_copy 113 = .ok (.iload_n 2, 1) := by decide +kernel
theorem dX12_copy_114 : decode cX12_copy 114 = .ok (.iadd, 1) := by decide +kernel
theorem dX12_copy_115 : decode cX12_copy 115 = .ok (.iload 6, 2) := by decide +kernel
theorem dX12_copy_117 : decode cX12_copy 117 = .ok (.iadd, 1) := by decide +kernel
theorem dX12_copy_118 : decode cX12_copy 118 = .ok (.iaload, 1) := by decide +kernel
theorem dX12_copy_119 : decode cX12_copy 119 = .ok (.iastore, 1) := by decide +kernel
theorem dX12_copy_120 : decode cX12_copy 120 = .ok (.iinc 6 1, 3) := by decide +kernel
theorem dX12_copy_123 : decode cX12_copy 123 = .ok (.goto (-31), 3) := by decide +kernel
theorem dX12_copy_126 : decode cX12_copy 126 = .ok (.iconst 0, 1) := by decide +kernel
theorem dX12_copy_127 : decode cX12_copy 127 = .ok (.istore 6, 2) := by decide +kernel
theorem dX12_copy_129 : decode cX12_copy 129 = .ok (.iload 6, 2) := by decide +kernel
theorem dX12_copy_131 : decode cX12_copy 131 = .ok (.iload 5, 2) := by decide +kernel
theorem dX12_copy_133 : decode cX12_copy 133 = .ok (.if_icmp .ge 31, 3) := by decide +kernel
theorem dX12_copy_136 : decode cX12_copy 136 = .ok (.aload_n 0, 1) := by decide +kernel
theorem dX12_copy_137 : decode cX12_copy 137 = .ok (.getfield 16, 3) := by decide +kernel
theorem dX12_copy_140 : decode cX12_copy 140 = .ok (.bipush 40, 2) := by decide +kernel
theorem dX12_copy_142 : decode cX12_copy 142 = .ok (.iload_n 3, 1) := by decide +kernel
theorem dX12_copy_143 : decode cX12_copy 143 = .ok (.imul, 1) := by decide +kernel
theorem dX12_copy_144 : decode cX12_copy 144 = .ok (.iload 4, 2) := by decide +kernel
theorem dX12_copy_146 : decode cX12_copy 146 = .ok (.iadd, 1) := by decide +kernel
theorem dX12_copy_147 : decode cX12_copy 147 = .ok (.iload 6, 2) := by decide +kernel
theorem dX12_copy_149 : decode cX12_copy 149 = .ok (.iadd, 1) := by decide +kernel
theorem dX12_copy_150 : decode cX12_copy 150 = .ok (.aload_n 0, 1) := by decide +kernel
theorem dX12_copy_151 : decode cX12_copy 151 = .ok (.getfield 19, 3) := by decide +kernel
theorem dX12_copy_154 : decode cX12_copy 154 = .ok (.iload 6, 2) := by decide +kernel
theorem dX12_copy_156 : decode cX12_copy 156 = .ok (.iaload, 1) := by decide +kernel
theorem dX12_copy_157 : decode cX12_copy 157 = .ok (.iastore, 1) := by decide +kernel
theorem dX12_copy_158 : decode cX12_copy 158 = .ok (.iinc 6 1, 3) := by decide +kernel
theorem dX12_copy_161 : decode cX12_copy 161 = .ok (.goto (-32), 3) := by decide +kernel
theorem dX12_copy_164 : decode cX12_copy 164 = .ok (.aload_n 0, 1) := by decide +kernel
theorem dX12_copy_165 : decode cX12_copy 165 = .ok (.iload 5, 2) := by decide +kernel
theorem dX12_copy_167 : decode cX12_copy 167 = .ok (.invokevirtual 66, 3) := by decide +kernel
theorem dX12_copy_170 : decode cX12_copy 170 = .ok (.ireturn, 1) := by decide +kernel
theorem dX12_drop_0 : decode cX12_drop 0 = .ok (.iload_n 1, 1) := by decide +kernel
theorem dX12_drop_1 : decode cX12_drop 1 = .ok (.invokestatic 57, 3) := by decide +kernel
theorem dX12_drop_4 : decode cX12_drop 4 = .ok (.ifCond .ne 6, 3) := by decide +kernel
theorem dX12_drop_7 : decode cX12_drop 7 = .ok (.ldc 61, 2) := by decide +kernel
theorem dX12_drop_9 : decode cX12_drop 9 = .ok (.ireturn, 1) := by decide +kernel
theorem dX12_drop_10 : decode cX12_drop 10 = .ok (.aload_n 0, 1) := by decide +kernel
theorem dX12_drop_11 : decode cX12_drop 11 = .ok (.iload_n 1, 1) := by decide +kernel
theorem dX12_drop_12 : decode cX12_drop 12 = .ok (.invokevirtual 69, 3) := by decide +kernel
theorem dX12_drop_15 : decode cX12_drop 15 = .ok (.ifCond .eq 9, 3) := by decide +kernel
theorem dX12_drop_18 : decode cX12_drop 18 = .ok (.aload_n 0, 1) := by decide +kernel
theorem dX12_drop_19 : decode cX12_drop 19 = .ok (.iconst 1, 1) := by decide +kernel
theorem dX12_drop_20 : decode cX12_drop 20 = .ok (.invokevirtual 62, 3) := by decide +kernel
theorem dX12_drop_23 : decode cX12_drop 23 = .ok (.ireturn, 1) := by decide +kernel
theorem dX12_drop_24 : decode cX12_drop 24 = .ok (.aload_n 0, 1) := by decide +kernel
theorem dX12_drop_25 : decode cX12_drop 25 = .ok (.getfield 7, 3) := by decide +kernel
theorem dX12_drop_28 : decode cX12_drop 28 = .ok (.iload_n 1, 1) := by decide +kernel
theorem dX12_drop_29 : decode cX12_drop 29 = .ok (.ldc 47, 2) := by decide +kernel
theorem dX12_drop_31 : decode cX12_drop 31 = .ok (.iastore, 1) := by decide +kernel
theorem dX12_drop_32 : decode cX12_drop 32 = .ok (.aload_n 0, 1) := by decide +kernel
theorem dX12_drop_33 : decode cX12_drop 33 = .ok (.aload_n 0, 1) := by decide +kernel
theorem dX12_drop_34 : decode cX12_drop 34 = .ok (.getfield 13, 3) := by decide +kernel
theorem dX12_drop_37 : decode cX12_drop 37 = .ok (.iload_n 1, 1) := by decide +kernel
theorem dX12_drop_38 : decode cX12_drop 38 = .ok (.iaload, 1) := by decide +kernel
theorem dX12_drop_39 : decode cX12_drop 39 = .ok (.invokevirtual 66, 3) := by decide +kernel
theorem dX12_drop_42 : decode cX12_drop 42 = .ok (.ireturn, 1) := by decide +kernel
theorem dX12_feed_0 : decode cX12_feed 0 = .ok (.iload_n 1, 1) := by decide +kernel
theorem dX12_feed_1 : decode cX12_feed 1 = .ok (.iconst 0, 1) := by decide +kernel
theorem dX12_feed_2 : decode cX12_feed 2 = .ok (.sipush 255, 3) := by decide +kernel
theorem dX12_feed_5 : decode cX12_feed 5 = .ok (.invokestatic 53, 3) := by decide +kernel
theorem dX12_feed_8 : decode cX12_feed 8 = .ok (.ifCond .ne 6, 3) := by decide +kernel
theorem dX12_feed_11 : decode cX12_feed 11 = .ok (.ldc 61, 2) := by decide +kernel
theorem dX12_feed_13 : decode cX12_feed 13 = .ok (.ireturn, 1) := by decide +kernel
theorem dX12_feed_14 : decode cX12_feed 14 = .ok (.aload_n 0, 1) := by decide +kernel
theorem dX12_feed_15 : decode cX12_feed 15 = .ok (.getfield 79, 3) := by decide +kernel
theorem dX12_feed_18 : decode cX12_feed 18 = .ok (.bipush 120, 2) := by decide +kernel
theorem dX12_feed_20 : decode cX12_feed 20 = .ok (.if_icmp .ne 6, 3) := by decide +kernel
theorem dX12_feed_23 : decode cX12_feed 23 = .ok (.ldc 82, 2) := by decide +kernel
theorem dX12_feed_25 : decode cX12_feed 25 = .ok (.ireturn, 1) := by decide +kernel
theorem dX12_feed_26 : decode cX12_feed 26 = .ok (.aload_n 0, 1) := by decide +kernel
theorem dX12_feed_27 : decode cX12_feed 27 = .ok (.getfield 22, 3) := by decide +kernel
theorem dX12_feed_30 : decode cX12_feed 30 = .ok (.aload_n 0, 1) := by decide +kernel
theorem dX12_feed_31 : decode cX12_feed 31 = .ok (.getfield 79, 3) := by decide +kernel
theorem dX12_feed_34 : decode cX12_feed 34 = .ok (.iload_n 1, 1) := by decide +kernel
theorem dX12_feed_35 : decode cX12_feed 35 = .ok (.iastore, 1) := by decide +kernel
theorem dX12_feed_36 : decode cX12_feed 36 = .ok (.aload_n 0, 1) := by decide +kernel
theorem dX12_feed_37 : decode cX12_feed 37 = .ok (.dup, 1) := by decide +kernel
theorem dX12_feed_38 : decode cX12_feed 38 = .ok (.getfield 79, 3) := by decide +kernel
theorem dX12_feed_41 : decode cX12_feed 41 = .ok (.iconst 1, 1) := by decide +kernel
theorem dX12_feed_42 : decode cX12_feed 42 = .ok (.iadd, 1) := by decide +kernel
theorem dX12_feed_43 : decode cX12_feed 43 = .ok (.putfield 79, 3) := by decide +kernel
theorem dX12_feed_46 : decode cX12_feed 46 = .ok (.aload_n 0, 1) := by decide +kernel
theorem dX12_feed_47 : decode cX12_feed 47 = .ok (.getfield 79, 3) := by decide +kernel
theorem dX12_feed_50 : decode cX12_feed 50 = .ok (.ireturn, 1) := by decide +kernel
theorem dX12_byteAt_0 : decode cX12_byteAt 0 = .ok (.iload_n 1, 1) := by decide +kernel
theorem dX12_byteAt_1 : decode cX12_byteAt 1 = .ok (.aload_n 0, 1) := by decide +kernel
theorem dX12_byteAt_2 : decode cX12_byteAt 2 = .ok (.getfield 79, 3) := by decide +kernel
theorem dX12_byteAt_5 : decode cX12_byteAt 5 = .ok (.if_icmp .ge 12, 3) := by decide +kernel
theorem dX12_byteAt_8 : decode cX12_byteAt 8 = .ok (.aload_n 0, 1) := by decide +kernel
theorem dX12_byteAt_9 : decode cX12_byteAt 9 = .ok (.getfield 22, 3) := by decide +kernel
theorem dX12_byteAt_12 : decode cX12_byteAt 12 = .ok (.iload_n 1, 1) := by decide +kernel
theorem dX12_byteAt_13 : decode cX12_byteAt 13 = .ok (.iaload, 1) := by decide +kernel
theorem dX12_byteAt_14 : decode cX12_byteAt 14 = .ok (.goto 4, 3) := by decide +kernel
theorem dX12_byteAt_17 : decode cX12_byteAt 17 = .ok (.iconst (-1), 1) := by decide +kernel
theorem dX12_byteAt_18 : decode cX12_byteAt 18 = .ok (.ireturn, 1) := by decide +kernel
theorem dX12_advances_0 : decode cX12_advances 0 = .ok (.aload_n 0, 1) := by decide +kernel
theorem dX12_advances_1 : decode cX12_advances 1 = .ok (.aload_n 0, 1) := by decide +kernel
theorem dX12_advances_2 : decode cX12_advances 2 = .ok (.getfield 83, 3) := by decide +kernel
theorem dX12_advances_5 : decode cX12_advances 5 = .ok (.putfield 86, 3) := by decide +kernel
theorem dX12_advances_8 : decode cX12_advances 8 = .ok (.aload_n 0, 1) := by decide +kernel
theorem dX12_advances_9 : decode cX12_advances 9 = .ok (.aload_n 0, 1) := by decide +kernel
theorem dX12_advances_10 : decode cX12_advances 10 = .ok (.getfield 83, 3) := by decide +kernel
theorem dX12_advances_13 : decode cX12_advances 13 = .ok (.invokevirtual 89, 3) := by decide +kernel
theorem dX12_advances_16 : decode cX12_advances 16 = .ok (.istore_n 1, 1) := by decide +kernel
theorem dX12_advances_17 : decode cX12_advances 17 = .ok (.aload_n 0, 1) := by decide +kernel
theorem dX12_advances_18 : decode cX12_advances 18 = .ok (.iload_n 1, 1) := by decide +kernel
theorem dX12_advances_19 : decode cX12_advances 19 = .ok (.putfield 92, 3) := by decide +kernel
theorem dX12_advances_22 : decode cX12_advances 22 = .ok (.iload_n 1, 1) := by decide +kernel
theorem dX12_advances_23 : decode cX12_advances 23 = .ok (.bipush 48, 2) := by decide +kernel
theorem dX12_advances_25 : decode cX12_advances 25 = .ok (.bipush 57, 2) := by decide +kernel
theorem dX12_advances_27 : decode cX12_advances 27 = .ok (.invokestatic 53, 3) := by decide +kernel
theorem dX12_advances_30 : decode cX12_advances 30 = .ok (.ifCond .eq 105, 3) := by decide +kernel
theorem dX12_advances_33 : decode cX12_advances 33 = .ok (.aload_n 0, 1) := by decide +kernel
theorem dX12_advances_34 : decode cX12_advances 34 = .ok (.iconst 0, 1) := by decide +kernel
theorem dX12_advances_35 : decode cX12_advances 35 = .ok (.putfield 92, 3) := by decide +kernel
theorem dX12_advances_38 : decode cX12_advances 38 = .ok (.aload_n 0, 1) := by decide +kernel
theorem dX12_advances_39 : decode cX12_advances 39 = .ok (.aload_n 0, 1) := by decide +kernel
theorem dX12_advances_40 : decode cX12_advances 40 = .ok (.getfield 83, 3) := by decide +kernel
theorem dX12_advances_43 : decode cX12_advances 43 = .ok (.invokevirtual 89, 3) := by decide +kernel
theorem dX12_advances_46 : decode cX12_advances 46 = .ok (.bipush 48, 2) := by decide +kernel
theorem dX12_advances_48 : decode cX12_advances 48 = .ok (.bipush 57, 2) := by decide +kernel
theorem dX12_advances_50 : decode cX12_advances 50 = .ok (.invokestatic 53, 3) := by decide +kernel
theorem dX12_advances_53 : decode cX12_advances 53 = .ok (.ifCond .eq 59, 3) := by decide +kernel
theorem dX12_advances_56 : decode cX12_advances 56 = .ok (.aload_n 0, 1) := by decide +kernel
theorem dX12_advances_57 : decode cX12_advances 57 = .ok (.aload_n 0, 1) := by decide +kernel
theorem dX12_advances_58 : decode cX12_advances 58 = .ok (.getfield 83, 3) := by decide +kernel
theorem dX12_advances_61 : decode cX12_advances 61 = .ok (.aload_n 0, 1) := by decide +kernel
theorem dX12_advances_62 : decode cX12_advances 62 = .ok (.getfield 86, 3) := by decide +kernel
theorem dX12_advances_65 : decode cX12_advances 65 = .ok (.isub, 1) := by decide +kernel
theorem dX12_advances_66 : decode cX12_advances 66 = .ok (.iconst 2, 1) := by decide +kernel
theorem dX12_advances_67 : decode cX12_advances 67 = .ok (.if_icmp .ge 25, 3) := by decide +kernel
theorem dX12_advances_70 : decode cX12_advances 70 = .ok (.bipush 10, 2) := by decide +kernel
theorem dX12_advances_72 : decode cX12_advances 72 = .ok (.aload_n 0, 1) := by decide +kernel
theorem dX12_advances_73 : decode cX12_advances 73 = .ok (.getfield 92, 3) := by decide +kernel
theorem dX12_advances_76 : decode cX12_advances 76 = .ok (.imul, 1) := by decide +kernel
theorem dX12_advances_77 : decode cX12_advances 77 = .ok (.aload_n 0, 1) := by decide +kernel
theorem dX12_advances_78 : decode cX12_advances 78 = .ok (.aload_n 0, 1) := by decide +kernel
theorem dX12_advances_79 : decode cX12_advances 79 = .ok (.getfield 83, 3) := by decide +kernel
theorem dX12_advances_82 : decode cX12_advances 82 = .ok (.invokevirtual 89, 3) := by decide +kernel
theorem dX12_advances_85 : decode cX12_advances 85 = .ok (.iadd, 1) := by decide +kernel
theorem dX12_advances_86 : decode cX12_advances 86 = .ok (.bipush 48, 2) := by decide +kernel
theorem dX12_advances_88 : decode cX12_advances 88 = .ok (.isub, 1) := by decide +kernel
theorem dX12_advances_89 : decode cX12_advances 89 = .ok (.goto 7, 3) := by decide +kernel
theorem dX12_advances_92 : decode cX12_advances 92 = .ok (.aload_n 0, 1) := by decide +kernel
theorem dX12_advances_93 : decode cX12_advances 93 = .ok (.getfield 92, 3) := by decide +kernel
theorem dX12_advances_96 : decode cX12_advances 96 = .ok (.putfield 92, 3) := by decide +kernel
theorem dX12_advances_99 : decode cX12_advances 99 = .ok (.aload_n 0, 1) := by decide +kernel
theorem dX12_advances_100 : decode cX12_advances 100 = .ok (.dup, 1) := by decide +kernel
theorem dX12_advances_101 : decode cX12_advances 101 = .ok (.getfield 83, 3) := by decide +kernel
theorem dX12_advances_104 : decode cX12_advances 104 = .ok (.iconst 1, 1) := by decide +kernel
theorem dX12_advances_105 : decode cX12_advances 105 = .ok (.iadd, 1) := by decide +kernel
theorem dX12_advances_106 : decode cX12_advances 106 = .ok (.putfield 83, 3) := by decide +kernel
theorem dX12_advances_109 : decode cX12_advances 109 = .ok (.goto (-71), 3) := by decide +kernel
theorem dX12_advances_112 : decode cX12_advances 112 = .ok (.aload_n 0, 1) := by decide +kernel
theorem dX12_advances_113 : decode cX12_advances 113 = .ok (.aload_n 0, 1) := by decide +kernel
theorem dX12_advances_114 : decode cX12_advances 114 = .ok (.getfield 83, 3) := by decide +kernel
theorem dX12_advances_117 : decode cX12_advances 117 = .ok (.aload_n 0, 1) := by decide +kernel
theorem dX12_advances_118 : decode cX12_advances 118 = .ok (.getfield 86, 3) := by decide +kernel
theorem dX12_advances_121 : decode cX12_advances 121 = .ok (.isub, 1) := by decide +kernel
theorem dX12_advances_122 : decode cX12_advances 122 = .ok (.iconst 3, 1) := by decide +kernel
theorem dX12_advances_123 : decode cX12_advances 123 = .ok (.if_icmp .ge 7, 3) := by decide +kernel
theorem dX12_advances_126 : decode cX12_advances 126 = .ok (.iconst 2, 1) := by decide +kernel
theorem dX12_advances_127 : decode cX12_advances 127 = .ok (.goto 4, 3) := by decide +kernel
theorem dX12_advances_130 : decode cX12_advances 130 = .ok (.iconst 5, 1) := by decide +kernel
theorem dX12_advances_131 : decode cX12_advances 131 = .ok (.putfield 95, 3) := by decide +kernel
theorem dX12_advances_134 : decode cX12_advances 134 = .ok (.return_, 1) := by decide +kernel
theorem dX12_advances_135 : decode cX12_advances 135 = .ok (.aload_n 0, 1) := by decide +kernel
theorem dX12_advances_136 : decode cX12_advances 136 = .ok (.iload_n 1, 1) := by decide +kernel
theorem dX12_advances_137 : decode cX12_advances 137 = .ok (.ifCond .ge 7, 3) := by decide +kernel
theorem dX12_advances_140 : decode cX12_advances 140 = .ok (.iconst 0, 1) := by decide +kernel
theorem dX12_advances_141 : decode cX12_advances 141 = .ok (.goto 39, 3) := by decide +kernel
theorem dX12_advances_144 : decode cX12_advances 144 = .ok (.iload_n 1, 1) := by decide +kernel
theorem dX12_advances_145 : decode cX12_advances 145 = .ok (.bipush 97, 2) := by decide +kernel
theorem dX12_advances_147 : decode cX12_advances 147 = .ok (.bipush 122, 2) := by decide +kernel
theorem dX12_advances_149 : decode cX12_advances 149 = .ok (.invokestatic 53, 3) := by decide +kernel
theorem dX12_advances_152 : decode cX12_advances 152 = .ok (.ifCond .eq 7, 3) := by decide +kernel
theorem dX12_advances_155 : decode cX12_advances 155 = .ok (.iconst 1, 1) := by decide +kernel
theorem dX12_advances_156 : decode cX12_advances 156 = .ok (.goto 24, 3) := by decide +kernel
theorem dX12_advances_159 : decode cX12_advances 159 = .ok (.iload_n 1, 1) := by decide +kernel
theorem dX12_advances_160 : decode cX12_advances 160 = .ok (.bipush 44, 2) := by decide +kernel
theorem dX12_advances_162 : decode cX12_advances 162 = .ok (.if_icmp .ne 7, 3) := by decide +kernel
theorem dX12_advances_165 : decode cX12_advances 165 = .ok (.iconst 3, 1) := by decide +kernel
theorem dX12_advances_166 : decode cX12_advances 166 = .ok (.goto 14, 3) := by decide +kernel
theorem dX12_advances_169 : decode cX12_advances 169 = .ok (.iload_n 1, 1) := by decide +kernel
theorem dX12_advances_170 : decode cX12_advances 170 = .ok (.bipush 59, 2) := by decide +kernel
theorem dX12_advances_172 : decode cX12_advances 172 = .ok (.if_icmp .ne 7, 3) := by decide +kernel
theorem dX12_advances_175 : decode cX12_advances 175 = .ok (.iconst 4, 1) := by decide +kernel
theorem dX12_advances_176 : decode cX12_advances 176 = .ok (.goto 4, 3) := by decide +kernel
theorem dX12_advances_179 : decode cX12_advances 179 = .ok (.iconst 5, 1) := by decide +kernel
theorem dX12_advances_180 : decode cX12_advances 180 = .ok (.putfield 95, 3) := by decide +kernel
theorem dX12_advances_183 : decode cX12_advances 183 = .ok (.aload_n 0, 1) := by decide +kernel
theorem dX12_advances_184 : decode cX12_advances 184 = .ok (.dup, 1) := by decide +kernel
theorem dX12_advances_185 : decode cX12_advances 185 = .ok (.getfield 83, 3) := by decide +kernel
theorem dX12_advances_188 : decode cX12_advances 188 = .ok (.aload_n 0, 1) := by decide +kernel
theorem dX12_advances_189 : decode cX12_advances 189 = .ok (.getfield 95, 3) := by decide +kernel
theorem dX12_advances_192 : decode cX12_advances 192 = .ok (.ifCond .ne 7, 3) := by decide +kernel
theorem dX12_advances_195 : decode cX12_advances 195 = .ok (.iconst 0, 1) := by decide +kernel
theorem dX12_advances_196 : decode cX12_advances 196 = .ok (.goto 4, 3) := by decide +kernel
theorem dX12_advances_199 : decode cX12_advances 199 = .ok (.iconst 1, 1) := by decide +kernel
theorem dX12_advances_200 : decode cX12_advances 200 = .ok (.iadd, 1) := by decide +kernel
theorem dX12_advances_201 : decode cX12_advances 201 = .ok (.putfield 83, 3) := by decide +kernel
theorem dX12_advances_204 : decode cX12_advances 204 = .ok (.return_, 1) := by decide +kernel
theorem dX12_isWell_0 : decode cX12_isWell 0 = .ok (.aload_n 0, 1) := by decide +kernel
theorem dX12_isWell_1 : decode cX12_isWell 1 = .ok (.getfield 98, 3) := by decide +kernel
theorem dX12_isWell_4 : decode cX12_isWell 4 = .ok (.ifCond .ge 7, 3) := by decide +kernel
theorem dX12_isWell_7 : decode cX12_isWell 7 = .ok (.iconst 1, 1) := by decide +kernel
theorem dX12_isWell_8 : decode cX12_isWell 8 = .ok (.goto 4, 3) := by decide +kernel
theorem dX12_isWell_11 : decode cX12_isWell 11 = .ok (.iconst 0, 1) := by decide +kernel
theorem dX12_isWell_12 : decode cX12_isWell 12 = .ok (.ireturn, 1) := by decide +kernel
theorem dX12_takes_0 : decode cX12_takes 0 = .ok (.aload_n 0, 1) := by decide +kernel
theorem dX12_takes_1 : decode cX12_takes 1 = .ok (.invokevirtual 101, 3) := by decide +kernel
theorem dX12_takes_4 : decode cX12_takes 4 = .ok (.ifCond .ne 5, 3) := by decide +kernel
theorem dX12_takes_7 : decode cX12_takes 7 = .ok (.iconst 0, 1) := by decide +kernel
theorem dX12_takes_8 : decode cX12_takes 8 = .ok (.ireturn, 1) := by decide +kernel
theorem dX12_takes_9 : decode cX12_takes 9 = .ok (.iload_n 1, 1) := by decide +kernel
theorem dX12_takes_10 : decode cX12_takes 10 = .ok (.ifCond .ne 18, 3) := by decide +kernel
theorem dX12_takes_13 : decode cX12_takes 13 = .ok (.aload_n 0, 1) := by decide +kernel
theorem dX12_takes_14 : decode cX12_takes 14 = .ok (.aload_n 0, 1) := by decide +kernel
theorem dX12_takes_15 : decode cX12_takes 15 = .ok (.getfield 86, 3) := by decide +kernel
theorem dX12_takes_18 : decode cX12_takes 18 = .ok (.putfield 98, 3) := by decide +kernel
theorem dX12_takes_21 : decode cX12_takes 21 = .ok (.aload_n 0, 1) := by decide +kernel
theorem dX12_takes_22 : decode cX12_takes 22 = .ok (.iload_n 2, 1) := by decide +kernel
theorem dX12_takes_23 : decode cX12_takes 23 = .ok (.putfield 105, 3) := by decide +kernel
theorem dX12_takes_26 : decode cX12_takes 26 = .ok (.iconst 0, 1) := by decide +kernel
theorem dX12_takes_27 : decode cX12_takes 27 = .ok (.ireturn, 1) := by decide +kernel
theorem dX12_takes_28 : decode cX12_takes 28 = .ok (.aload_n 0, 1) := by decide +kernel
theorem dX12_takes_29 : decode cX12_takes 29 = .ok (.getfield 92, 3) := by decide +kernel
theorem dX12_takes_32 : decode cX12_takes 32 = .ok (.istore_n 3, 1) := by decide +kernel
theorem dX12_takes_33 : decode cX12_takes 33 = .ok (.aload_n 0, 1) := by decide +kernel
theorem dX12_takes_34 : decode cX12_takes 34 = .ok (.invokevirtual 108, 3) := by decide +kernel
theorem dX12_takes_37 : decode cX12_takes 37 = .ok (.iload_n 3, 1) := by decide +kernel
theorem dX12_takes_38 : decode cX12_takes 38 = .ok (.ireturn, 1) := by decide +kernel
theorem dX12_figure_0 : decode cX12_figure 0 = .ok (.aload_n 0, 1) := by decide +kernel
theorem dX12_figure_1 : decode cX12_figure 1 = .ok (.invokevirtual 101, 3) := by decide +kernel
theorem dX12_figure_4 : decode cX12_figure 4 = .ok (.ifCond .eq 18, 3) := by decide +kernel
theorem dX12_figure_7 : decode cX12_figure 7 = .ok (.aload_n 0, 1) := by decide +kernel
theorem dX12_figure_8 : decode cX12_figure 8 = .ok (.getfield 95, 3) := by decide +kernel
theorem dX12_figure_11 : decode cX12_figure 11 = .ok (.iconst 2, 1) := by decide +kernel
theorem dX12_figure_12 : decode cX12_figure 12 = .ok (.if_icmp .eq 10, 3) := by decide +kernel
theorem dX12_figure_15 : decode cX12_figure 15 = .ok (.aload_n 0, 1) := by decide +kernel
theorem dX12_figure_16 : decode cX12_figure 16 = .ok (.iconst 0, 1) := by decide +kernel
theorem dX12_figure_17 : decode cX12_figure 17 = .ok (.iconst 1, 1) := by decide +kernel
theorem dX12_figure_18 : decode cX12_figure 18 = .ok (.invokevirtual 111, 3) := by decide +kernel
theorem dX12_figure_21 : decode cX12_figure 21 = .ok (.ireturn, 1) := by decide +kernel
theorem dX12_figure_22 : decode cX12_figure 22 = .ok (.aload_n 0, 1) := by decide +kernel
theorem dX12_figure_23 : decode cX12_figure 23 = .ok (.aload_n 0, 1) := by decide +kernel
theorem dX12_figure_24 : decode cX12_figure 24 = .ok (.getfield 92, 3) := by decide +kernel
theorem dX12_figure_27 : decode cX12_figure 27 = .ok (.iload_n 1, 1) := by decide +kernel
theorem dX12_figure_28 : decode cX12_figure 28 = .ok (.iload_n 2, 1) := by decide +kernel
theorem dX12_figure_29 : decode cX12_figure 29 = .ok (.invokestatic 53, 3) := by decide +kernel
theorem dX12_figure_32 : decode cX12_figure 32 = .ok (.iconst 2, 1) := by decide +kernel
theorem dX12_figure_33 : decode cX12_figure 33 = .ok (.invokevirtual 111, 3) := by decide +kernel
theorem dX12_figure_36 : decode cX12_figure 36 = .ok (.ireturn, 1) := by decide +kernel
theorem dX12_kindOf_0 : decode cX12_kindOf 0 = .ok (.iload_n 0, 1) := by decide +kernel
theorem dX12_kindOf_1 : decode cX12_kindOf 1 = .ok (.bipush 99, 2) := by decide +kernel
theorem dX12_kindOf_3 : decode cX12_kindOf 3 = .ok (.if_icmp .ne 7, 3) := by decide +kernel
theorem dX12_kindOf_6 : decode cX12_kindOf 6 = .ok (.iconst 1, 1) := by decide +kernel
theorem dX12_kindOf_7 : decode cX12_kindOf 7 = .ok (.goto 44, 3) := by decide +kernel
theorem dX12_kindOf_10 : decode cX12_kindOf 10 = .ok (.iload_n 0, 1) := by decide +kernel
theorem dX12_kindOf_11 : decode cX12_kindOf 11 = .ok (.bipush 118, 2) := by decide +kernel
theorem dX12_kindOf_13 : decode cX12_kindOf 13 = .ok (.if_icmp .ne 7, 3) := by decide +kernel
theorem dX12_kindOf_16 : decode cX12_kindOf 16 = .ok (.iconst 2, 1) := by decide +kernel
theorem dX12_kindOf_17 : decode cX12_kindOf 17 = .ok (.goto 34, 3) := by decide +kernel
theorem dX12_kindOf_20 : decode cX12_kindOf 20 = .ok (.iload_n 0, 1) := by decide +kernel
theorem dX12_kindOf_21 : decode cX12_kindOf 21 = .ok (.bipush 109, 2) := by decide +kernel
theorem dX12_kindOf_23 : decode cX12_kindOf 23 = .ok (.if_icmp .ne 7, 3) := by decide +kernel
theorem dX12_kindOf_26 : decode cX12_kindOf 26 = .ok (.iconst 3, 1) := by decide +kernel
theorem dX12_kindOf_27 : decode cX12_kindOf 27 = .ok (.goto 24, 3) := by decide +kernel
theorem dX12_kindOf_30 : decode cX12_kindOf 30 = .ok (.iload_n 0, 1) := by decide +kernel
theorem dX12_kindOf_31 : decode cX12_kindOf 31 = .ok (.bipush 104, 2) := by decide +kernel
theorem dX12_kindOf_33 : decode cX12_kindOf 33 = .ok (.if_icmp .ne 7, 3) := by decide +kernel
theorem dX12_kindOf_36 : decode cX12_kindOf 36 = .ok (.iconst 4, 1) := by decide +kernel
theorem dX12_kindOf_37 : decode cX12_kindOf 37 = .ok (.goto 14, 3) := by decide +kernel
theorem dX12_kindOf_40 : decode cX12_kindOf 40 = .ok (.iload_n 0, 1) := by decide +kernel
theorem dX12_kindOf_41 : decode cX12_kindOf 41 = .ok (.bipush 101, 2) := by decide +kernel
theorem dX12_kindOf_43 : decode cX12_kindOf 43 = .ok (.if_icmp .ne 7, 3) := by decide +kernel
theorem dX12_kindOf_46 : decode cX12_kindOf 46 = .ok (.iconst 5, 1) := by decide +kernel
theorem dX12_kindOf_47 : decode cX12_kindOf 47 = .ok (.goto 4, 3) := by decide +kernel
theorem dX12_kindOf_50 : decode cX12_kindOf 50 = .ok (.iconst 0, 1) := by decide +kernel
theorem dX12_kindOf_51 : decode cX12_kindOf 51 = .ok (.ireturn, 1) := by decide +kernel
theorem dX12_next_0 : decode cX12_next 0 = .ok (.aload_n 0, 1) := by decide +kernel
theorem dX12_next_1 : decode cX12_next 1 = .ok (.aload_n 0, 1) := by decide +kernel
theorem dX12_next_2 : decode cX12_next 2 = .ok (.getfield 95, 3) := by decide +kernel
theorem dX12_next_5 : decode cX12_next 5 = .ok (.iconst 3, 1) := by decide +kernel
theorem dX12_next_6 : decode cX12_next 6 = .ok (.if_icmp .ne 7, 3) := by decide +kernel
theorem dX12_next_9 : decode cX12_next 9 = .ok (.iconst 1, 1) := by decide +kernel
theorem dX12_next_10 : decode cX12_next 10 = .ok (.goto 4, 3) := by decide +kernel
theorem dX12_next_13 : decode cX12_next 13 = .ok (.iconst 0, 1) := by decide +kernel
theorem dX12_next_14 : decode cX12_next 14 = .ok (.iconst 1, 1) := by decide +kernel
theorem dX12_next_15 : decode cX12_next 15 = .ok (.invokevirtual 111, 3) := by decide +kernel
theorem dX12_next_18 : decode cX12_next 18 = .ok (.pop, 1) := by decide +kernel
theorem dX12_next_19 : decode cX12_next 19 = .ok (.aload_n 0, 1) := by decide +kernel
theorem dX12_next_20 : decode cX12_next 20 = .ok (.iload_n 1, 1) := by decide +kernel
theorem dX12_next_21 : decode cX12_next 21 = .ok (.iload_n 2, 1) := by decide +kernel
theorem dX12_next_22 : decode cX12_next 22 = .ok (.invokevirtual 115, 3) := by decide +kernel
theorem dX12_next_25 : decode cX12_next 25 = .ok (.ireturn, 1) := by decide +kernel
theorem dX12_readsPerson_0 : decode cX12_readsPerson 0 = .ok (.aload_n 0, 1) := by decide +kernel
theorem dX12_readsPerson_1 : decode cX12_readsPerson 1 = .ok (.getfield 92, 3) := by decide +kernel
theorem dX12_readsPerson_4 : decode cX12_readsPerson 4 = .ok (.invokestatic 118, 3) := by decide +kernel
theorem dX12_readsPerson_7 : decode cX12_readsPerson 7 = .ok (.istore_n 1, 1) := by decide +kernel
theorem dX12_readsPerson_8 : decode cX12_readsPerson 8 = .ok (.aload_n 0, 1) := by decide +kernel
theorem dX12_readsPerson_9 : decode cX12_readsPerson 9 = .ok (.aload_n 0, 1) := by decide +kernel
theorem dX12_readsPerson_10 : decode cX12_readsPerson 10 = .ok (.getfield 28, 3) := by decide +kernel
theorem dX12_readsPerson_13 : decode cX12_readsPerson 13 = .ok (.iconst 4, 1) := by decide +kernel
theorem dX12_readsPerson_14 : decode cX12_readsPerson 14 = .ok (.iaload, 1) := by decide +kernel
theorem dX12_readsPerson_15 : decode cX12_readsPerson 15 = .ok (.bipush 6, 2) := by decide +kernel
theorem dX12_readsPerson_17 : decode cX12_readsPerson 17 = .ok (.if_icmp .ge 7, 3) := by decide +kernel
theorem dX12_readsPerson_20 : decode cX12_readsPerson 20 = .ok (.iconst 1, 1) := by decide +kernel
theorem dX12_readsPerson_21 : decode cX12_readsPerson 21 = .ok (.goto 4, 3) := by decide +kernel
theorem dX12_readsPerson_24 : decode cX12_readsPerson 24 = .ok (.iconst 0, 1) := by decide +kernel
theorem dX12_readsPerson_25 : decode cX12_readsPerson 25 = .ok (.iconst 3, 1) := by decide +kernel
theorem dX12_readsPerson_26 : decode cX12_readsPerson 26 = .ok (.invokevirtual 111, 3) := by decide +kernel
theorem dX12_readsPerson_29 : decode cX12_readsPerson 29 = .ok (.pop, 1) := by decide +kernel
theorem dX12_readsPerson_30 : decode cX12_readsPerson 30 = .ok (.iconst 5, 1) := by decide +kernel
theorem dX12_readsPerson_31 : decode cX12_readsPerson 31 = .ok (.bipush 6, 2) := by decide +kernel
theorem dX12_readsPerson_33 : decode cX12_readsPerson 33 = .ok (.aload_n 0, 1) := by decide +kernel
theorem dX12_readsPerson_34 : decode cX12_readsPerson 34 = .ok (.getfield 28, 3) := by decide +kernel
theorem dX12_readsPerson_37 : decode cX12_readsPerson 37 = .ok (.iconst 4, 1) := by decide +kernel
theorem dX12_readsPerson_38 : decode cX12_readsPerson 38 = .ok (.iaload, 1) := by decide +kernel
theorem dX12_readsPerson_39 : decode cX12_readsPerson 39 = .ok (.bipush 6, 2) := by decide +kernel
theorem dX12_readsPerson_41 : decode cX12_readsPerson 41 = .ok (.if_icmp .ge 12, 3) := by decide +kernel
theorem dX12_readsPerson_44 : decode cX12_readsPerson 44 = .ok (.aload_n 0, 1) := by decide +kernel
theorem dX12_readsPerson_45 : decode cX12_readsPerson 45 = .ok (.getfield 28, 3) := by decide +kernel
theorem dX12_readsPerson_48 : decode cX12_readsPerson 48 = .ok (.iconst 4, 1) := by decide +kernel
theorem dX12_readsPerson_49 : decode cX12_readsPerson 49 = .ok (.iaload, 1) := by decide +kernel
theorem dX12_readsPerson_50 : decode cX12_readsPerson 50 = .ok (.goto 4, 3) := by decide +kernel
theorem dX12_readsPerson_53 : decode cX12_readsPerson 53 = .ok (.iconst 0, 1) := by decide +kernel
theorem dX12_readsPerson_54 : decode cX12_readsPerson 54 = .ok (.imul, 1) := by decide +kernel
theorem dX12_readsPerson_55 : decode cX12_readsPerson 55 = .ok (.iadd, 1) := by decide +kernel
theorem dX12_readsPerson_56 : decode cX12_readsPerson 56 = .ok (.istore_n 2, 1) := by decide +kernel
theorem dX12_readsPerson_57 : decode cX12_readsPerson 57 = .ok (.aload_n 0, 1) := by decide +kernel
theorem dX12_readsPerson_58 : decode cX12_readsPerson 58 = .ok (.iconst 0, 1) := by decide +kernel
theorem dX12_readsPerson_59 : decode cX12_readsPerson 59 = .ok (.aload_n 0, 1) := by decide +kernel
theorem dX12_readsPerson_60 : decode cX12_readsPerson 60 = .ok (.getfield 28, 3) := by decide +kernel
theorem dX12_readsPerson_63 : decode cX12_readsPerson 63 = .ok (.iconst 0, 1) := by decide +kernel
theorem dX12_readsPerson_64 : decode cX12_readsPerson 64 = .ok (.iaload, 1) := by decide +kernel
theorem dX12_readsPerson_65 : decode cX12_readsPerson 65 = .ok (.invokevirtual 115, 3) := by decide +kernel
theorem dX12_readsPerson_68 : decode cX12_readsPerson 68 = .ok (.istore_n 3, 1) := by decide +kernel
theorem dX12_readsPerson_69 : decode cX12_readsPerson 69 = .ok (.aload_n 0, 1) := by decide +kernel
theorem dX12_readsPerson_70 : decode cX12_readsPerson 70 = .ok (.iconst 0, 1) := by decide +kernel
theorem dX12_readsPerson_71 : decode cX12_readsPerson 71 = .ok (.aload_n 0, 1) := by decide +kernel
theorem dX12_readsPerson_72 : decode cX12_readsPerson 72 = .ok (.getfield 28, 3) := by decide +kernel
theorem dX12_readsPerson_75 : decode cX12_readsPerson 75 = .ok (.iconst 0, 1) := by decide +kernel
theorem dX12_readsPerson_76 : decode cX12_readsPerson 76 = .ok (.iaload, 1) := by decide +kernel
theorem dX12_readsPerson_77 : decode cX12_readsPerson 77 = .ok (.invokevirtual 121, 3) := by decide +kernel
theorem dX12_readsPerson_80 : decode cX12_readsPerson 80 = .ok (.istore 4, 2) := by decide +kernel
theorem dX12_readsPerson_82 : decode cX12_readsPerson 82 = .ok (.aload_n 0, 1) := by decide +kernel
theorem dX12_readsPerson_83 : decode cX12_readsPerson 83 = .ok (.iconst 0, 1) := by decide +kernel
theorem dX12_readsPerson_84 : decode cX12_readsPerson 84 = .ok (.bipush 9, 2) := by decide +kernel
theorem dX12_readsPerson_86 : decode cX12_readsPerson 86 = .ok (.invokevirtual 121, 3) := by decide +kernel
theorem dX12_readsPerson_89 : decode cX12_readsPerson 89 = .ok (.istore 5, 2) := by decide +kernel
theorem dX12_readsPerson_91 : decode cX12_readsPerson 91 = .ok (.aload_n 0, 1) := by decide +kernel
theorem dX12_readsPerson_92 : decode cX12_readsPerson 92 = .ok (.iconst 0, 1) := by decide +kernel
theorem dX12_readsPerson_93 : decode cX12_readsPerson 93 = .ok (.bipush 9, 2) := by decide +kernel
theorem dX12_readsPerson_95 : decode cX12_readsPerson 95 = .ok (.invokevirtual 121, 3) := by decide +kernel
theorem dX12_readsPerson_98 : decode cX12_readsPerson 98 = .ok (.istore 6, 2) := by decide +kernel
theorem dX12_readsPerson_100 : decode cX12_readsPerson 100 = .ok (.aload_n 0, 1) := by decide +kernel
theorem dX12_readsPerson_101 : decode cX12_readsPerson 101 = .ok (.aload_n 0, 1) := by decide +kernel
theorem dX12_readsPerson_102 : decode cX12_readsPerson 102 = .ok (.getfield 95, 3) := by decide +kernel
theorem dX12_readsPerson_105 : decode cX12_readsPerson 105 = .ok (.iconst 4, 1) := by decide +kernel
theorem dX12_readsPerson_106 : decode cX12_readsPerson 106 = .ok (.if_icmp .ne 7, 3) := by decide +kernel
theorem dX12_readsPerson_109 : decode cX12_readsPerson 109 = .ok (.iconst 1, 1) := by decide +kernel
theorem dX12_readsPerson_110 : decode cX12_readsPerson 110 = .ok (.goto 4, 3) := by decide +kernel
theorem dX12_readsPerson_113 : decode cX12_readsPerson 113 = .ok (.iconst 0, 1) := by decide +kernel
theorem dX12_readsPerson_114 : decode cX12_readsPerson 114 = .ok (.iconst 1, 1) := by decide +kernel
theorem dX12_readsPerson_115 : decode cX12_readsPerson 115 = .ok (.invokevirtual 111, 3) := by decide +kernel
theorem dX12_readsPerson_118 : decode cX12_readsPerson 118 = .ok (.pop, 1) := by decide +kernel
theorem dX12_readsPerson_119 : decode cX12_readsPerson 119 = .ok (.aload_n 0, 1) := by decide +kernel
theorem dX12_readsPerson_120 : decode cX12_readsPerson 120 = .ok (.invokevirtual 101, 3) := by decide +kernel
theorem dX12_readsPerson_123 : decode cX12_readsPerson 123 = .ok (.ifCond .eq 59, 3) := by decide +kernel
theorem dX12_readsPerson_126 : decode cX12_readsPerson 126 = .ok (.aload_n 0, 1) := by decide +kernel
theorem dX12_readsPerson_127 : decode cX12_readsPerson 127 = .ok (.getfield 28, 3) := by decide +kernel
theorem dX12_readsPerson_130 : decode cX12_readsPerson 130 = .ok (.iload_n 2, 1) := by decide +kernel
theorem dX12_readsPerson_131 : decode cX12_readsPerson 131 = .ok (.iload_n 1, 1) := by decide +kernel
theorem dX12_readsPerson_132 : decode cX12_readsPerson 132 = .ok (.iastore, 1) := by decide +kernel
theorem dX12_readsPerson_133 : decode cX12_readsPerson 133 = .ok (.aload_n 0, 1) := by decide +kernel
theorem dX12_readsPerson_134 : decode cX12_readsPerson 134 = .ok (.getfield 28, 3) := by decide +kernel
theorem dX12_readsPerson_137 : decode cX12_readsPerson 137 = .ok (.iload_n 2, 1) := by decide +kernel
theorem dX12_readsPerson_138 : decode cX12_readsPerson 138 = .ok (.iconst 1, 1) := by decide +kernel
theorem dX12_readsPerson_139 : decode cX12_readsPerson 139 = .ok (.iadd, 1) := by decide +kernel
theorem dX12_readsPerson_140 : decode cX12_readsPerson 140 = .ok (.iload_n 3, 1) := by decide +kernel
theorem dX12_readsPerson_141 : decode cX12_readsPerson 141 = .ok (.iastore, 1) := by decide +kernel
theorem dX12_readsPerson_142 : decode cX12_readsPerson 142 = .ok (.aload_n 0, 1) := by decide +kernel
theorem dX12_readsPerson_143 : decode cX12_readsPerson 143 = .ok (.getfield 28, 3) := by decide +kernel
theorem dX12_readsPerson_146 : decode cX12_readsPerson 146 = .ok (.iload_n 2, 1) := by decide +kernel
theorem dX12_readsPerson_147 : decode cX12_readsPerson 147 = .ok (.iconst 2, 1) := by decide +kernel
theorem dX12_readsPerson_148 : decode cX12_readsPerson 148 = .ok (.iadd, 1) := by decide +kernel
theorem dX12_readsPerson_149 : decode cX12_readsPerson 149 = .ok (.iload 4, 2) := by decide +kernel
theorem dX12_readsPerson_151 : decode cX12_readsPerson 151 = .ok (.iastore, 1) := by decide +kernel
theorem dX12_readsPerson_152 : decode cX12_readsPerson 152 = .ok (.aload_n 0, 1) := by decide +kernel
theorem dX12_readsPerson_153 : decode cX12_readsPerson 153 = .ok (.getfield 28, 3) := by decide +kernel
theorem dX12_readsPerson_156 : decode cX12_readsPerson 156 = .ok (.iload_n 2, 1) := by decide +kernel
theorem dX12_readsPerson_157 : decode cX12_readsPerson 157 = .ok (.iconst 3, 1) := by decide +kernel
theorem dX12_readsPerson_158 : decode cX12_readsPerson 158 = .ok (.iadd, 1) := by decide +kernel
theorem dX12_readsPerson_159 : decode cX12_readsPerson 159 = .ok (.iload 5, 2) := by decide +kernel
theorem dX12_readsPerson_161 : decode cX12_readsPerson 161 = .ok (.iastore, 1) := by decide +kernel
theorem dX12_readsPerson_162 : decode cX12_readsPerson 162 = .ok (.aload_n 0, 1) := by decide +kernel
theorem dX12_readsPerson_163 : decode cX12_readsPerson 163 = .ok (.getfield 28, 3) := by decide +kernel
theorem dX12_readsPerson_166 : decode cX12_readsPerson 166 = .ok (.iload_n 2, 1) := by decide +kernel
theorem dX12_readsPerson_167 : decode cX12_readsPerson 167 = .ok (.iconst 4, 1) := by decide +kernel
theorem dX12_readsPerson_168 : decode cX12_readsPerson 168 = .ok (.iadd, 1) := by decide +kernel
theorem dX12_readsPerson_169 : decode cX12_readsPerson 169 = .ok (.iload 6, 2) := by decide +kernel
theorem dX12_readsPerson_171 : decode cX12_readsPerson 171 = .ok (.iastore, 1) := by decide +kernel
theorem dX12_readsPerson_172 : decode cX12_readsPerson 172 = .ok (.aload_n 0, 1) := by decide +kernel
theorem dX12_readsPerson_173 : decode cX12_readsPerson 173 = .ok (.getfield 28, 3) := by decide +kernel
theorem dX12_readsPerson_176 : decode cX12_readsPerson 176 = .ok (.iconst 4, 1) := by decide +kernel
theorem dX12_readsPerson_177 : decode cX12_readsPerson 177 = .ok (.dup2, 1) := by decide +kernel
theorem dX12_readsPerson_178 : decode cX12_readsPerson 178 = .ok (.iaload, 1) := by decide +kernel
theorem dX12_readsPerson_179 : decode cX12_readsPerson 179 = .ok (.iconst 1, 1) := by decide +kernel
theorem dX12_readsPerson_180 : decode cX12_readsPerson 180 = .ok (.iadd, 1) := by decide +kernel
theorem dX12_readsPerson_181 : decode cX12_readsPerson 181 = .ok (.iastore, 1) := by decide +kernel
theorem dX12_readsPerson_182 : decode cX12_readsPerson 182 = .ok (.return_, 1) := by decide +kernel
theorem dX12_house_0 : decode cX12_house 0 = .ok (.iconst 0, 1) := by decide +kernel
theorem dX12_house_1 : decode cX12_house 1 = .ok (.istore_n 1, 1) := by decide +kernel
theorem dX12_house_2 : decode cX12_house 2 = .ok (.iload_n 1, 1) := by decide +kernel
theorem dX12_house_3 : decode cX12_house 3 = .ok (.bipush 41, 2) := by decide +kernel
theorem dX12_house_5 : decode cX12_house 5 = .ok (.if_icmp .ge 16, 3) := by decide +kernel
theorem dX12_house_8 : decode cX12_house 8 = .ok (.aload_n 0, 1) := by decide +kernel
theorem dX12_house_9 : decode cX12_house 9 = .ok (.getfield 28, 3) := by decide +kernel
theorem dX12_house_12 : decode cX12_house 12 = .ok (.iload_n 1, 1) := by decide +kernel
theorem dX12_house_13 : decode cX12_house 13 = .ok (.iconst 0, 1) := by decide +kernel
theorem dX12_house_14 : decode cX12_house 14 = .ok (.iastore, 1) := by decide +kernel
theorem dX12_house_15 : decode cX12_house 15 = .ok (.iinc 1 1, 3) := by decide +kernel
theorem dX12_house_18 : decode cX12_house 18 = .ok (.goto (-16), 3) := by decide +kernel
theorem dX12_house_21 : decode cX12_house 21 = .ok (.aload_n 0, 1) := by decide +kernel
theorem dX12_house_22 : decode cX12_house 22 = .ok (.iconst 0, 1) := by decide +kernel
theorem dX12_house_23 : decode cX12_house 23 = .ok (.putfield 83, 3) := by decide +kernel
theorem dX12_house_26 : decode cX12_house 26 = .ok (.aload_n 0, 1) := by decide +kernel
theorem dX12_house_27 : decode cX12_house 27 = .ok (.iconst (-1), 1) := by decide +kernel
theorem dX12_house_28 : decode cX12_house 28 = .ok (.putfield 98, 3) := by decide +kernel
theorem dX12_house_31 : decode cX12_house 31 = .ok (.aload_n 0, 1) := by decide +kernel
theorem dX12_house_32 : decode cX12_house 32 = .ok (.invokevirtual 108, 3) := by decide +kernel
theorem dX12_house_35 : decode cX12_house 35 = .ok (.aload_n 0, 1) := by decide +kernel
theorem dX12_house_36 : decode cX12_house 36 = .ok (.aload_n 0, 1) := by decide +kernel
theorem dX12_house_37 : decode cX12_house 37 = .ok (.getfield 95, 3) := by decide +kernel
theorem dX12_house_40 : decode cX12_house 40 = .ok (.iconst 1, 1) := by decide +kernel
theorem dX12_house_41 : decode cX12_house 41 = .ok (.if_icmp .ne 16, 3) := by decide +kernel
theorem dX12_house_44 : decode cX12_house 44 = .ok (.aload_n 0, 1) := by decide +kernel
theorem dX12_house_45 : decode cX12_house 45 = .ok (.getfield 92, 3) := by decide +kernel
theorem dX12_house_48 : decode cX12_house 48 = .ok (.bipush 102, 2) := by decide +kernel
theorem dX12_house_50 : decode cX12_house 50 = .ok (.if_icmp .ne 7, 3) := by decide +kernel
theorem dX12_house_53 : decode cX12_house 53 = .ok (.iconst 1, 1) := by decide +kernel
theorem dX12_house_54 : decode cX12_house 54 = .ok (.goto 4, 3) := by decide +kernel
theorem dX12_house_57 : decode cX12_house 57 = .ok (.iconst 0, 1) := by decide +kernel
theorem dX12_house_58 : decode cX12_house 58 = .ok (.iconst 1, 1) := by decide +kernel
theorem dX12_house_59 : decode cX12_house 59 = .ok (.invokevirtual 111, 3) := by decide +kernel
theorem dX12_house_62 : decode cX12_house 62 = .ok (.pop, 1) := by decide +kernel
theorem dX12_house_63 : decode cX12_house 63 = .ok (.aload_n 0, 1) := by decide +kernel
theorem dX12_house_64 : decode cX12_house 64 = .ok (.getfield 28, 3) := by decide +kernel
theorem dX12_house_67 : decode cX12_house 67 = .ok (.iconst 0, 1) := by decide +kernel
theorem dX12_house_68 : decode cX12_house 68 = .ok (.aload_n 0, 1) := by decide +kernel
theorem dX12_house_69 : decode cX12_house 69 = .ok (.iconst 1, 1) := by decide +kernel
theorem dX12_house_70 : decode cX12_house 70 = .ok (.bipush 9, 2) := by decide +kernel
theorem dX12_house_72 : decode cX12_house 72 = .ok (.invokevirtual 115, 3) := by decide +kernel
theorem dX12_house_75 : decode cX12_house 75 = .ok (.iastore, 1) := by decide +kernel
theorem dX12_house_76 : decode cX12_house 76 = .ok (.aload_n 0, 1) := by decide +kernel
theorem dX12_house_77 : decode cX12_house 77 = .ok (.getfield 28, 3) := by decide +kernel
theorem dX12_house_80 : decode cX12_house 80 = .ok (.iconst 1, 1) := by decide +kernel
theorem dX12_house_81 : decode cX12_house 81 = .ok (.aload_n 0, 1) := by decide +kernel
theorem dX12_house_82 : decode cX12_house 82 = .ok (.iconst 0, 1) := by decide +kernel
theorem dX12_house_83 : decode cX12_house 83 = .ok (.aload_n 0, 1) := by decide +kernel
theorem dX12_house_84 : decode cX12_house 84 = .ok (.getfield 28, 3) := by decide +kernel
theorem dX12_house_87 : decode cX12_house 87 = .ok (.iconst 0, 1) := by decide +kernel
theorem dX12_house_88 : decode cX12_house 88 = .ok (.iaload, 1) := by decide +kernel
theorem dX12_house_89 : decode cX12_house 89 = .ok (.invokevirtual 121, 3) := by decide +kernel
theorem dX12_house_92 : decode cX12_house 92 = .ok (.iastore, 1) := by decide +kernel
theorem dX12_house_93 : decode cX12_house 93 = .ok (.aload_n 0, 1) := by decide +kernel
theorem dX12_house_94 : decode cX12_house 94 = .ok (.aload_n 0, 1) := by decide +kernel
theorem dX12_house_95 : decode cX12_house 95 = .ok (.getfield 95, 3) := by decide +kernel
theorem dX12_house_98 : decode cX12_house 98 = .ok (.iconst 4, 1) := by decide +kernel
theorem dX12_house_99 : decode cX12_house 99 = .ok (.if_icmp .ne 7, 3) := by decide +kernel
theorem dX12_house_102 : decode cX12_house 102 = .ok (.iconst 1, 1) := by decide +kernel
theorem dX12_house_103 : decode cX12_house 103 = .ok (.goto 4, 3) := by decide +kernel
theorem dX12_house_106 : decode cX12_house 106 = .ok (.iconst 0, 1) := by decide +kernel
theorem dX12_house_107 : decode cX12_house 107 = .ok (.iconst 1, 1) := by decide +kernel
theorem dX12_house_108 : decode cX12_house 108 = .ok (.invokevirtual 111, 3) := by decide +kernel
theorem dX12_house_111 : decode cX12_house 111 = .ok (.pop, 1) := by decide +kernel
theorem dX12_house_112 : decode cX12_house 112 = .ok (.aload_n 0, 1) := by decide +kernel
theorem dX12_house_113 : decode cX12_house 113 = .ok (.invokevirtual 101, 3) := by decide +kernel
theorem dX12_house_116 : decode cX12_house 116 = .ok (.ifCond .eq 28, 3) := by decide +kernel
theorem dX12_house_119 : decode cX12_house 119 = .ok (.aload_n 0, 1) := by decide +kernel
theorem dX12_house_120 : decode cX12_house 120 = .ok (.getfield 95, 3) := by decide +kernel
theorem dX12_house_123 : decode cX12_house 123 = .ok (.iconst 1, 1) := by decide +kernel
theorem dX12_house_124 : decode cX12_house 124 = .ok (.if_icmp .ne 20, 3) := by decide +kernel
theorem dX12_house_127 : decode cX12_house 127 = .ok (.aload_n 0, 1) := by decide +kernel
theorem dX12_house_128 : decode cX12_house 128 = .ok (.getfield 92, 3) := by decide +kernel
theorem dX12_house_131 : decode cX12_house 131 = .ok (.invokestatic 118, 3) := by decide +kernel
theorem dX12_house_134 : decode cX12_house 134 = .ok (.ifCond .le 10, 3) := by decide +kernel
theorem dX12_house_137 : decode cX12_house 137 = .ok (.aload_n 0, 1) := by decide +kernel
theorem dX12_house_138 : decode cX12_house 138 = .ok (.invokevirtual 124, 3) := by decide +kernel
theorem dX12_house_141 : decode cX12_house 141 = .ok (.goto (-29), 3) := by decide +kernel
theorem dX12_house_144 : decode cX12_house 144 = .ok (.aload_n 0, 1) := by decide +kernel
theorem dX12_house_145 : decode cX12_house 145 = .ok (.invokevirtual 101, 3) := by decide +kernel
theorem dX12_house_148 : decode cX12_house 148 = .ok (.ifCond .eq 17, 3) := by decide +kernel
theorem dX12_house_151 : decode cX12_house 151 = .ok (.aload_n 0, 1) := by decide +kernel
theorem dX12_house_152 : decode cX12_house 152 = .ok (.getfield 95, 3) := by decide +kernel
theorem dX12_house_155 : decode cX12_house 155 = .ok (.ifCond .eq 10, 3) := by decide +kernel
theorem dX12_house_158 : decode cX12_house 158 = .ok (.aload_n 0, 1) := by decide +kernel
theorem dX12_house_159 : decode cX12_house 159 = .ok (.iconst 0, 1) := by decide +kernel
theorem dX12_house_160 : decode cX12_house 160 = .ok (.iconst 1, 1) := by decide +kernel
theorem dX12_house_161 : decode cX12_house 161 = .ok (.invokevirtual 111, 3) := by decide +kernel
theorem dX12_house_164 : decode cX12_house 164 = .ok (.pop, 1) := by decide +kernel
theorem dX12_house_165 : decode cX12_house 165 = .ok (.aload_n 0, 1) := by decide +kernel
theorem dX12_house_166 : decode cX12_house 166 = .ok (.iconst 0, 1) := by decide +kernel
theorem dX12_house_167 : decode cX12_house 167 = .ok (.putfield 79, 3) := by decide +kernel
theorem dX12_house_170 : decode cX12_house 170 = .ok (.aload_n 0, 1) := by decide +kernel
theorem dX12_house_171 : decode cX12_house 171 = .ok (.invokevirtual 101, 3) := by decide +kernel
theorem dX12_house_174 : decode cX12_house 174 = .ok (.ifCond .ne 11, 3) := by decide +kernel
theorem dX12_house_177 : decode cX12_house 177 = .ok (.ldc 127, 2) := by decide +kernel
theorem dX12_house_179 : decode cX12_house 179 = .ok (.aload_n 0, 1) := by decide +kernel
theorem dX12_house_180 : decode cX12_house 180 = .ok (.getfield 98, 3) := by decide +kernel
theorem dX12_house_183 : decode cX12_house 183 = .ok (.isub, 1) := by decide +kernel
theorem dX12_house_184 : decode cX12_house 184 = .ok (.ireturn, 1) := by decide +kernel
theorem dX12_house_185 : decode cX12_house 185 = .ok (.aload_n 0, 1) := by decide +kernel
theorem dX12_house_186 : decode cX12_house 186 = .ok (.getfield 28, 3) := by decide +kernel
theorem dX12_house_189 : decode cX12_house 189 = .ok (.iconst 0, 1) := by decide +kernel
theorem dX12_house_190 : decode cX12_house 190 = .ok (.aload_n 0, 1) := by decide +kernel
theorem dX12_house_191 : decode cX12_house 191 = .ok (.getfield 25, 3) := by decide +kernel
theorem dX12_house_194 : decode cX12_house 194 = .ok (.iconst 0, 1) := by decide +kernel
theorem dX12_house_195 : decode cX12_house 195 = .ok (.invokestatic 128, 3) := by decide +kernel
theorem dX12_house_198 : decode cX12_house 198 = .ok (.aload_n 0, 1) := by decide +kernel
theorem dX12_house_199 : decode cX12_house 199 = .ok (.iconst 0, 1) := by decide +kernel
theorem dX12_house_200 : decode cX12_house 200 = .ok (.putfield 132, 3) := by decide +kernel
theorem dX12_house_203 : decode cX12_house 203 = .ok (.aload_n 0, 1) := by decide +kernel
theorem dX12_house_204 : decode cX12_house 204 = .ok (.getfield 25, 3) := by decide +kernel
theorem dX12_house_207 : decode cX12_house 207 = .ok (.iconst 4, 1) := by decide +kernel
theorem dX12_house_208 : decode cX12_house 208 = .ok (.iaload, 1) := by decide +kernel
theorem dX12_house_209 : decode cX12_house 209 = .ok (.ireturn, 1) := by decide +kernel
theorem dX12_fault_0 : decode cX12_fault 0 = .ok (.aload_n 0, 1) := by decide +kernel
theorem dX12_fault_1 : decode cX12_fault 1 = .ok (.getfield 105, 3) := by decide +kernel
theorem dX12_fault_4 : decode cX12_fault 4 = .ok (.ireturn, 1) := by decide +kernel
theorem dX12_isHouse_0 : decode cX12_isHouse 0 = .ok (.aload_n 0, 1) := by decide +kernel
theorem dX12_isHouse_1 : decode cX12_isHouse 1 = .ok (.getfield 25, 3) := by decide +kernel
theorem dX12_isHouse_4 : decode cX12_isHouse 4 = .ok (.iconst 0, 1) := by decide +kernel
theorem dX12_isHouse_5 : decode cX12_isHouse 5 = .ok (.iaload, 1) := by decide +kernel
theorem dX12_isHouse_6 : decode cX12_isHouse 6 = .ok (.ifCond .le 7, 3) := by decide +kernel
theorem dX12_isHouse_9 : decode cX12_isHouse 9 = .ok (.iconst 1, 1) := by decide +kernel
theorem dX12_isHouse_10 : decode cX12_isHouse 10 = .ok (.goto 4, 3) := by decide +kernel
theorem dX12_isHouse_13 : decode cX12_isHouse 13 = .ok (.iconst 0, 1) := by decide +kernel
theorem dX12_isHouse_14 : decode cX12_isHouse 14 = .ok (.ireturn, 1) := by decide +kernel
theorem dX12_isPerson_0 : decode cX12_isPerson 0 = .ok (.iload_n 1, 1) := by decide +kernel
theorem dX12_isPerson_1 : decode cX12_isPerson 1 = .ok (.iconst 0, 1) := by decide +kernel
theorem dX12_isPerson_2 : decode cX12_isPerson 2 = .ok (.aload_n 0, 1) := by decide +kernel
theorem dX12_isPerson_3 : decode cX12_isPerson 3 = .ok (.getfield 25, 3) := by decide +kernel
theorem dX12_isPerson_6 : decode cX12_isPerson 6 = .ok (.iconst 4, 1) := by decide +kernel
theorem dX12_isPerson_7 : decode cX12_isPerson 7 = .ok (.iaload, 1) := by decide +kernel
theorem dX12_isPerson_8 : decode cX12_isPerson 8 = .ok (.iconst 1, 1) := by decide +kernel
theorem dX12_isPerson_9 : decode cX12_isPerson 9 = .ok (.isub, 1) := by decide +kernel
theorem dX12_isPerson_10 : decode cX12_isPerson 10 = .ok (.invokestatic 53, 3) := by decide +kernel
theorem dX12_isPerson_13 : decode cX12_isPerson 13 = .ok (.ireturn, 1) := by decide +kernel
theorem dX12_isFar_0 : decode cX12_isFar 0 = .ok (.iload_n 0, 1) := by decide +kernel
theorem dX12_isFar_1 : decode cX12_isFar 1 = .ok (.iconst 0, 1) := by decide +kernel
theorem dX12_isFar_2 : decode cX12_isFar 2 = .ok (.bipush 60, 2) := by decide +kernel
theorem dX12_isFar_4 : decode cX12_isFar 4 = .ok (.invokestatic 53, 3) := by decide +kernel
theorem dX12_isFar_7 : decode cX12_isFar 7 = .ok (.ireturn, 1) := by decide +kernel
theorem dX12_mindsOf_0 : decode cX12_mindsOf 0 = .ok (.iconst 5, 1) := by decide +kernel
theorem dX12_mindsOf_1 : decode cX12_mindsOf 1 = .ok (.bipush 6, 2) := by decide +kernel
theorem dX12_mindsOf_3 : decode cX12_mindsOf 3 = .ok (.iload_n 1, 1) := by decide +kernel
theorem dX12_mindsOf_4 : decode cX12_mindsOf 4 = .ok (.imul, 1) := by decide +kernel
theorem dX12_mindsOf_5 : decode cX12_mindsOf 5 = .ok (.iadd, 1) := by decide +kernel
theorem dX12_mindsOf_6 : decode cX12_mindsOf 6 = .ok (.istore_n 3, 1) := by decide +kernel
theorem dX12_mindsOf_7 : decode cX12_mindsOf 7 = .ok (.iconst 5, 1) := by decide +kernel
theorem dX12_mindsOf_8 : decode cX12_mindsOf 8 = .ok (.bipush 6, 2) := by decide +kernel
theorem dX12_mindsOf_10 : decode cX12_mindsOf 10 = .ok (.iload_n 2, 1) := by decide +kernel
theorem dX12_mindsOf_11 : decode cX12_mindsOf 11 = .ok (.imul, 1) := by decide +kernel
theorem dX12_mindsOf_12 : decode cX12_mindsOf 12 = .ok (.iadd, 1) := by decide +kernel
theorem dX12_mindsOf_13 : decode cX12_mindsOf 13 = .ok (.istore 4, 2) := by decide +kernel
theorem dX12_mindsOf_15 : decode cX12_mindsOf 15 = .ok (.aload_n 0, 1) := by decide +kernel
theorem dX12_mindsOf_16 : decode cX12_mindsOf 16 = .ok (.iload 4, 2) := by decide +kernel
theorem dX12_mindsOf_18 : decode cX12_mindsOf 18 = .ok (.iconst 3, 1) := by decide +kernel
theorem dX12_mindsOf_19 : decode cX12_mindsOf 19 = .ok (.iadd, 1) := by decide +kernel
theorem dX12_mindsOf_20 : decode cX12_mindsOf 20 = .ok (.iaload, 1) := by decide +kernel
theorem dX12_mindsOf_21 : decode cX12_mindsOf 21 = .ok (.aload_n 0, 1) := by decide +kernel
theorem dX12_mindsOf_22 : decode cX12_mindsOf 22 = .ok (.iload_n 3, 1) := by decide +kernel
theorem dX12_mindsOf_23 : decode cX12_mindsOf 23 = .ok (.iconst 3, 1) := by decide +kernel
theorem dX12_mindsOf_24 : decode cX12_mindsOf 24 = .ok (.iadd, 1) := by decide +kernel
theorem dX12_mindsOf_25 : decode cX12_mindsOf 25 = .ok (.iaload, 1) := by decide +kernel
theorem dX12_mindsOf_26 : decode cX12_mindsOf 26 = .ok (.if_icmp .le 18, 3) := by decide +kernel
theorem dX12_mindsOf_29 : decode cX12_mindsOf 29 = .ok (.aload_n 0, 1) := by decide +kernel
theorem dX12_mindsOf_30 : decode cX12_mindsOf 30 = .ok (.iload 4, 2) := by decide +kernel
theorem dX12_mindsOf_32 : decode cX12_mindsOf 32 = .ok (.iconst 3, 1) := by decide +kernel
theorem dX12_mindsOf_33 : decode cX12_mindsOf 33 = .ok (.iadd, 1) := by decide +kernel
theorem dX12_mindsOf_34 : decode cX12_mindsOf 34 = .ok (.iaload, 1) := by decide +kernel
theorem dX12_mindsOf_35 : decode cX12_mindsOf 35 = .ok (.aload_n 0, 1) := by decide +kernel
theorem dX12_mindsOf_36 : decode cX12_mindsOf 36 = .ok (.iload_n 3, 1) := by decide +kernel
theorem dX12_mindsOf_37 : decode cX12_mindsOf 37 = .ok (.iconst 3, 1) := by decide +kernel
theorem dX12_mindsOf_38 : decode cX12_mindsOf 38 = .ok (.iadd, 1) := by decide +kernel
theorem dX12_mindsOf_39 : decode cX12_mindsOf 39 = .ok (.iaload, 1) := by decide +kernel
theorem dX12_mindsOf_40 : decode cX12_mindsOf 40 = .ok (.isub, 1) := by decide +kernel
theorem dX12_mindsOf_41 : decode cX12_mindsOf 41 = .ok (.goto 4, 3) := by decide +kernel
theorem dX12_mindsOf_44 : decode cX12_mindsOf 44 = .ok (.iconst 0, 1) := by decide +kernel
theorem dX12_mindsOf_45 : decode cX12_mindsOf 45 = .ok (.istore 5, 2) := by decide +kernel
theorem dX12_mindsOf_47 : decode cX12_mindsOf 47 = .ok (.aload_n 0, 1) := by decide +kernel
theorem dX12_mindsOf_48 : decode cX12_mindsOf 48 = .ok (.iload 4, 2) := by decide +kernel
theorem dX12_mindsOf_50 : decode cX12_mindsOf 50 = .ok (.iconst 3, 1) := by decide +kernel
theorem dX12_mindsOf_51 : decode cX12_mindsOf 51 = .ok (.iadd, 1) := by decide +kernel
theorem dX12_mindsOf_52 : decode cX12_mindsOf 52 = .ok (.iaload, 1) := by decide +kernel
theorem dX12_mindsOf_53 : decode cX12_mindsOf 53 = .ok (.ifCond .le 11, 3) := by decide +kernel
theorem dX12_mindsOf_56 : decode cX12_mindsOf 56 = .ok (.aload_n 0, 1) := by decide +kernel
theorem dX12_mindsOf_57 : decode cX12_mindsOf 57 = .ok (.iload_n 3, 1) := by decide +kernel
theorem dX12_mindsOf_58 : decode cX12_mindsOf 58 = .ok (.iconst 4, 1) := by decide +kernel
theorem dX12_mindsOf_59 : decode cX12_mindsOf 59 = .ok (.iadd, 1) := by decide +kernel
theorem dX12_mindsOf_60 : decode cX12_mindsOf 60 = .ok (.iaload, 1) := by decide +kernel
theorem dX12_mindsOf_61 : decode cX12_mindsOf 61 = .ok (.goto 4, 3) := by decide +kernel
theorem dX12_mindsOf_64 : decode cX12_mindsOf 64 = .ok (.iconst 0, 1) := by decide +kernel
theorem dX12_mindsOf_65 : decode cX12_mindsOf 65 = .ok (.istore 6, 2) := by decide +kernel
theorem dX12_mindsOf_67 : decode cX12_mindsOf 67 = .ok (.aload_n 0, 1) := by decide +kernel
theorem dX12_mindsOf_68 : decode cX12_mindsOf 68 = .ok (.iload_n 3, 1) := by decide +kernel
theorem dX12_mindsOf_69 : decode cX12_mindsOf 69 = .ok (.iaload, 1) := by decide +kernel
theorem dX12_mindsOf_70 : decode cX12_mindsOf 70 = .ok (.tableswitch 64 1 4 #[30, 33, 38, 61], 30) := by decide +kernel
theorem dX12_mindsOf_100 : decode cX12_mindsOf 100 = .ok (.iload 5, 2) := by decide +kernel
theorem dX12_mindsOf_102 : decode cX12_mindsOf 102 = .ok (.ireturn, 1) := by decide +kernel
theorem dX12_mindsOf_103 : decode cX12_mindsOf 103 = .ok (.iconst 2, 1) := by decide +kernel
theorem dX12_mindsOf_104 : decode cX12_mindsOf 104 = .ok (.iload 5, 2) := by decide +kernel
theorem dX12_mindsOf_106 : decode cX12_mindsOf 106 = .ok (.imul, 1) := by decide +kernel
theorem dX12_mindsOf_107 : decode cX12_mindsOf 107 = .ok (.ireturn, 1) := by decide +kernel
theorem dX12_mindsOf_108 : decode cX12_mindsOf 108 = .ok (.iload 5, 2) := by decide +kernel
theorem dX12_mindsOf_110 : decode cX12_mindsOf 110 = .ok (.aload_n 0, 1) := by decide +kernel
theorem dX12_mindsOf_111 : decode cX12_mindsOf 111 = .ok (.iload_n 3, 1) := by decide +kernel
theorem dX12_mindsOf_112 : decode cX12_mindsOf 112 = .ok (.iconst 4, 1) := by decide +kernel
theorem dX12_mindsOf_113 : decode cX12_mindsOf 113 = .ok (.iadd, 1) := by decide +kernel
theorem dX12_mindsOf_114 : decode cX12_mindsOf 114 = .ok (.iaload, 1) := by decide +kernel
theorem dX12_mindsOf_115 : decode cX12_mindsOf 115 = .ok (.if_icmp .le 14, 3) := by decide +kernel
theorem dX12_mindsOf_118 : decode cX12_mindsOf 118 = .ok (.iload 5, 2) := by decide +kernel
theorem dX12_mindsOf_120 : decode cX12_mindsOf 120 = .ok (.aload_n 0, 1) := by decide +kernel
theorem dX12_mindsOf_121 : decode cX12_mindsOf 121 = .ok (.iload_n 3, 1) := by decide +kernel
theorem dX12_mindsOf_122 : decode cX12_mindsOf 122 = .ok (.iconst 4, 1) := by decide +kernel
theorem dX12_mindsOf_123 : decode cX12_mindsOf 123 = .ok (.iadd, 1) := by decide +kernel
theorem dX12_mindsOf_124 : decode cX12_mindsOf 124 = .ok (.iaload, 1) := by decide +kernel
theorem dX12_mindsOf_125 : decode cX12_mindsOf 125 = .ok (.isub, 1) := by decide +kernel
theorem dX12_mindsOf_126 : decode cX12_mindsOf 126 = .ok (.goto 4, 3) := by decide +kernel
theorem dX12_mindsOf_129 : decode cX12_mindsOf 129 = .ok (.iconst 0, 1) := by decide +kernel
theorem dX12_mindsOf_130 : decode cX12_mindsOf 130 = .ok (.ireturn, 1) := by decide +kernel
theorem dX12_mindsOf_131 : decode cX12_mindsOf 131 = .ok (.iload 6, 2) := by decide +kernel
theorem dX12_mindsOf_133 : decode cX12_mindsOf 133 = .ok (.ireturn, 1) := by decide +kernel
theorem dX12_mindsOf_134 : decode cX12_mindsOf 134 = .ok (.aload_n 0, 1) := by decide +kernel
theorem dX12_mindsOf_135 : decode cX12_mindsOf 135 = .ok (.iload_n 3, 1) := by decide +kernel
theorem dX12_mindsOf_136 : decode cX12_mindsOf 136 = .ok (.iconst 2, 1) := by decide +kernel
theorem dX12_mindsOf_137 : decode cX12_mindsOf 137 = .ok (.iadd, 1) := by decide +kernel
theorem dX12_mindsOf_138 : decode cX12_mindsOf 138 = .ok (.iaload, 1) := by decide +kernel
theorem dX12_mindsOf_139 : decode cX12_mindsOf 139 = .ok (.aload_n 0, 1) := by decide +kernel
theorem dX12_mindsOf_140 : decode cX12_mindsOf 140 = .ok (.iload 4, 2) := by decide +kernel
theorem dX12_mindsOf_142 : decode cX12_mindsOf 142 = .ok (.iconst 2, 1) := by decide +kernel
theorem dX12_mindsOf_143 : decode cX12_mindsOf 143 = .ok (.iadd, 1) := by decide +kernel
theorem dX12_mindsOf_144 : decode cX12_mindsOf 144 = .ok (.iaload, 1) := by decide +kernel
theorem dX12_mindsOf_145 : decode cX12_mindsOf 145 = .ok (.if_icmp .ne 8, 3) := by decide +kernel
theorem dX12_mindsOf_148 : decode cX12_mindsOf 148 = .ok (.bipush 9, 2) := by decide +kernel
theorem dX12_mindsOf_150 : decode cX12_mindsOf 150 = .ok (.goto 5, 3) := by decide +kernel
theorem dX12_mindsOf_153 : decode cX12_mindsOf 153 = .ok (.iload 6, 2) := by decide +kernel
theorem dX12_mindsOf_155 : decode cX12_mindsOf 155 = .ok (.ireturn, 1) := by decide +kernel
theorem dX12_rides_0 : decode cX12_rides 0 = .ok (.aload_n 0, 1) := by decide +kernel
theorem dX12_rides_1 : decode cX12_rides 1 = .ok (.iconst 3, 1) := by decide +kernel
theorem dX12_rides_2 : decode cX12_rides 2 = .ok (.iaload, 1) := by decide +kernel
theorem dX12_rides_3 : decode cX12_rides 3 = .ok (.iload_n 1, 1) := by decide +kernel
theorem dX12_rides_4 : decode cX12_rides 4 = .ok (.iconst 1, 1) := by decide +kernel
theorem dX12_rides_5 : decode cX12_rides 5 = .ok (.iadd, 1) := by decide +kernel
theorem dX12_rides_6 : decode cX12_rides 6 = .ok (.if_icmp .ne 7, 3) := by decide +kernel
theorem dX12_rides_9 : decode cX12_rides 9 = .ok (.iconst 1, 1) := by decide +kernel
theorem dX12_rides_10 : decode cX12_rides 10 = .ok (.goto 4, 3) := by decide +kernel
theorem dX12_rides_13 : decode cX12_rides 13 = .ok (.iconst 0, 1) := by decide +kernel
theorem dX12_rides_14 : decode cX12_rides 14 = .ok (.ireturn, 1) := by decide +kernel
theorem dX12_envyOf_0 : decode cX12_envyOf 0 = .ok (.iconst 0, 1) := by decide +kernel
theorem dX12_envyOf_1 : decode cX12_envyOf 1 = .ok (.istore_n 2, 1) := by decide +kernel
theorem dX12_envyOf_2 : decode cX12_envyOf 2 = .ok (.iconst 0, 1) := by decide +kernel
theorem dX12_envyOf_3 : decode cX12_envyOf 3 = .ok (.istore_n 3, 1) := by decide +kernel
theorem dX12_envyOf_4 : decode cX12_envyOf 4 = .ok (.iload_n 3, 1) := by decide +kernel
theorem dX12_envyOf_5 : decode cX12_envyOf 5 = .ok (.aload_n 0, 1) := by decide +kernel
theorem dX12_envyOf_6 : decode cX12_envyOf 6 = .ok (.iconst 4, 1) := by decide +kernel
theorem dX12_envyOf_7 : decode cX12_envyOf 7 = .ok (.iaload, 1) := by decide +kernel
theorem dX12_envyOf_8 : decode cX12_envyOf 8 = .ok (.if_icmp .ge 78, 3) := by decide +kernel
theorem dX12_envyOf_11 : decode cX12_envyOf 11 = .ok (.iload_n 3, 1) := by decide +kernel
theorem dX12_envyOf_12 : decode cX12_envyOf 12 = .ok (.iload_n 1, 1) := by decide +kernel
theorem dX12_envyOf_13 : decode cX12_envyOf 13 = .ok (.if_icmp .eq 46, 3) := by decide +kernel
theorem dX12_envyOf_16 : decode cX12_envyOf 16 = .ok (.aload_n 0, 1) := by decide +kernel
theorem dX12_envyOf_17 : decode cX12_envyOf 17 = .ok (.iload_n 1, 1) := by decide +kernel
theorem dX12_envyOf_18 : decode cX12_envyOf 18 = .ok (.invokestatic 135, 3) := by decide +kernel
theorem dX12_envyOf_21 : decode cX12_envyOf 21 = .ok (.ifCond .ne 38, 3) := by decide +kernel
theorem dX12_envyOf_24 : decode cX12_envyOf 24 = .ok (.aload_n 0, 1) := by decide +kernel
theorem dX12_envyOf_25 : decode cX12_envyOf 25 = .ok (.iload_n 3, 1) := by decide +kernel
theorem dX12_envyOf_26 : decode cX12_envyOf 26 = .ok (.invokestatic 135, 3) := by decide +kernel
theorem dX12_envyOf_29 : decode cX12_envyOf 29 = .ok (.ifCond .ne 30, 3) := by decide +kernel
theorem dX12_envyOf_32 : decode cX12_envyOf 32 = .ok (.aload_n 0, 1) := by decide +kernel
theorem dX12_envyOf_33 : decode cX12_envyOf 33 = .ok (.iconst 5, 1) := by decide +kernel
theorem dX12_envyOf_34 : decode cX12_envyOf 34 = .ok (.bipush 6, 2) := by decide +kernel
theorem dX12_envyOf_36 : decode cX12_envyOf 36 = .ok (.iload_n 3, 1) := by decide +kernel
theorem dX12_envyOf_37 : decode cX12_envyOf 37 = .ok (.imul, 1) := by decide +kernel
theorem dX12_envyOf_38 : decode cX12_envyOf 38 = .ok (.iadd, 1) := by decide +kernel
theorem dX12_envyOf_39 : decode cX12_envyOf 39 = .ok (.iconst 1, 1) := by decide +kernel
theorem dX12_envyOf_40 : decode cX12_envyOf 40 = .ok (.iadd, 1) := by decide +kernel
theorem dX12_envyOf_41 : decode cX12_envyOf 41 = .ok (.iaload, 1) := by decide +kernel
theorem dX12_envyOf_42 : decode cX12_envyOf 42 = .ok (.aload_n 0, 1) := by decide +kernel
theorem dX12_envyOf_43 : decode cX12_envyOf 43 = .ok (.iconst 5, 1) := by decide +kernel
theorem dX12_envyOf_44 : decode cX12_envyOf 44 = .ok (.bipush 6, 2) := by decide +kernel
theorem dX12_envyOf_46 : decode cX12_envyOf 46 = .ok (.iload_n 1, 1) := by decide +kernel
theorem dX12_envyOf_47 : decode cX12_envyOf 47 = .ok (.imul, 1) := by decide +kernel
theorem dX12_envyOf_48 : decode cX12_envyOf 48 = .ok (.iadd, 1) := by decide +kernel
theorem dX12_envyOf_49 : decode cX12_envyOf 49 = .ok (.iconst 1, 1) := by decide +kernel
theorem dX12_envyOf_50 : decode cX12_envyOf 50 = .ok (.iadd, 1) := by decide +kernel
theorem dX12_envyOf_51 : decode cX12_envyOf 51 = .ok (.iaload, 1) := by decide +kernel
theorem dX12_envyOf_52 : decode cX12_envyOf 52 = .ok (.if_icmp .ne 7, 3) := by decide +kernel
theorem dX12_envyOf_55 : decode cX12_envyOf 55 = .ok (.iconst 1, 1) := by decide +kernel
theorem dX12_envyOf_56 : decode cX12_envyOf 56 = .ok (.goto 4, 3) := by decide +kernel
theorem dX12_envyOf_59 : decode cX12_envyOf 59 = .ok (.iconst 0, 1) := by decide +kernel
theorem dX12_envyOf_60 : decode cX12_envyOf 60 = .ok (.istore 4, 2) := by decide +kernel
theorem dX12_envyOf_62 : decode cX12_envyOf 62 = .ok (.iload_n 2, 1) := by decide +kernel
theorem dX12_envyOf_63 : decode cX12_envyOf 63 = .ok (.iload 4, 2) := by decide +kernel
theorem dX12_envyOf_65 : decode cX12_envyOf 65 = .ok (.ifCond .eq 12, 3) := by decide +kernel
theorem dX12_envyOf_68 : decode cX12_envyOf 68 = .ok (.aload_n 0, 1) := by decide +kernel
theorem dX12_envyOf_69 : decode cX12_envyOf 69 = .ok (.iload_n 3, 1) := by decide +kernel
theorem dX12_envyOf_70 : decode cX12_envyOf 70 = .ok (.iload_n 1, 1) := by decide +kernel
theorem dX12_envyOf_71 : decode cX12_envyOf 71 = .ok (.invokestatic 139, 3) := by decide +kernel
theorem dX12_envyOf_74 : decode cX12_envyOf 74 = .ok (.goto 4, 3) := by decide +kernel
theorem dX12_envyOf_77 : decode cX12_envyOf 77 = .ok (.iconst 0, 1) := by decide +kernel
theorem dX12_envyOf_78 : decode cX12_envyOf 78 = .ok (.iadd, 1) := by decide +kernel
theorem dX12_envyOf_79 : decode cX12_envyOf 79 = .ok (.istore_n 2, 1) := by decide +kernel
theorem dX12_envyOf_80 : decode cX12_envyOf 80 = .ok (.iinc 3 1, 3) := by decide +kernel
theorem dX12_envyOf_83 : decode cX12_envyOf 83 = .ok (.goto (-79), 3) := by decide +kernel
theorem dX12_envyOf_86 : decode cX12_envyOf 86 = .ok (.iload_n 2, 1) := by decide +kernel
theorem dX12_envyOf_87 : decode cX12_envyOf 87 = .ok (.ireturn, 1) := by decide +kernel
theorem dX12_calls_0 : decode cX12_calls 0 = .ok (.ldc 47, 2) := by decide +kernel
theorem dX12_calls_2 : decode cX12_calls 2 = .ok (.istore_n 1, 1) := by decide +kernel
theorem dX12_calls_3 : decode cX12_calls 3 = .ok (.iconst 0, 1) := by decide +kernel
theorem dX12_calls_4 : decode cX12_calls 4 = .ok (.istore_n 2, 1) := by decide +kernel
theorem dX12_calls_5 : decode cX12_calls 5 = .ok (.iconst 0, 1) := by decide +kernel
theorem dX12_calls_6 : decode cX12_calls 6 = .ok (.istore_n 3, 1) := by decide +kernel
theorem dX12_calls_7 : decode cX12_calls 7 = .ok (.iload_n 3, 1) := by decide +kernel
theorem dX12_calls_8 : decode cX12_calls 8 = .ok (.aload_n 0, 1) := by decide +kernel
theorem dX12_calls_9 : decode cX12_calls 9 = .ok (.iconst 4, 1) := by decide +kernel
theorem dX12_calls_10 : decode cX12_calls 10 = .ok (.iaload, 1) := by decide +kernel
theorem dX12_calls_11 : decode cX12_calls 11 = .ok (.if_icmp .ge 65, 3) := by decide +kernel
theorem dX12_calls_14 : decode cX12_calls 14 = .ok (.aload_n 0, 1) := by decide +kernel
theorem dX12_calls_15 : decode cX12_calls 15 = .ok (.iconst 3, 1) := by decide +kernel
theorem dX12_calls_16 : decode cX12_calls 16 = .ok (.iaload, 1) := by decide +kernel
theorem dX12_calls_17 : decode cX12_calls 17 = .ok (.ifCond .gt 17, 3) := by decide +kernel
theorem dX12_calls_20 : decode cX12_calls 20 = .ok (.aload_n 0, 1) := by decide +kernel
theorem dX12_calls_21 : decode cX12_calls 21 = .ok (.iconst 5, 1) := by decide +kernel
theorem dX12_calls_22 : decode cX12_calls 22 = .ok (.bipush 6, 2) := by decide +kernel
theorem dX12_calls_24 : decode cX12_calls 24 = .ok (.iload_n 3, 1) := by decide +kernel
theorem dX12_calls_25 : decode cX12_calls 25 = .ok (.imul, 1) := by decide +kernel
theorem dX12_calls_26 : decode cX12_calls 26 = .ok (.iadd, 1) := by decide +kernel
theorem dX12_calls_27 : decode cX12_calls 27 = .ok (.iconst 5, 1) := by decide +kernel
theorem dX12_calls_28 : decode cX12_calls 28 = .ok (.iadd, 1) := by decide +kernel
theorem dX12_calls_29 : decode cX12_calls 29 = .ok (.iaload, 1) := by decide +kernel
theorem dX12_calls_30 : decode cX12_calls 30 = .ok (.iconst 1, 1) := by decide +kernel
theorem dX12_calls_31 : decode cX12_calls 31 = .ok (.if_icmp .ne 7, 3) := by decide +kernel
theorem dX12_calls_34 : decode cX12_calls 34 = .ok (.iconst 0, 1) := by decide +kernel
theorem dX12_calls_35 : decode cX12_calls 35 = .ok (.goto 8, 3) := by decide +kernel
theorem dX12_calls_38 : decode cX12_calls 38 = .ok (.aload_n 0, 1) := by decide +kernel
theorem dX12_calls_39 : decode cX12_calls 39 = .ok (.iload_n 3, 1) := by decide +kernel
theorem dX12_calls_40 : decode cX12_calls 40 = .ok (.invokestatic 143, 3) := by decide +kernel
theorem dX12_calls_43 : decode cX12_calls 43 = .ok (.istore 4, 2) := by decide +kernel
theorem dX12_calls_45 : decode cX12_calls 45 = .ok (.iload 4, 2) := by decide +kernel
theorem dX12_calls_47 : decode cX12_calls 47 = .ok (.iload_n 2, 1) := by decide +kernel
theorem dX12_calls_48 : decode cX12_calls 48 = .ok (.if_icmp .le 7, 3) := by decide +kernel
theorem dX12_calls_51 : decode cX12_calls 51 = .ok (.iload_n 3, 1) := by decide +kernel
theorem dX12_calls_52 : decode cX12_calls 52 = .ok (.goto 4, 3) := by decide +kernel
theorem dX12_calls_55 : decode cX12_calls 55 = .ok (.iload_n 1, 1) := by decide +kernel
theorem dX12_calls_56 : decode cX12_calls 56 = .ok (.istore_n 1, 1) := by decide +kernel
theorem dX12_calls_57 : decode cX12_calls 57 = .ok (.iload 4, 2) := by decide +kernel
theorem dX12_calls_59 : decode cX12_calls 59 = .ok (.iload_n 2, 1) := by decide +kernel
theorem dX12_calls_60 : decode cX12_calls 60 = .ok (.if_icmp .le 8, 3) := by decide +kernel
theorem dX12_calls_63 : decode cX12_calls 63 = .ok (.iload 4, 2) := by decide +kernel
theorem dX12_calls_65 : decode cX12_calls 65 = .ok (.goto 4, 3) := by decide +kernel
theorem dX12_calls_68 : decode cX12_calls 68 = .ok (.iload_n 2, 1) := by decide +kernel
theorem dX12_calls_69 : decode cX12_calls 69 = .ok (.istore_n 2, 1) := by decide +kernel
theorem dX12_calls_70 : decode cX12_calls 70 = .ok (.iinc 3 1, 3) := by decide +kernel
theorem dX12_calls_73 : decode cX12_calls 73 = .ok (.goto (-66), 3) := by decide +kernel
theorem dX12_calls_76 : decode cX12_calls 76 = .ok (.iload_n 1, 1) := by decide +kernel
theorem dX12_calls_77 : decode cX12_calls 77 = .ok (.ireturn, 1) := by decide +kernel
theorem dX12_nearer_0 : decode cX12_nearer 0 = .ok (.iload_n 0, 1) := by decide +kernel
theorem dX12_nearer_1 : decode cX12_nearer 1 = .ok (.iload_n 1, 1) := by decide +kernel
theorem dX12_nearer_2 : decode cX12_nearer 2 = .ok (.if_icmp .ge 9, 3) := by decide +kernel
theorem dX12_nearer_5 : decode cX12_nearer 5 = .ok (.iload_n 0, 1) := by decide +kernel
theorem dX12_nearer_6 : decode cX12_nearer 6 = .ok (.iconst 1, 1) := by decide +kernel
theorem dX12_nearer_7 : decode cX12_nearer 7 = .ok (.iadd, 1) := by decide +kernel
theorem dX12_nearer_8 : decode cX12_nearer 8 = .ok (.goto 15, 3) := by decide +kernel
theorem dX12_nearer_11 : decode cX12_nearer 11 = .ok (.iload_n 0, 1) := by decide +kernel
theorem dX12_nearer_12 : decode cX12_nearer 12 = .ok (.iload_n 1, 1) := by decide +kernel
theorem dX12_nearer_13 : decode cX12_nearer 13 = .ok (.if_icmp .le 9, 3) := by decide +kernel
theorem dX12_nearer_16 : decode cX12_nearer 16 = .ok (.iload_n 0, 1) := by decide +kernel
theorem dX12_nearer_17 : decode cX12_nearer 17 = .ok (.iconst 1, 1) := by decide +kernel
theorem dX12_nearer_18 : decode cX12_nearer 18 = .ok (.isub, 1) := by decide +kernel
theorem dX12_nearer_19 : decode cX12_nearer 19 = .ok (.goto 4, 3) := by decide +kernel
theorem dX12_nearer_22 : decode cX12_nearer 22 = .ok (.iload_n 0, 1) := by decide +kernel
theorem dX12_nearer_23 : decode cX12_nearer 23 = .ok (.ireturn, 1) := by decide +kernel
theorem dX12_passes_0 : decode cX12_passes 0 = .ok (.aload_n 0, 1) := by decide +kernel
theorem dX12_passes_1 : decode cX12_passes 1 = .ok (.iconst 2, 1) := by decide +kernel
theorem dX12_passes_2 : decode cX12_passes 2 = .ok (.dup2, 1) := by decide +kernel
theorem dX12_passes_3 : decode cX12_passes 3 = .ok (.iaload, 1) := by decide +kernel
theorem dX12_passes_4 : decode cX12_passes 4 = .ok (.iconst 1, 1) := by decide +kernel
theorem dX12_passes_5 : decode cX12_passes 5 = .ok (.iadd, 1) := by decide +kernel
theorem dX12_passes_6 : decode cX12_passes 6 = .ok (.iastore, 1) := by decide +kernel
theorem dX12_passes_7 : decode cX12_passes 7 = .ok (.aload_n 0, 1) := by decide +kernel
theorem dX12_passes_8 : decode cX12_passes 8 = .ok (.iconst 3, 1) := by decide +kernel
theorem dX12_passes_9 : decode cX12_passes 9 = .ok (.iaload, 1) := by decide +kernel
theorem dX12_passes_10 : decode cX12_passes 10 = .ok (.ifCond .le 61, 3) := by decide +kernel
theorem dX12_passes_13 : decode cX12_passes 13 = .ok (.iconst 5, 1) := by decide +kernel
theorem dX12_passes_14 : decode cX12_passes 14 = .ok (.bipush 6, 2) := by decide +kernel
theorem dX12_passes_16 : decode cX12_passes 16 = .ok (.aload_n 0, 1) := by decide +kernel
theorem dX12_passes_17 : decode cX12_passes 17 = .ok (.iconst 3, 1) := by decide +kernel
theorem dX12_passes_18 : decode cX12_passes 18 = .ok (.iaload, 1) := by decide +kernel
theorem dX12_passes_19 : decode cX12_passes 19 = .ok (.iconst 1, 1) := by decide +kernel
theorem dX12_passes_20 : decode cX12_passes 20 = .ok (.isub, 1) := by decide +kernel
theorem dX12_passes_21 : decode cX12_passes 21 = .ok (.imul, 1) := by decide +kernel
theorem dX12_passes_22 : decode cX12_passes 22 = .ok (.iadd, 1) := by decide +kernel
theorem dX12_passes_23 : decode cX12_passes 23 = .ok (.istore_n 1, 1) := by decide +kernel
theorem dX12_passes_24 : decode cX12_passes 24 = .ok (.aload_n 0, 1) := by decide +kernel
theorem dX12_passes_25 : decode cX12_passes 25 = .ok (.iconst 1, 1) := by decide +kernel
theorem dX12_passes_26 : decode cX12_passes 26 = .ok (.iaload, 1) := by decide +kernel
theorem dX12_passes_27 : decode cX12_passes 27 = .ok (.aload_n 0, 1) := by decide +kernel
theorem dX12_passes_28 : decode cX12_passes 28 = .ok (.iload_n 1, 1) := by decide +kernel
theorem dX12_passes_29 : decode cX12_passes 29 = .ok (.iconst 2, 1) := by decide +kernel
theorem dX12_passes_30 : decode cX12_passes 30 = .ok (.iadd, 1) := by decide +kernel
theorem dX12_passes_31 : decode cX12_passes 31 = .ok (.iaload, 1) := by decide +kernel
theorem dX12_passes_32 : decode cX12_passes 32 = .ok (.if_icmp .ne 16, 3) := by decide +kernel
theorem dX12_passes_35 : decode cX12_passes 35 = .ok (.aload_n 0, 1) := by decide +kernel
theorem dX12_passes_36 : decode cX12_passes 36 = .ok (.iload_n 1, 1) := by decide +kernel
theorem dX12_passes_37 : decode cX12_passes 37 = .ok (.iconst 5, 1) := by decide +kernel
theorem dX12_passes_38 : decode cX12_passes 38 = .ok (.iadd, 1) := by decide +kernel
theorem dX12_passes_39 : decode cX12_passes 39 = .ok (.iconst 1, 1) := by decide +kernel
theorem dX12_passes_40 : decode cX12_passes 40 = .ok (.iastore, 1) := by decide +kernel
theorem dX12_passes_41 : decode cX12_passes 41 = .ok (.aload_n 0, 1) := by decide +kernel
theorem dX12_passes_42 : decode cX12_passes 42 = .ok (.iconst 3, 1) := by decide +kernel
theorem dX12_passes_43 : decode cX12_passes 43 = .ok (.iconst 0, 1) := by decide +kernel
theorem dX12_passes_44 : decode cX12_passes 44 = .ok (.iastore, 1) := by decide +kernel
theorem dX12_passes_45 : decode cX12_passes 45 = .ok (.goto 25, 3) := by decide +kernel
theorem dX12_passes_48 : decode cX12_passes 48 = .ok (.aload_n 0, 1) := by decide +kernel
theorem dX12_passes_49 : decode cX12_passes 49 = .ok (.iconst 1, 1) := by decide +kernel
theorem dX12_passes_50 : decode cX12_passes 50 = .ok (.aload_n 0, 1) := by decide +kernel
theorem dX12_passes_51 : decode cX12_passes 51 = .ok (.iconst 1, 1) := by decide +kernel
theorem dX12_passes_52 : decode cX12_passes 52 = .ok (.iaload, 1) := by decide +kernel
theorem dX12_passes_53 : decode cX12_passes 53 = .ok (.aload_n 0, 1) := by decide +kernel
theorem dX12_passes_54 : decode cX12_passes 54 = .ok (.iload_n 1, 1) := by decide +kernel
theorem dX12_passes_55 : decode cX12_passes 55 = .ok (.iconst 2, 1) := by decide +kernel
theorem dX12_passes_56 : decode cX12_passes 56 = .ok (.iadd, 1) := by decide +kernel
theorem dX12_passes_57 : decode cX12_passes 57 = .ok (.iaload, 1) := by decide +kernel
theorem dX12_passes_58 : decode cX12_passes 58 = .ok (.invokestatic 147, 3) := by decide +kernel
theorem dX12_passes_61 : decode cX12_passes 61 = .ok (.iastore, 1) := by decide +kernel
theorem dX12_passes_62 : decode cX12_passes 62 = .ok (.aload_n 0, 1) := by decide +kernel
theorem dX12_passes_63 : decode cX12_passes 63 = .ok (.iload_n 1, 1) := by decide +kernel
theorem dX12_passes_64 : decode cX12_passes 64 = .ok (.iconst 1, 1) := by decide +kernel
theorem dX12_passes_65 : decode cX12_passes 65 = .ok (.iadd, 1) := by decide +kernel
theorem dX12_passes_66 : decode cX12_passes 66 = .ok (.aload_n 0, 1) := by decide +kernel
theorem dX12_passes_67 : decode cX12_passes 67 = .ok (.iconst 1, 1) := by decide +kernel
theorem dX12_passes_68 : decode cX12_passes 68 = .ok (.iaload, 1) := by decide +kernel
theorem dX12_passes_69 : decode cX12_passes 69 = .ok (.iastore, 1) := by decide +kernel
theorem dX12_passes_70 : decode cX12_passes 70 = .ok (.return_, 1) := by decide +kernel
theorem dX12_passes_71 : decode cX12_passes 71 = .ok (.aload_n 0, 1) := by decide +kernel
theorem dX12_passes_72 : decode cX12_passes 72 = .ok (.invokestatic 150, 3) := by decide +kernel
theorem dX12_passes_75 : decode cX12_passes 75 = .ok (.istore_n 1, 1) := by decide +kernel
theorem dX12_passes_76 : decode cX12_passes 76 = .ok (.iload_n 1, 1) := by decide +kernel
theorem dX12_passes_77 : decode cX12_passes 77 = .ok (.ldc 47, 2) := by decide +kernel
theorem dX12_passes_79 : decode cX12_passes 79 = .ok (.if_icmp .ne 4, 3) := by decide +kernel
theorem dX12_passes_82 : decode cX12_passes 82 = .ok (.return_, 1) := by decide +kernel
theorem dX12_passes_83 : decode cX12_passes 83 = .ok (.aload_n 0, 1) := by decide +kernel
theorem dX12_passes_84 : decode cX12_passes 84 = .ok (.iconst 5, 1) := by decide +kernel
theorem dX12_passes_85 : decode cX12_passes 85 = .ok (.bipush 6, 2) := by decide +kernel
theorem dX12_passes_87 : decode cX12_passes 87 = .ok (.iload_n 1, 1) := by decide +kernel
theorem dX12_passes_88 : decode cX12_passes 88 = .ok (.imul, 1) := by decide +kernel
theorem dX12_passes_89 : decode cX12_passes 89 = .ok (.iadd, 1) := by decide +kernel
theorem dX12_passes_90 : decode cX12_passes 90 = .ok (.iconst 1, 1) := by decide +kernel
theorem dX12_passes_91 : decode cX12_passes 91 = .ok (.iadd, 1) := by decide +kernel
theorem dX12_passes_92 : decode cX12_passes 92 = .ok (.iaload, 1) := by decide +kernel
theorem dX12_passes_93 : decode cX12_passes 93 = .ok (.istore_n 2, 1) := by decide +kernel
theorem dX12_passes_94 : decode cX12_passes 94 = .ok (.aload_n 0, 1) := by decide +kernel
theorem dX12_passes_95 : decode cX12_passes 95 = .ok (.iconst 1, 1) := by decide +kernel
theorem dX12_passes_96 : decode cX12_passes 96 = .ok (.iaload, 1) := by decide +kernel
theorem dX12_passes_97 : decode cX12_passes 97 = .ok (.iload_n 2, 1) := by decide +kernel
theorem dX12_passes_98 : decode cX12_passes 98 = .ok (.if_icmp .ne 12, 3) := by decide +kernel
theorem dX12_passes_101 : decode cX12_passes 101 = .ok (.aload_n 0, 1) := by decide +kernel
theorem dX12_passes_102 : decode cX12_passes 102 = .ok (.iconst 3, 1) := by decide +kernel
theorem dX12_passes_103 : decode cX12_passes 103 = .ok (.iload_n 1, 1) := by decide +kernel
theorem dX12_passes_104 : decode cX12_passes 104 = .ok (.iconst 1, 1) := by decide +kernel
theorem dX12_passes_105 : decode cX12_passes 105 = .ok (.iadd, 1) := by decide +kernel
theorem dX12_passes_106 : decode cX12_passes 106 = .ok (.iastore, 1) := by decide +kernel
theorem dX12_passes_107 : decode cX12_passes 107 = .ok (.goto 13, 3) := by decide +kernel
theorem dX12_passes_110 : decode cX12_passes 110 = .ok (.aload_n 0, 1) := by decide +kernel
theorem dX12_passes_111 : decode cX12_passes 111 = .ok (.iconst 1, 1) := by decide +kernel
theorem dX12_passes_112 : decode cX12_passes 112 = .ok (.aload_n 0, 1) := by decide +kernel
theorem dX12_passes_113 : decode cX12_passes 113 = .ok (.iconst 1, 1) := by decide +kernel
theorem dX12_passes_114 : decode cX12_passes 114 = .ok (.iaload, 1) := by decide +kernel
theorem dX12_passes_115 : decode cX12_passes 115 = .ok (.iload_n 2, 1) := by decide +kernel
theorem dX12_passes_116 : decode cX12_passes 116 = .ok (.invokestatic 147, 3) := by decide +kernel
theorem dX12_passes_119 : decode cX12_passes 119 = .ok (.iastore, 1) := by decide +kernel
theorem dX12_passes_120 : decode cX12_passes 120 = .ok (.return_, 1) := by decide +kernel
theorem dX12_broughtIn_0 : decode cX12_broughtIn 0 = .ok (.iconst 0, 1) := by decide +kernel
theorem dX12_broughtIn_1 : decode cX12_broughtIn 1 = .ok (.istore_n 1, 1) := by decide +kernel
theorem dX12_broughtIn_2 : decode cX12_broughtIn 2 = .ok (.iconst 0, 1) := by decide +kernel
theorem dX12_broughtIn_3 : decode cX12_broughtIn 3 = .ok (.istore_n 2, 1) := by decide +kernel
theorem dX12_broughtIn_4 : decode cX12_broughtIn 4 = .ok (.iload_n 2, 1) := by decide +kernel
theorem dX12_broughtIn_5 : decode cX12_broughtIn 5 = .ok (.aload_n 0, 1) := by decide +kernel
theorem dX12_broughtIn_6 : decode cX12_broughtIn 6 = .ok (.iconst 4, 1) := by decide +kernel
theorem dX12_broughtIn_7 : decode cX12_broughtIn 7 = .ok (.iaload, 1) := by decide +kernel
theorem dX12_broughtIn_8 : decode cX12_broughtIn 8 = .ok (.if_icmp .ge 24, 3) := by decide +kernel
theorem dX12_broughtIn_11 : decode cX12_broughtIn 11 = .ok (.iload_n 1, 1) := by decide +kernel
theorem dX12_broughtIn_12 : decode cX12_broughtIn 12 = .ok (.aload_n 0, 1) := by decide +kernel
theorem dX12_broughtIn_13 : decode cX12_broughtIn 13 = .ok (.iconst 5, 1) := by decide +kernel
theorem dX12_broughtIn_14 : decode cX12_broughtIn 14 = .ok (.bipush 6, 2) := by decide +kernel
theorem dX12_broughtIn_16 : decode cX12_broughtIn 16 = .ok (.iload_n 2, 1) := by decide +kernel
theorem dX12_broughtIn_17 : decode cX12_broughtIn 17 = .ok (.imul, 1) := by decide +kernel
theorem dX12_broughtIn_18 : decode cX12_broughtIn 18 = .ok (.iadd, 1) := by decide +kernel
theorem dX12_broughtIn_19 : decode cX12_broughtIn 19 = .ok (.iconst 5, 1) := by decide +kernel
theorem dX12_broughtIn_20 : decode cX12_broughtIn 20 = .ok (.iadd, 1) := by decide +kernel
theorem dX12_broughtIn_21 : decode cX12_broughtIn 21 = .ok (.iaload, 1) := by decide +kernel
theorem dX12_broughtIn_22 : decode cX12_broughtIn 22 = .ok (.iload_n 2, 1) := by decide +kernel
theorem dX12_broughtIn_23 : decode cX12_broughtIn 23 = .ok (.ishl, 1) := by decide +kernel
theorem dX12_broughtIn_24 : decode cX12_broughtIn 24 = .ok (.ior, 1) := by decide +kernel
theorem dX12_broughtIn_25 : decode cX12_broughtIn 25 = .ok (.istore_n 1, 1) := by decide +kernel
theorem dX12_broughtIn_26 : decode cX12_broughtIn 26 = .ok (.iinc 2 1, 3) := by decide +kernel
theorem dX12_broughtIn_29 : decode cX12_broughtIn 29 = .ok (.goto (-25), 3) := by decide +kernel
theorem dX12_broughtIn_32 : decode cX12_broughtIn 32 = .ok (.iload_n 1, 1) := by decide +kernel
theorem dX12_broughtIn_33 : decode cX12_broughtIn 33 = .ok (.ireturn, 1) := by decide +kernel
theorem dX12_tries_0 : decode cX12_tries 0 = .ok (.aload_n 0, 1) := by decide +kernel
theorem dX12_tries_1 : decode cX12_tries 1 = .ok (.getfield 25, 3) := by decide +kernel
theorem dX12_tries_4 : decode cX12_tries 4 = .ok (.iconst 0, 1) := by decide +kernel
theorem dX12_tries_5 : decode cX12_tries 5 = .ok (.aload_n 0, 1) := by decide +kernel
theorem dX12_tries_6 : decode cX12_tries 6 = .ok (.getfield 31, 3) := by decide +kernel
theorem dX12_tries_9 : decode cX12_tries 9 = .ok (.iconst 0, 1) := by decide +kernel
theorem dX12_tries_10 : decode cX12_tries 10 = .ok (.invokestatic 128, 3) := by decide +kernel
theorem dX12_tries_13 : decode cX12_tries 13 = .ok (.iconst 0, 1) := by decide +kernel
theorem dX12_tries_14 : decode cX12_tries 14 = .ok (.istore_n 2, 1) := by decide +kernel
theorem dX12_tries_15 : decode cX12_tries 15 = .ok (.iload_n 2, 1) := by decide +kernel
theorem dX12_tries_16 : decode cX12_tries 16 = .ok (.iload_n 1, 1) := by decide +kernel
theorem dX12_tries_17 : decode cX12_tries 17 = .ok (.if_icmp .ge 16, 3) := by decide +kernel
theorem dX12_tries_20 : decode cX12_tries 20 = .ok (.aload_n 0, 1) := by decide +kernel
theorem dX12_tries_21 : decode cX12_tries 21 = .ok (.getfield 31, 3) := by decide +kernel
theorem dX12_tries_24 : decode cX12_tries 24 = .ok (.invokestatic 154, 3) := by decide +kernel
theorem dX12_tries_27 : decode cX12_tries 27 = .ok (.iinc 2 1, 3) := by decide +kernel
theorem dX12_tries_30 : decode cX12_tries 30 = .ok (.goto (-15), 3) := by decide +kernel
theorem dX12_tries_33 : decode cX12_tries 33 = .ok (.return_, 1) := by decide +kernel
theorem dX12_broughtBy_0 : decode cX12_broughtBy 0 = .ok (.iconst 0, 1) := by decide +kernel
theorem dX12_broughtBy_1 : decode cX12_broughtBy 1 = .ok (.istore_n 3, 1) := by decide +kernel
theorem dX12_broughtBy_2 : decode cX12_broughtBy 2 = .ok (.iload_n 3, 1) := by decide +kernel
theorem dX12_broughtBy_3 : decode cX12_broughtBy 3 = .ok (.iload_n 2, 1) := by decide +kernel
theorem dX12_broughtBy_4 : decode cX12_broughtBy 4 = .ok (.if_icmp .gt 35, 3) := by decide +kernel
theorem dX12_broughtBy_7 : decode cX12_broughtBy 7 = .ok (.aload_n 0, 1) := by decide +kernel
theorem dX12_broughtBy_8 : decode cX12_broughtBy 8 = .ok (.getfield 31, 3) := by decide +kernel
theorem dX12_broughtBy_11 : decode cX12_broughtBy 11 = .ok (.iconst 5, 1) := by decide +kernel
theorem dX12_broughtBy_12 : decode cX12_broughtBy 12 = .ok (.bipush 6, 2) := by decide +kernel
theorem dX12_broughtBy_14 : decode cX12_broughtBy 14 = .ok (.iload_n 1, 1) := by decide +kernel
theorem dX12_broughtBy_15 : decode cX12_broughtBy 15 = .ok (.imul, 1) := by decide +kernel
theorem dX12_broughtBy_16 : decode cX12_broughtBy 16 = .ok (.iadd, 1) := by decide +kernel
theorem dX12_broughtBy_17 : decode cX12_broughtBy 17 = .ok (.iconst 5, 1) := by decide +kernel
theorem dX12_broughtBy_18 : decode cX12_broughtBy 18 = .ok (.iadd, 1) := by decide +kernel
theorem dX12_broughtBy_19 : decode cX12_broughtBy 19 = .ok (.iaload, 1) := by decide +kernel
theorem dX12_broughtBy_20 : decode cX12_broughtBy 20 = .ok (.iconst 1, 1) := by decide +kernel
theorem dX12_broughtBy_21 : decode cX12_broughtBy 21 = .ok (.if_icmp .ne 5, 3) := by decide +kernel
theorem dX12_broughtBy_24 : decode cX12_broughtBy 24 = .ok (.iload_n 3, 1) := by decide +kernel
theorem dX12_broughtBy_25 : decode cX12_broughtBy 25 = .ok (.ireturn, 1) := by decide +kernel
theorem dX12_broughtBy_26 : decode cX12_broughtBy 26 = .ok (.aload_n 0, 1) := by decide +kernel
theorem dX12_broughtBy_27 : decode cX12_broughtBy 27 = .ok (.getfield 31, 3) := by decide +kernel
theorem dX12_broughtBy_30 : decode cX12_broughtBy 30 = .ok (.invokestatic 154, 3) := by decide +kernel
theorem dX12_broughtBy_33 : decode cX12_broughtBy 33 = .ok (.iinc 3 1, 3) := by decide +kernel
theorem dX12_broughtBy_36 : decode cX12_broughtBy 36 = .ok (.goto (-34), 3) := by decide +kernel
theorem dX12_broughtBy_39 : decode cX12_broughtBy 39 = .ok (.ldc 47, 2) := by decide +kernel
theorem dX12_broughtBy_41 : decode cX12_broughtBy 41 = .ok (.ireturn, 1) := by decide +kernel
theorem dX12_notes_0 : decode cX12_notes 0 = .ok (.aload_n 0, 1) := by decide +kernel
theorem dX12_notes_1 : decode cX12_notes 1 = .ok (.getfield 132, 3) := by decide +kernel
theorem dX12_notes_4 : decode cX12_notes 4 = .ok (.bipush 24, 2) := by decide +kernel
theorem dX12_notes_6 : decode cX12_notes 6 = .ok (.if_icmp .ne 43, 3) := by decide +kernel
theorem dX12_notes_9 : decode cX12_notes 9 = .ok (.iconst 0, 1) := by decide +kernel
theorem dX12_notes_10 : decode cX12_notes 10 = .ok (.istore_n 1, 1) := by decide +kernel
theorem dX12_notes_11 : decode cX12_notes 11 = .ok (.iload_n 1, 1) := by decide +kernel
theorem dX12_notes_12 : decode cX12_notes 12 = .ok (.sipush 943, 3) := by decide +kernel
theorem dX12_notes_15 : decode cX12_notes 15 = .ok (.if_icmp .ge 24, 3) := by decide +kernel
theorem dX12_notes_18 : decode cX12_notes 18 = .ok (.aload_n 0, 1) := by decide +kernel
theorem dX12_notes_19 : decode cX12_notes 19 = .ok (.getfield 34, 3) := by decide +kernel
theorem dX12_notes_22 : decode cX12_notes 22 = .ok (.iload_n 1, 1) := by decide +kernel
theorem dX12_notes_23 : decode cX12_notes 23 = .ok (.aload_n 0, 1) := by decide +kernel
theorem dX12_notes_24 : decode cX12_notes 24 = .ok (.getfield 34, 3) := by decide +kernel
theorem dX12_notes_27 : decode cX12_notes 27 = .ok (.iload_n 1, 1) := by decide +kernel
theorem dX12_notes_28 : decode cX12_notes 28 = .ok (.bipush 41, 2) := by decide +kernel
theorem dX12_notes_30 : decode cX12_notes 30 = .ok (.iadd, 1) := by decide +kernel
theorem dX12_notes_31 : decode cX12_notes 31 = .ok (.iaload, 1) := by decide +kernel
theorem dX12_notes_32 : decode cX12_notes 32 = .ok (.iastore, 1) := by decide +kernel
theorem dX12_notes_33 : decode cX12_notes 33 = .ok (.iinc 1 1, 3) := by decide +kernel
theorem dX12_notes_36 : decode cX12_notes 36 = .ok (.goto (-25), 3) := by decide +kernel
theorem dX12_notes_39 : decode cX12_notes 39 = .ok (.aload_n 0, 1) := by decide +kernel
theorem dX12_notes_40 : decode cX12_notes 40 = .ok (.dup, 1) := by decide +kernel
theorem dX12_notes_41 : decode cX12_notes 41 = .ok (.getfield 132, 3) := by decide +kernel
theorem dX12_notes_44 : decode cX12_notes 44 = .ok (.iconst 1, 1) := by decide +kernel
theorem dX12_notes_45 : decode cX12_notes 45 = .ok (.isub, 1) := by decide +kernel
theorem dX12_notes_46 : decode cX12_notes 46 = .ok (.putfield 132, 3) := by decide +kernel
theorem dX12_notes_49 : decode cX12_notes 49 = .ok (.aload_n 0, 1) := by decide +kernel
theorem dX12_notes_50 : decode cX12_notes 50 = .ok (.getfield 25, 3) := by decide +kernel
theorem dX12_notes_53 : decode cX12_notes 53 = .ok (.iconst 0, 1) := by decide +kernel
theorem dX12_notes_54 : decode cX12_notes 54 = .ok (.aload_n 0, 1) := by decide +kernel
theorem dX12_notes_55 : decode cX12_notes 55 = .ok (.getfield 34, 3) := by decide +kernel
theorem dX12_notes_58 : decode cX12_notes 58 = .ok (.bipush 41, 2) := by decide +kernel
theorem dX12_notes_60 : decode cX12_notes 60 = .ok (.aload_n 0, 1) := by decide +kernel
theorem dX12_notes_61 : decode cX12_notes 61 = .ok (.getfield 132, 3) := by decide +kernel
theorem dX12_notes_64 : decode cX12_notes 64 = .ok (.imul, 1) := by decide +kernel
theorem dX12_notes_65 : decode cX12_notes 65 = .ok (.invokestatic 128, 3) := by decide +kernel
theorem dX12_notes_68 : decode cX12_notes 68 = .ok (.aload_n 0, 1) := by decide +kernel
theorem dX12_notes_69 : decode cX12_notes 69 = .ok (.dup, 1) := by decide +kernel
theorem dX12_notes_70 : decode cX12_notes 70 = .ok (.getfield 132, 3) := by decide +kernel
theorem dX12_notes_73 : decode cX12_notes 73 = .ok (.iconst 1, 1) := by decide +kernel
theorem dX12_notes_74 : decode cX12_notes 74 = .ok (.iadd, 1) := by decide +kernel
theorem dX12_notes_75 : decode cX12_notes 75 = .ok (.putfield 132, 3) := by decide +kernel
theorem dX12_notes_78 : decode cX12_notes 78 = .ok (.return_, 1) := by decide +kernel
theorem dX12_steps_0 : decode cX12_steps 0 = .ok (.aload_n 0, 1) := by decide +kernel
theorem dX12_steps_1 : decode cX12_steps 1 = .ok (.invokevirtual 158, 3) := by decide +kernel
theorem dX12_steps_4 : decode cX12_steps 4 = .ok (.ifCond .ne 6, 3) := by decide +kernel
theorem dX12_steps_7 : decode cX12_steps 7 = .ok (.ldc 161, 2) := by decide +kernel
theorem dX12_steps_9 : decode cX12_steps 9 = .ok (.ireturn, 1) := by decide +kernel
theorem dX12_steps_10 : decode cX12_steps 10 = .ok (.iload_n 1, 1) := by decide +kernel
theorem dX12_steps_11 : decode cX12_steps 11 = .ok (.iconst 1, 1) := by decide +kernel
theorem dX12_steps_12 : decode cX12_steps 12 = .ok (.bipush 24, 2) := by decide +kernel
theorem dX12_steps_14 : decode cX12_steps 14 = .ok (.invokestatic 53, 3) := by decide +kernel
theorem dX12_steps_17 : decode cX12_steps 17 = .ok (.ifCond .ne 6, 3) := by decide +kernel
theorem dX12_steps_20 : decode cX12_steps 20 = .ok (.ldc 61, 2) := by decide +kernel
theorem dX12_steps_22 : decode cX12_steps 22 = .ok (.ireturn, 1) := by decide +kernel
theorem dX12_steps_23 : decode cX12_steps 23 = .ok (.aload_n 0, 1) := by decide +kernel
theorem dX12_steps_24 : decode cX12_steps 24 = .ok (.getfield 25, 3) := by decide +kernel
theorem dX12_steps_27 : decode cX12_steps 27 = .ok (.iconst 2, 1) := by decide +kernel
theorem dX12_steps_28 : decode cX12_steps 28 = .ok (.iaload, 1) := by decide +kernel
theorem dX12_steps_29 : decode cX12_steps 29 = .ok (.iload_n 1, 1) := by decide +kernel
theorem dX12_steps_30 : decode cX12_steps 30 = .ok (.iadd, 1) := by decide +kernel
theorem dX12_steps_31 : decode cX12_steps 31 = .ok (.sipush 999, 3) := by decide +kernel
theorem dX12_steps_34 : decode cX12_steps 34 = .ok (.if_icmp .le 6, 3) := by decide +kernel
theorem dX12_steps_37 : decode cX12_steps 37 = .ok (.ldc 82, 2) := by decide +kernel
theorem dX12_steps_39 : decode cX12_steps 39 = .ok (.ireturn, 1) := by decide +kernel
theorem dX12_steps_40 : decode cX12_steps 40 = .ok (.iconst 0, 1) := by decide +kernel
theorem dX12_steps_41 : decode cX12_steps 41 = .ok (.istore_n 2, 1) := by decide +kernel
theorem dX12_steps_42 : decode cX12_steps 42 = .ok (.iload_n 2, 1) := by decide +kernel
theorem dX12_steps_43 : decode cX12_steps 43 = .ok (.iload_n 1, 1) := by decide +kernel
theorem dX12_steps_44 : decode cX12_steps 44 = .ok (.if_icmp .ge 20, 3) := by decide +kernel
theorem dX12_steps_47 : decode cX12_steps 47 = .ok (.aload_n 0, 1) := by decide +kernel
theorem dX12_steps_48 : decode cX12_steps 48 = .ok (.invokevirtual 162, 3) := by decide +kernel
theorem dX12_steps_51 : decode cX12_steps 51 = .ok (.aload_n 0, 1) := by decide +kernel
theorem dX12_steps_52 : decode cX12_steps 52 = .ok (.getfield 25, 3) := by decide +kernel
theorem dX12_steps_55 : decode cX12_steps 55 = .ok (.invokestatic 154, 3) := by decide +kernel
theorem dX12_steps_58 : decode cX12_steps 58 = .ok (.iinc 2 1, 3) := by decide +kernel
theorem dX12_steps_61 : decode cX12_steps 61 = .ok (.goto (-19), 3) := by decide +kernel
theorem dX12_steps_64 : decode cX12_steps 64 = .ok (.aload_n 0, 1) := by decide +kernel
theorem dX12_steps_65 : decode cX12_steps 65 = .ok (.getfield 25, 3) := by decide +kernel
theorem dX12_steps_68 : decode cX12_steps 68 = .ok (.iconst 1, 1) := by decide +kernel
theorem dX12_steps_69 : decode cX12_steps 69 = .ok (.iaload, 1) := by decide +kernel
theorem dX12_steps_70 : decode cX12_steps 70 = .ok (.ireturn, 1) := by decide +kernel
theorem dX12_show_0 : decode cX12_show 0 = .ok (.aload_n 0, 1) := by decide +kernel
theorem dX12_show_1 : decode cX12_show 1 = .ok (.iload_n 1, 1) := by decide +kernel
theorem dX12_show_2 : decode cX12_show 2 = .ok (.invokevirtual 165, 3) := by decide +kernel
theorem dX12_show_5 : decode cX12_show 5 = .ok (.ifCond .eq 13, 3) := by decide +kernel
theorem dX12_show_8 : decode cX12_show 8 = .ok (.iload_n 2, 1) := by decide +kernel
theorem dX12_show_9 : decode cX12_show 9 = .ok (.iconst 0, 1) := by decide +kernel
theorem dX12_show_10 : decode cX12_show 10 = .ok (.bipush 9, 2) := by decide +kernel
theorem dX12_show_12 : decode cX12_show 12 = .ok (.invokestatic 53, 3) := by decide +kernel
theorem dX12_show_15 : decode cX12_show 15 = .ok (.ifCond .ne 6, 3) := by decide +kernel
theorem dX12_show_18 : decode cX12_show 18 = .ok (.ldc 61, 2) := by decide +kernel
theorem dX12_show_20 : decode cX12_show 20 = .ok (.ireturn, 1) := by decide +kernel
theorem dX12_show_21 : decode cX12_show 21 = .ok (.aload_n 0, 1) := by decide +kernel
theorem dX12_show_22 : decode cX12_show 22 = .ok (.invokevirtual 162, 3) := by decide +kernel
theorem dX12_show_25 : decode cX12_show 25 = .ok (.aload_n 0, 1) := by decide +kernel
theorem dX12_show_26 : decode cX12_show 26 = .ok (.getfield 25, 3) := by decide +kernel
theorem dX12_show_29 : decode cX12_show 29 = .ok (.iconst 5, 1) := by decide +kernel
theorem dX12_show_30 : decode cX12_show 30 = .ok (.bipush 6, 2) := by decide +kernel
theorem dX12_show_32 : decode cX12_show 32 = .ok (.iload_n 1, 1) := by decide +kernel
theorem dX12_show_33 : decode cX12_show 33 = .ok (.imul, 1) := by decide +kernel
theorem dX12_show_34 : decode cX12_show 34 = .ok (.iadd, 1) := by decide +kernel
theorem dX12_show_35 : decode cX12_show 35 = .ok (.iconst 3, 1) := by decide +kernel
theorem dX12_show_36 : decode cX12_show 36 = .ok (.iadd, 1) := by decide +kernel
theorem dX12_show_37 : decode cX12_show 37 = .ok (.iaload, 1) := by decide +kernel
theorem dX12_show_38 : decode cX12_show 38 = .ok (.istore_n 3, 1) := by decide +kernel
theorem dX12_show_39 : decode cX12_show 39 = .ok (.aload_n 0, 1) := by decide +kernel
theorem dX12_show_40 : decode cX12_show 40 = .ok (.getfield 25, 3) := by decide +kernel
theorem dX12_show_43 : decode cX12_show 43 = .ok (.iconst 5, 1) := by decide +kernel
theorem dX12_show_44 : decode cX12_show 44 = .ok (.bipush 6, 2) := by decide +kernel
theorem dX12_show_46 : decode cX12_show 46 = .ok (.iload_n 1, 1) := by decide +kernel
theorem dX12_show_47 : decode cX12_show 47 = .ok (.imul, 1) := by decide +kernel
theorem dX12_show_48 : decode cX12_show 48 = .ok (.iadd, 1) := by decide +kernel
theorem dX12_show_49 : decode cX12_show 49 = .ok (.iconst 3, 1) := by decide +kernel
theorem dX12_show_50 : decode cX12_show 50 = .ok (.iadd, 1) := by decide +kernel
theorem dX12_show_51 : decode cX12_show 51 = .ok (.iload_n 2, 1) := by decide +kernel
theorem dX12_show_52 : decode cX12_show 52 = .ok (.iastore, 1) := by decide +kernel
theorem dX12_show_53 : decode cX12_show 53 = .ok (.iload_n 3, 1) := by decide +kernel
theorem dX12_show_54 : decode cX12_show 54 = .ok (.ireturn, 1) := by decide +kernel
theorem dX12_walk_0 : decode cX12_walk 0 = .ok (.aload_n 0, 1) := by decide +kernel
theorem dX12_walk_1 : decode cX12_walk 1 = .ok (.iload_n 1, 1) := by decide +kernel
theorem dX12_walk_2 : decode cX12_walk 2 = .ok (.invokevirtual 165, 3) := by decide +kernel
theorem dX12_walk_5 : decode cX12_walk 5 = .ok (.ifCond .eq 12, 3) := by decide +kernel
theorem dX12_walk_8 : decode cX12_walk 8 = .ok (.iload_n 2, 1) := by decide +kernel
theorem dX12_walk_9 : decode cX12_walk 9 = .ok (.iconst 0, 1) := by decide +kernel
theorem dX12_walk_10 : decode cX12_walk 10 = .ok (.iconst 1, 1) := by decide +kernel
theorem dX12_walk_11 : decode cX12_walk 11 = .ok (.invokestatic 53, 3) := by decide +kernel
theorem dX12_walk_14 : decode cX12_walk 14 = .ok (.ifCond .ne 6, 3) := by decide +kernel
theorem dX12_walk_17 : decode cX12_walk 17 = .ok (.ldc 61, 2) := by decide +kernel
theorem dX12_walk_19 : decode cX12_walk 19 = .ok (.ireturn, 1) := by decide +kernel
theorem dX12_walk_20 : decode cX12_walk 20 = .ok (.aload_n 0, 1) := by decide +kernel
theorem dX12_walk_21 : decode cX12_walk 21 = .ok (.getfield 25, 3) := by decide +kernel
theorem dX12_walk_24 : decode cX12_walk 24 = .ok (.iconst 5, 1) := by decide +kernel
theorem dX12_walk_25 : decode cX12_walk 25 = .ok (.bipush 6, 2) := by decide +kernel
theorem dX12_walk_27 : decode cX12_walk 27 = .ok (.iload_n 1, 1) := by decide +kernel
theorem dX12_walk_28 : decode cX12_walk 28 = .ok (.imul, 1) := by decide +kernel
theorem dX12_walk_29 : decode cX12_walk 29 = .ok (.iadd, 1) := by decide +kernel
theorem dX12_walk_30 : decode cX12_walk 30 = .ok (.iconst 1, 1) := by decide +kernel
theorem dX12_walk_31 : decode cX12_walk 31 = .ok (.iadd, 1) := by decide +kernel
theorem dX12_walk_32 : decode cX12_walk 32 = .ok (.iaload, 1) := by decide +kernel
theorem dX12_walk_33 : decode cX12_walk 33 = .ok (.iconst 2, 1) := by decide +kernel
theorem dX12_walk_34 : decode cX12_walk 34 = .ok (.iload_n 2, 1) := by decide +kernel
theorem dX12_walk_35 : decode cX12_walk 35 = .ok (.imul, 1) := by decide +kernel
theorem dX12_walk_36 : decode cX12_walk 36 = .ok (.iadd, 1) := by decide +kernel
theorem dX12_walk_37 : decode cX12_walk 37 = .ok (.iconst 1, 1) := by decide +kernel
theorem dX12_walk_38 : decode cX12_walk 38 = .ok (.isub, 1) := by decide +kernel
theorem dX12_walk_39 : decode cX12_walk 39 = .ok (.istore_n 3, 1) := by decide +kernel
theorem dX12_walk_40 : decode cX12_walk 40 = .ok (.aload_n 0, 1) := by decide +kernel
theorem dX12_walk_41 : decode cX12_walk 41 = .ok (.getfield 25, 3) := by decide +kernel
theorem dX12_walk_44 : decode cX12_walk 44 = .ok (.iload_n 1, 1) := by decide +kernel
theorem dX12_walk_45 : decode cX12_walk 45 = .ok (.invokestatic 135, 3) := by decide +kernel
theorem dX12_walk_48 : decode cX12_walk 48 = .ok (.ifCond .ne 17, 3) := by decide +kernel
theorem dX12_walk_51 : decode cX12_walk 51 = .ok (.iload_n 3, 1) := by decide +kernel
theorem dX12_walk_52 : decode cX12_walk 52 = .ok (.iconst 0, 1) := by decide +kernel
theorem dX12_walk_53 : decode cX12_walk 53 = .ok (.aload_n 0, 1) := by decide +kernel
theorem dX12_walk_54 : decode cX12_walk 54 = .ok (.getfield 25, 3) := by decide +kernel
theorem dX12_walk_57 : decode cX12_walk 57 = .ok (.iconst 0, 1) := by decide +kernel
theorem dX12_walk_58 : decode cX12_walk 58 = .ok (.iaload, 1) := by decide +kernel
theorem dX12_walk_59 : decode cX12_walk 59 = .ok (.invokestatic 53, 3) := by decide +kernel
theorem dX12_walk_62 : decode cX12_walk 62 = .ok (.ifCond .ne 6, 3) := by decide +kernel
theorem dX12_walk_65 : decode cX12_walk 65 = .ok (.ldc 161, 2) := by decide +kernel
theorem dX12_walk_67 : decode cX12_walk 67 = .ok (.ireturn, 1) := by decide +kernel
theorem dX12_walk_68 : decode cX12_walk 68 = .ok (.aload_n 0, 1) := by decide +kernel
theorem dX12_walk_69 : decode cX12_walk 69 = .ok (.invokevirtual 162, 3) := by decide +kernel
theorem dX12_walk_72 : decode cX12_walk 72 = .ok (.aload_n 0, 1) := by decide +kernel
theorem dX12_walk_73 : decode cX12_walk 73 = .ok (.getfield 25, 3) := by decide +kernel
theorem dX12_walk_76 : decode cX12_walk 76 = .ok (.iconst 5, 1) := by decide +kernel
theorem dX12_walk_77 : decode cX12_walk 77 = .ok (.bipush 6, 2) := by decide +kernel
theorem dX12_walk_79 : decode cX12_walk 79 = .ok (.iload_n 1, 1) := by decide +kernel
theorem dX12_walk_80 : decode cX12_walk 80 = .ok (.imul, 1) := by decide +kernel
theorem dX12_walk_81 : decode cX12_walk 81 = .ok (.iadd, 1) := by decide +kernel
theorem dX12_walk_82 : decode cX12_walk 82 = .ok (.iconst 1, 1) := by decide +kernel
theorem dX12_walk_83 : decode cX12_walk 83 = .ok (.iadd, 1) := by decide +kernel
theorem dX12_walk_84 : decode cX12_walk 84 = .ok (.iload_n 3, 1) := by decide +kernel
theorem dX12_walk_85 : decode cX12_walk 85 = .ok (.iastore, 1) := by decide +kernel
theorem dX12_walk_86 : decode cX12_walk 86 = .ok (.iload_n 3, 1) := by decide +kernel
theorem dX12_walk_87 : decode cX12_walk 87 = .ok (.ireturn, 1) := by decide +kernel
theorem dX12_undo_0 : decode cX12_undo 0 = .ok (.aload_n 0, 1) := by decide +kernel
theorem dX12_undo_1 : decode cX12_undo 1 = .ok (.getfield 132, 3) := by decide +kernel
theorem dX12_undo_4 : decode cX12_undo 4 = .ok (.ifCond .ne 6, 3) := by decide +kernel
theorem dX12_undo_7 : decode cX12_undo 7 = .ok (.ldc 161, 2) := by decide +kernel
theorem dX12_undo_9 : decode cX12_undo 9 = .ok (.ireturn, 1) := by decide +kernel
theorem dX12_undo_10 : decode cX12_undo 10 = .ok (.aload_n 0, 1) := by decide +kernel
theorem dX12_undo_11 : decode cX12_undo 11 = .ok (.dup, 1) := by decide +kernel
theorem dX12_undo_12 : decode cX12_undo 12 = .ok (.getfield 132, 3) := by decide +kernel
theorem dX12_undo_15 : decode cX12_undo 15 = .ok (.iconst 1, 1) := by decide +kernel
theorem dX12_undo_16 : decode cX12_undo 16 = .ok (.isub, 1) := by decide +kernel
theorem dX12_undo_17 : decode cX12_undo 17 = .ok (.putfield 132, 3) := by decide +kernel
theorem dX12_undo_20 : decode cX12_undo 20 = .ok (.aload_n 0, 1) := by decide +kernel
theorem dX12_undo_21 : decode cX12_undo 21 = .ok (.getfield 34, 3) := by decide +kernel
theorem dX12_undo_24 : decode cX12_undo 24 = .ok (.bipush 41, 2) := by decide +kernel
theorem dX12_undo_26 : decode cX12_undo 26 = .ok (.aload_n 0, 1) := by decide +kernel
theorem dX12_undo_27 : decode cX12_undo 27 = .ok (.getfield 132, 3) := by decide +kernel
theorem dX12_undo_30 : decode cX12_undo 30 = .ok (.imul, 1) := by decide +kernel
theorem dX12_undo_31 : decode cX12_undo 31 = .ok (.aload_n 0, 1) := by decide +kernel
theorem dX12_undo_32 : decode cX12_undo 32 = .ok (.getfield 25, 3) := by decide +kernel
theorem dX12_undo_35 : decode cX12_undo 35 = .ok (.iconst 0, 1) := by decide +kernel
theorem dX12_undo_36 : decode cX12_undo 36 = .ok (.invokestatic 128, 3) := by decide +kernel
theorem dX12_undo_39 : decode cX12_undo 39 = .ok (.aload_n 0, 1) := by decide +kernel
theorem dX12_undo_40 : decode cX12_undo 40 = .ok (.getfield 132, 3) := by decide +kernel
theorem dX12_undo_43 : decode cX12_undo 43 = .ok (.ireturn, 1) := by decide +kernel
theorem dX12_person_0 : decode cX12_person 0 = .ok (.aload_n 0, 1) := by decide +kernel
theorem dX12_person_1 : decode cX12_person 1 = .ok (.iload_n 1, 1) := by decide +kernel
theorem dX12_person_2 : decode cX12_person 2 = .ok (.invokevirtual 165, 3) := by decide +kernel
theorem dX12_person_5 : decode cX12_person 5 = .ok (.ifCond .ne 6, 3) := by decide +kernel
theorem dX12_person_8 : decode cX12_person 8 = .ok (.ldc 61, 2) := by decide +kernel
theorem dX12_person_10 : decode cX12_person 10 = .ok (.ireturn, 1) := by decide +kernel
theorem dX12_person_11 : decode cX12_person 11 = .ok (.iconst 5, 1) := by decide +kernel
theorem dX12_person_12 : decode cX12_person 12 = .ok (.bipush 6, 2) := by decide +kernel
theorem dX12_person_14 : decode cX12_person 14 = .ok (.iload_n 1, 1) := by decide +kernel
theorem dX12_person_15 : decode cX12_person 15 = .ok (.imul, 1) := by decide +kernel
theorem dX12_person_16 : decode cX12_person 16 = .ok (.iadd, 1) := by decide +kernel
theorem dX12_person_17 : decode cX12_person 17 = .ok (.istore_n 3, 1) := by decide +kernel
theorem dX12_person_18 : decode cX12_person 18 = .ok (.iload_n 2, 1) := by decide +kernel
theorem dX12_person_19 : decode cX12_person 19 = .ok (.tableswitch 91 0 5 #[37, 46, 55, 64, 73, 82], 37) := by decide +kernel
theorem dX12_person_56 : decode cX12_person 56 = .ok (.aload_n 0, 1) := by decide +kernel
theorem dX12_person_57 : decode cX12_person 57 = .ok (.getfield 25, 3) := by decide +kernel
theorem dX12_person_60 : decode cX12_person 60 = .ok (.iload_n 3, 1) := by decide +kernel
theorem dX12_person_61 : decode cX12_person 61 = .ok (.iconst 1, 1) := by decide +kernel
theorem dX12_person_62 : decode cX12_person 62 = .ok (.iadd, 1) := by decide +kernel
theorem dX12_person_63 : decode cX12_person 63 = .ok (.iaload, 1) := by decide +kernel
theorem dX12_person_64 : decode cX12_person 64 = .ok (.ireturn, 1) := by decide +kernel
theorem dX12_person_65 : decode cX12_person 65 = .ok (.aload_n 0, 1) := by decide +kernel
theorem dX12_person_66 : decode cX12_person 66 = .ok (.getfield 25, 3) := by decide +kernel
theorem dX12_person_69 : decode cX12_person 69 = .ok (.iload_n 3, 1) := by decide +kernel
theorem dX12_person_70 : decode cX12_person 70 = .ok (.iconst 2, 1) := by decide +kernel
theorem dX12_person_71 : decode cX12_person 71 = .ok (.iadd, 1) := by decide +kernel
theorem dX12_person_72 : decode cX12_person 72 = .ok (.iaload, 1) := by decide +kernel
theorem dX12_person_73 : decode cX12_person 73 = .ok (.ireturn, 1) := by decide +kernel
theorem dX12_person_74 : decode cX12_person 74 = .ok (.aload_n 0, 1) := by decide +kernel
theorem dX12_person_75 : decode cX12_person 75 = .ok (.getfield 25, 3) := by decide +kernel
theorem dX12_person_78 : decode cX12_person 78 = .ok (.iload_n 3, 1) := by decide +kernel
theorem dX12_person_79 : decode cX12_person 79 = .ok (.iconst 3, 1) := by decide +kernel
theorem dX12_person_80 : decode cX12_person 80 = .ok (.iadd, 1) := by decide +kernel
theorem dX12_person_81 : decode cX12_person 81 = .ok (.iaload, 1) := by decide +kernel
theorem dX12_person_82 : decode cX12_person 82 = .ok (.ireturn, 1) := by decide +kernel
theorem dX12_person_83 : decode cX12_person 83 = .ok (.aload_n 0, 1) := by decide +kernel
theorem dX12_person_84 : decode cX12_person 84 = .ok (.getfield 25, 3) := by decide +kernel
theorem dX12_person_87 : decode cX12_person 87 = .ok (.iload_n 3, 1) := by decide +kernel
theorem dX12_person_88 : decode cX12_person 88 = .ok (.iconst 4, 1) := by decide +kernel
theorem dX12_person_89 : decode cX12_person 89 = .ok (.iadd, 1) := by decide +kernel
theorem dX12_person_90 : decode cX12_person 90 = .ok (.iaload, 1) := by decide +kernel
theorem dX12_person_91 : decode cX12_person 91 = .ok (.ireturn, 1) := by decide +kernel
theorem dX12_person_92 : decode cX12_person 92 = .ok (.aload_n 0, 1) := by decide +kernel
theorem dX12_person_93 : decode cX12_person 93 = .ok (.getfield 25, 3) := by decide +kernel
theorem dX12_person_96 : decode cX12_person 96 = .ok (.iload_n 1, 1) := by decide +kernel
theorem dX12_person_97 : decode cX12_person 97 = .ok (.invokestatic 143, 3) := by decide +kernel
theorem dX12_person_100 : decode cX12_person 100 = .ok (.ireturn, 1) := by decide +kernel
theorem dX12_person_101 : decode cX12_person 101 = .ok (.aload_n 0, 1) := by decide +kernel
theorem dX12_person_102 : decode cX12_person 102 = .ok (.getfield 25, 3) := by decide +kernel
theorem dX12_person_105 : decode cX12_person 105 = .ok (.iload_n 3, 1) := by decide +kernel
theorem dX12_person_106 : decode cX12_person 106 = .ok (.iconst 5, 1) := by decide +kernel
theorem dX12_person_107 : decode cX12_person 107 = .ok (.iadd, 1) := by decide +kernel
theorem dX12_person_108 : decode cX12_person 108 = .ok (.iaload, 1) := by decide +kernel
theorem dX12_person_109 : decode cX12_person 109 = .ok (.ireturn, 1) := by decide +kernel
theorem dX12_person_110 : decode cX12_person 110 = .ok (.ldc 61, 2) := by decide +kernel
theorem dX12_person_112 : decode cX12_person 112 = .ok (.ireturn, 1) := by decide +kernel
theorem dX12_minds_0 : decode cX12_minds 0 = .ok (.aload_n 0, 1) := by decide +kernel
theorem dX12_minds_1 : decode cX12_minds 1 = .ok (.iload_n 1, 1) := by decide +kernel
theorem dX12_minds_2 : decode cX12_minds 2 = .ok (.invokevirtual 165, 3) := by decide +kernel
theorem dX12_minds_5 : decode cX12_minds 5 = .ok (.ifCond .eq 28, 3) := by decide +kernel
theorem dX12_minds_8 : decode cX12_minds 8 = .ok (.aload_n 0, 1) := by decide +kernel
theorem dX12_minds_9 : decode cX12_minds 9 = .ok (.iload_n 2, 1) := by decide +kernel
theorem dX12_minds_10 : decode cX12_minds 10 = .ok (.invokevirtual 165, 3) := by decide +kernel
theorem dX12_minds_13 : decode cX12_minds 13 = .ok (.ifCond .eq 20, 3) := by decide +kernel
theorem dX12_minds_16 : decode cX12_minds 16 = .ok (.iload_n 1, 1) := by decide +kernel
theorem dX12_minds_17 : decode cX12_minds 17 = .ok (.iload_n 2, 1) := by decide +kernel
theorem dX12_minds_18 : decode cX12_minds 18 = .ok (.if_icmp .eq 15, 3) := by decide +kernel
theorem dX12_minds_21 : decode cX12_minds 21 = .ok (.aload_n 0, 1) := by decide +kernel
theorem dX12_minds_22 : decode cX12_minds 22 = .ok (.getfield 25, 3) := by decide +kernel
theorem dX12_minds_25 : decode cX12_minds 25 = .ok (.iload_n 1, 1) := by decide +kernel
theorem dX12_minds_26 : decode cX12_minds 26 = .ok (.iload_n 2, 1) := by decide +kernel
theorem dX12_minds_27 : decode cX12_minds 27 = .ok (.invokestatic 139, 3) := by decide +kernel
theorem dX12_minds_30 : decode cX12_minds 30 = .ok (.goto 5, 3) := by decide +kernel
theorem dX12_minds_33 : decode cX12_minds 33 = .ok (.ldc 61, 2) := by decide +kernel
theorem dX12_minds_35 : decode cX12_minds 35 = .ok (.ireturn, 1) := by decide +kernel
theorem dX12_riderIn_0 : decode cX12_riderIn 0 = .ok (.aload_n 0, 1) := by decide +kernel
theorem dX12_riderIn_1 : decode cX12_riderIn 1 = .ok (.iconst 3, 1) := by decide +kernel
theorem dX12_riderIn_2 : decode cX12_riderIn 2 = .ok (.iaload, 1) := by decide +kernel
theorem dX12_riderIn_3 : decode cX12_riderIn 3 = .ok (.ifCond .ne 8, 3) := by decide +kernel
theorem dX12_riderIn_6 : decode cX12_riderIn 6 = .ok (.ldc 47, 2) := by decide +kernel
theorem dX12_riderIn_8 : decode cX12_riderIn 8 = .ok (.goto 8, 3) := by decide +kernel
theorem dX12_riderIn_11 : decode cX12_riderIn 11 = .ok (.aload_n 0, 1) := by decide +kernel
theorem dX12_riderIn_12 : decode cX12_riderIn 12 = .ok (.iconst 3, 1) := by decide +kernel
theorem dX12_riderIn_13 : decode cX12_riderIn 13 = .ok (.iaload, 1) := by decide +kernel
theorem dX12_riderIn_14 : decode cX12_riderIn 14 = .ok (.iconst 1, 1) := by decide +kernel
theorem dX12_riderIn_15 : decode cX12_riderIn 15 = .ok (.isub, 1) := by decide +kernel
theorem dX12_riderIn_16 : decode cX12_riderIn 16 = .ok (.ireturn, 1) := by decide +kernel
theorem dX12_car_0 : decode cX12_car 0 = .ok (.aload_n 0, 1) := by decide +kernel
theorem dX12_car_1 : decode cX12_car 1 = .ok (.invokevirtual 158, 3) := by decide +kernel
theorem dX12_car_4 : decode cX12_car 4 = .ok (.ifCond .ne 6, 3) := by decide +kernel
theorem dX12_car_7 : decode cX12_car 7 = .ok (.ldc 161, 2) := by decide +kernel
theorem dX12_car_9 : decode cX12_car 9 = .ok (.ireturn, 1) := by decide +kernel
theorem dX12_car_10 : decode cX12_car 10 = .ok (.iload_n 1, 1) := by decide +kernel
theorem dX12_car_11 : decode cX12_car 11 = .ok (.tableswitch 60 0 3 #[29, 36, 44, 52], 29) := by decide +kernel
theorem dX12_car_40 : decode cX12_car 40 = .ok (.aload_n 0, 1) := by decide +kernel
theorem dX12_car_41 : decode cX12_car 41 = .ok (.getfield 25, 3) := by decide +kernel
theorem dX12_car_44 : decode cX12_car 44 = .ok (.iconst 1, 1) := by decide +kernel
theorem dX12_car_45 : decode cX12_car 45 = .ok (.iaload, 1) := by decide +kernel
theorem dX12_car_46 : decode cX12_car 46 = .ok (.ireturn, 1) := by decide +kernel
theorem dX12_car_47 : decode cX12_car 47 = .ok (.aload_n 0, 1) := by decide +kernel
theorem dX12_car_48 : decode cX12_car 48 = .ok (.getfield 25, 3) := by decide +kernel
theorem dX12_car_51 : decode cX12_car 51 = .ok (.invokestatic 168, 3) := by decide +kernel
theorem dX12_car_54 : decode cX12_car 54 = .ok (.ireturn, 1) := by decide +kernel
theorem dX12_car_55 : decode cX12_car 55 = .ok (.aload_n 0, 1) := by decide +kernel
theorem dX12_car_56 : decode cX12_car 56 = .ok (.getfield 25, 3) := by decide +kernel
theorem dX12_car_59 : decode cX12_car 59 = .ok (.invokestatic 150, 3) := by decide +kernel
theorem dX12_car_62 : decode cX12_car 62 = .ok (.ireturn, 1) := by decide +kernel
theorem dX12_car_63 : decode cX12_car 63 = .ok (.aload_n 0, 1) := by decide +kernel
theorem dX12_car_64 : decode cX12_car 64 = .ok (.getfield 25, 3) := by decide +kernel
theorem dX12_car_67 : decode cX12_car 67 = .ok (.invokestatic 171, 3) := by decide +kernel
theorem dX12_car_70 : decode cX12_car 70 = .ok (.ireturn, 1) := by decide +kernel
theorem dX12_car_71 : decode cX12_car 71 = .ok (.ldc 61, 2) := by decide +kernel
theorem dX12_car_73 : decode cX12_car 73 = .ok (.ireturn, 1) := by decide +kernel
theorem dX12_ahead_0 : decode cX12_ahead 0 = .ok (.aload_n 0, 1) := by decide +kernel
theorem dX12_ahead_1 : decode cX12_ahead 1 = .ok (.invokevirtual 158, 3) := by decide +kernel
theorem dX12_ahead_4 : decode cX12_ahead 4 = .ok (.ifCond .ne 6, 3) := by decide +kernel
theorem dX12_ahead_7 : decode cX12_ahead 7 = .ok (.ldc 161, 2) := by decide +kernel
theorem dX12_ahead_9 : decode cX12_ahead 9 = .ok (.ireturn, 1) := by decide +kernel
theorem dX12_ahead_10 : decode cX12_ahead 10 = .ok (.iload_n 1, 1) := by decide +kernel
theorem dX12_ahead_11 : decode cX12_ahead 11 = .ok (.invokestatic 174, 3) := by decide +kernel
theorem dX12_ahead_14 : decode cX12_ahead 14 = .ok (.ifCond .eq 12, 3) := by decide +kernel
theorem dX12_ahead_17 : decode cX12_ahead 17 = .ok (.iload_n 2, 1) := by decide +kernel
theorem dX12_ahead_18 : decode cX12_ahead 18 = .ok (.iconst 0, 1) := by decide +kernel
theorem dX12_ahead_19 : decode cX12_ahead 19 = .ok (.iconst 2, 1) := by decide +kernel
theorem dX12_ahead_20 : decode cX12_ahead 20 = .ok (.invokestatic 53, 3) := by decide +kernel
theorem dX12_ahead_23 : decode cX12_ahead 23 = .ok (.ifCond .ne 6, 3) := by decide +kernel
theorem dX12_ahead_26 : decode cX12_ahead 26 = .ok (.ldc 61, 2) := by decide +kernel
theorem dX12_ahead_28 : decode cX12_ahead 28 = .ok (.ireturn, 1) := by decide +kernel
theorem dX12_ahead_29 : decode cX12_ahead 29 = .ok (.aload_n 0, 1) := by decide +kernel
theorem dX12_ahead_30 : decode cX12_ahead 30 = .ok (.iload_n 1, 1) := by decide +kernel
theorem dX12_ahead_31 : decode cX12_ahead 31 = .ok (.invokevirtual 177, 3) := by decide +kernel
theorem dX12_ahead_34 : decode cX12_ahead 34 = .ok (.iload_n 2, 1) := by decide +kernel
theorem dX12_ahead_35 : decode cX12_ahead 35 = .ok (.ifCond .ne 12, 3) := by decide +kernel
theorem dX12_ahead_38 : decode cX12_ahead 38 = .ok (.aload_n 0, 1) := by decide +kernel
theorem dX12_ahead_39 : decode cX12_ahead 39 = .ok (.getfield 31, 3) := by decide +kernel
theorem dX12_ahead_42 : decode cX12_ahead 42 = .ok (.iconst 1, 1) := by decide +kernel
theorem dX12_ahead_43 : decode cX12_ahead 43 = .ok (.iaload, 1) := by decide +kernel
theorem dX12_ahead_44 : decode cX12_ahead 44 = .ok (.goto 25, 3) := by decide +kernel
theorem dX12_ahead_47 : decode cX12_ahead 47 = .ok (.iload_n 2, 1) := by decide +kernel
theorem dX12_ahead_48 : decode cX12_ahead 48 = .ok (.iconst 1, 1) := by decide +kernel
theorem dX12_ahead_49 : decode cX12_ahead 49 = .ok (.if_icmp .ne 13, 3) := by decide +kernel
theorem dX12_ahead_52 : decode cX12_ahead 52 = .ok (.aload_n 0, 1) := by decide +kernel
theorem dX12_ahead_53 : decode cX12_ahead 53 = .ok (.getfield 31, 3) := by decide +kernel
theorem dX12_ahead_56 : decode cX12_ahead 56 = .ok (.invokestatic 168, 3) := by decide +kernel
theorem dX12_ahead_59 : decode cX12_ahead 59 = .ok (.goto 10, 3) := by decide +kernel
theorem dX12_ahead_62 : decode cX12_ahead 62 = .ok (.aload_n 0, 1) := by decide +kernel
theorem dX12_ahead_63 : decode cX12_ahead 63 = .ok (.getfield 31, 3) := by decide +kernel
theorem dX12_ahead_66 : decode cX12_ahead 66 = .ok (.invokestatic 171, 3) := by decide +kernel
theorem dX12_ahead_69 : decode cX12_ahead 69 = .ok (.ireturn, 1) := by decide +kernel
theorem dX12_when_0 : decode cX12_when 0 = .ok (.aload_n 0, 1) := by decide +kernel
theorem dX12_when_1 : decode cX12_when 1 = .ok (.iload_n 1, 1) := by decide +kernel
theorem dX12_when_2 : decode cX12_when 2 = .ok (.invokevirtual 165, 3) := by decide +kernel
theorem dX12_when_5 : decode cX12_when 5 = .ok (.ifCond .ne 6, 3) := by decide +kernel
theorem dX12_when_8 : decode cX12_when 8 = .ok (.ldc 61, 2) := by decide +kernel
theorem dX12_when_10 : decode cX12_when 10 = .ok (.ireturn, 1) := by decide +kernel
theorem dX12_when_11 : decode cX12_when 11 = .ok (.aload_n 0, 1) := by decide +kernel
theorem dX12_when_12 : decode cX12_when 12 = .ok (.iconst 0, 1) := by decide +kernel
theorem dX12_when_13 : decode cX12_when 13 = .ok (.invokevirtual 177, 3) := by decide +kernel
theorem dX12_when_16 : decode cX12_when 16 = .ok (.aload_n 0, 1) := by decide +kernel
end
section
theorem dX12_when_17 : decode cX12_when 17 = .ok (.iload_n 1, 1) := by decide +kernel
theorem dX12_when_18 : decode cX12_when 18 = .ok (.bipush 99, 2) := by decide +kernel
theorem dX12_when_20 : decode cX12_when 20 = .ok (.invokevirtual 181, 3) := by decide +kernel
theorem dX12_when_23 : decode cX12_when 23 = .ok (.ireturn, 1) := by decide +kernel
theorem dX12_first_0 : decode cX12_first 0 = .ok (.aload_n 0, 1) := by decide +kernel
theorem dX12_first_1 : decode cX12_first 1 = .ok (.invokevirtual 158, 3) := by decide +kernel
theorem dX12_first_4 : decode cX12_first 4 = .ok (.ifCond .ne 6, 3) := by decide +kernel
theorem dX12_first_7 : decode cX12_first 7 = .ok (.ldc 161, 2) := by decide +kernel
theorem dX12_first_9 : decode cX12_first 9 = .ok (.ireturn, 1) := by decide +kernel
theorem dX12_first_10 : decode cX12_first 10 = .ok (.iload_n 1, 1) := by decide +kernel
theorem dX12_first_11 : decode cX12_first 11 = .ok (.iconst 0, 1) := by decide +kernel
theorem dX12_first_12 : decode cX12_first 12 = .ok (.iconst 1, 1) := by decide +kernel
theorem dX12_first_13 : decode cX12_first 13 = .ok (.invokestatic 53, 3) := by decide +kernel
theorem dX12_first_16 : decode cX12_first 16 = .ok (.ifCond .ne 6, 3) := by decide +kernel
theorem dX12_first_19 : decode cX12_first 19 = .ok (.ldc 61, 2) := by decide +kernel
theorem dX12_first_21 : decode cX12_first 21 = .ok (.ireturn, 1) := by decide +kernel
theorem dX12_first_22 : decode cX12_first 22 = .ok (.aload_n 0, 1) := by decide +kernel
theorem dX12_first_23 : decode cX12_first 23 = .ok (.iconst 0, 1) := by decide +kernel
theorem dX12_first_24 : decode cX12_first 24 = .ok (.invokevirtual 177, 3) := by decide +kernel
theorem dX12_first_27 : decode cX12_first 27 = .ok (.aload_n 0, 1) := by decide +kernel
theorem dX12_first_28 : decode cX12_first 28 = .ok (.getfield 25, 3) := by decide +kernel
theorem dX12_first_31 : decode cX12_first 31 = .ok (.invokestatic 171, 3) := by decide +kernel
theorem dX12_first_34 : decode cX12_first 34 = .ok (.istore_n 2, 1) := by decide +kernel
theorem dX12_first_35 : decode cX12_first 35 = .ok (.iconst 1, 1) := by decide +kernel
theorem dX12_first_36 : decode cX12_first 36 = .ok (.istore_n 3, 1) := by decide +kernel
theorem dX12_first_37 : decode cX12_first 37 = .ok (.iload_n 3, 1) := by decide +kernel
theorem dX12_first_38 : decode cX12_first 38 = .ok (.bipush 100, 2) := by decide +kernel
theorem dX12_first_40 : decode cX12_first 40 = .ok (.if_icmp .ge 70, 3) := by decide +kernel
theorem dX12_first_43 : decode cX12_first 43 = .ok (.aload_n 0, 1) := by decide +kernel
theorem dX12_first_44 : decode cX12_first 44 = .ok (.getfield 31, 3) := by decide +kernel
theorem dX12_first_47 : decode cX12_first 47 = .ok (.invokestatic 154, 3) := by decide +kernel
theorem dX12_first_50 : decode cX12_first 50 = .ok (.aload_n 0, 1) := by decide +kernel
theorem dX12_first_51 : decode cX12_first 51 = .ok (.getfield 31, 3) := by decide +kernel
theorem dX12_first_54 : decode cX12_first 54 = .ok (.invokestatic 171, 3) := by decide +kernel
theorem dX12_first_57 : decode cX12_first 57 = .ok (.iload_n 2, 1) := by decide +kernel
theorem dX12_first_58 : decode cX12_first 58 = .ok (.iconst (-1), 1) := by decide +kernel
theorem dX12_first_59 : decode cX12_first 59 = .ok (.ixor, 1) := by decide +kernel
theorem dX12_first_60 : decode cX12_first 60 = .ok (.iand, 1) := by decide +kernel
theorem dX12_first_61 : decode cX12_first 61 = .ok (.istore 4, 2) := by decide +kernel
theorem dX12_first_63 : decode cX12_first 63 = .ok (.iconst 0, 1) := by decide +kernel
theorem dX12_first_64 : decode cX12_first 64 = .ok (.istore 5, 2) := by decide +kernel
theorem dX12_first_66 : decode cX12_first 66 = .ok (.iload 5, 2) := by decide +kernel
theorem dX12_first_68 : decode cX12_first 68 = .ok (.aload_n 0, 1) := by decide +kernel
theorem dX12_first_69 : decode cX12_first 69 = .ok (.getfield 25, 3) := by decide +kernel
theorem dX12_first_72 : decode cX12_first 72 = .ok (.iconst 4, 1) := by decide +kernel
theorem dX12_first_73 : decode cX12_first 73 = .ok (.iaload, 1) := by decide +kernel
theorem dX12_first_74 : decode cX12_first 74 = .ok (.if_icmp .ge 30, 3) := by decide +kernel
theorem dX12_first_77 : decode cX12_first 77 = .ok (.iload 4, 2) := by decide +kernel
theorem dX12_first_79 : decode cX12_first 79 = .ok (.iload 5, 2) := by decide +kernel
theorem dX12_first_81 : decode cX12_first 81 = .ok (.invokestatic 184, 3) := by decide +kernel
theorem dX12_first_84 : decode cX12_first 84 = .ok (.ifCond .eq 14, 3) := by decide +kernel
theorem dX12_first_87 : decode cX12_first 87 = .ok (.iload_n 1, 1) := by decide +kernel
theorem dX12_first_88 : decode cX12_first 88 = .ok (.ifCond .ne 8, 3) := by decide +kernel
theorem dX12_first_91 : decode cX12_first 91 = .ok (.iload 5, 2) := by decide +kernel
theorem dX12_first_93 : decode cX12_first 93 = .ok (.goto 4, 3) := by decide +kernel
theorem dX12_first_96 : decode cX12_first 96 = .ok (.iload_n 3, 1) := by decide +kernel
theorem dX12_first_97 : decode cX12_first 97 = .ok (.ireturn, 1) := by decide +kernel
theorem dX12_first_98 : decode cX12_first 98 = .ok (.iinc 5 1, 3) := by decide +kernel
theorem dX12_first_101 : decode cX12_first 101 = .ok (.goto (-35), 3) := by decide +kernel
theorem dX12_first_104 : decode cX12_first 104 = .ok (.iinc 3 1, 3) := by decide +kernel
theorem dX12_first_107 : decode cX12_first 107 = .ok (.goto (-70), 3) := by decide +kernel
theorem dX12_first_110 : decode cX12_first 110 = .ok (.ldc 47, 2) := by decide +kernel
theorem dX12_first_112 : decode cX12_first 112 = .ok (.ireturn, 1) := by decide +kernel
theorem dX12_never_0 : decode cX12_never 0 = .ok (.aload_n 0, 1) := by decide +kernel
theorem dX12_never_1 : decode cX12_never 1 = .ok (.invokevirtual 158, 3) := by decide +kernel
theorem dX12_never_4 : decode cX12_never 4 = .ok (.ifCond .ne 6, 3) := by decide +kernel
theorem dX12_never_7 : decode cX12_never 7 = .ok (.ldc 161, 2) := by decide +kernel
theorem dX12_never_9 : decode cX12_never 9 = .ok (.ireturn, 1) := by decide +kernel
theorem dX12_never_10 : decode cX12_never 10 = .ok (.aload_n 0, 1) := by decide +kernel
theorem dX12_never_11 : decode cX12_never 11 = .ok (.bipush 99, 2) := by decide +kernel
theorem dX12_never_13 : decode cX12_never 13 = .ok (.invokevirtual 177, 3) := by decide +kernel
theorem dX12_never_16 : decode cX12_never 16 = .ok (.iconst 1, 1) := by decide +kernel
theorem dX12_never_17 : decode cX12_never 17 = .ok (.aload_n 0, 1) := by decide +kernel
theorem dX12_never_18 : decode cX12_never 18 = .ok (.getfield 25, 3) := by decide +kernel
theorem dX12_never_21 : decode cX12_never 21 = .ok (.iconst 4, 1) := by decide +kernel
theorem dX12_never_22 : decode cX12_never 22 = .ok (.iaload, 1) := by decide +kernel
theorem dX12_never_23 : decode cX12_never 23 = .ok (.ishl, 1) := by decide +kernel
theorem dX12_never_24 : decode cX12_never 24 = .ok (.iconst 1, 1) := by decide +kernel
theorem dX12_never_25 : decode cX12_never 25 = .ok (.isub, 1) := by decide +kernel
theorem dX12_never_26 : decode cX12_never 26 = .ok (.aload_n 0, 1) := by decide +kernel
theorem dX12_never_27 : decode cX12_never 27 = .ok (.getfield 31, 3) := by decide +kernel
theorem dX12_never_30 : decode cX12_never 30 = .ok (.invokestatic 171, 3) := by decide +kernel
theorem dX12_never_33 : decode cX12_never 33 = .ok (.iconst (-1), 1) := by decide +kernel
theorem dX12_never_34 : decode cX12_never 34 = .ok (.ixor, 1) := by decide +kernel
theorem dX12_never_35 : decode cX12_never 35 = .ok (.iand, 1) := by decide +kernel
theorem dX12_never_36 : decode cX12_never 36 = .ok (.ireturn, 1) := by decide +kernel
theorem dX12_least_0 : decode cX12_least 0 = .ok (.aload_n 0, 1) := by decide +kernel
theorem dX12_least_1 : decode cX12_least 1 = .ok (.iload_n 1, 1) := by decide +kernel
theorem dX12_least_2 : decode cX12_least 2 = .ok (.invokevirtual 165, 3) := by decide +kernel
theorem dX12_least_5 : decode cX12_least 5 = .ok (.ifCond .eq 10, 3) := by decide +kernel
theorem dX12_least_8 : decode cX12_least 8 = .ok (.iload_n 2, 1) := by decide +kernel
theorem dX12_least_9 : decode cX12_least 9 = .ok (.invokestatic 174, 3) := by decide +kernel
theorem dX12_least_12 : decode cX12_least 12 = .ok (.ifCond .ne 6, 3) := by decide +kernel
theorem dX12_least_15 : decode cX12_least 15 = .ok (.ldc 61, 2) := by decide +kernel
theorem dX12_least_17 : decode cX12_least 17 = .ok (.ireturn, 1) := by decide +kernel
theorem dX12_least_18 : decode cX12_least 18 = .ok (.aload_n 0, 1) := by decide +kernel
theorem dX12_least_19 : decode cX12_least 19 = .ok (.getfield 25, 3) := by decide +kernel
theorem dX12_least_22 : decode cX12_least 22 = .ok (.iconst 5, 1) := by decide +kernel
theorem dX12_least_23 : decode cX12_least 23 = .ok (.bipush 6, 2) := by decide +kernel
theorem dX12_least_25 : decode cX12_least 25 = .ok (.iload_n 1, 1) := by decide +kernel
theorem dX12_least_26 : decode cX12_least 26 = .ok (.imul, 1) := by decide +kernel
theorem dX12_least_27 : decode cX12_least 27 = .ok (.iadd, 1) := by decide +kernel
theorem dX12_least_28 : decode cX12_least 28 = .ok (.iconst 5, 1) := by decide +kernel
theorem dX12_least_29 : decode cX12_least 29 = .ok (.iadd, 1) := by decide +kernel
theorem dX12_least_30 : decode cX12_least 30 = .ok (.iaload, 1) := by decide +kernel
theorem dX12_least_31 : decode cX12_least 31 = .ok (.iconst 1, 1) := by decide +kernel
theorem dX12_least_32 : decode cX12_least 32 = .ok (.if_icmp .ne 6, 3) := by decide +kernel
theorem dX12_least_35 : decode cX12_least 35 = .ok (.ldc 161, 2) := by decide +kernel
theorem dX12_least_37 : decode cX12_least 37 = .ok (.ireturn, 1) := by decide +kernel
theorem dX12_least_38 : decode cX12_least 38 = .ok (.iconst 0, 1) := by decide +kernel
theorem dX12_least_39 : decode cX12_least 39 = .ok (.istore_n 3, 1) := by decide +kernel
theorem dX12_least_40 : decode cX12_least 40 = .ok (.iload_n 3, 1) := by decide +kernel
theorem dX12_least_41 : decode cX12_least 41 = .ok (.bipush 10, 2) := by decide +kernel
theorem dX12_least_43 : decode cX12_least 43 = .ok (.if_icmp .ge 41, 3) := by decide +kernel
theorem dX12_least_46 : decode cX12_least 46 = .ok (.aload_n 0, 1) := by decide +kernel
theorem dX12_least_47 : decode cX12_least 47 = .ok (.iconst 0, 1) := by decide +kernel
theorem dX12_least_48 : decode cX12_least 48 = .ok (.invokevirtual 177, 3) := by decide +kernel
theorem dX12_least_51 : decode cX12_least 51 = .ok (.aload_n 0, 1) := by decide +kernel
theorem dX12_least_52 : decode cX12_least 52 = .ok (.getfield 31, 3) := by decide +kernel
theorem dX12_least_55 : decode cX12_least 55 = .ok (.iconst 5, 1) := by decide +kernel
theorem dX12_least_56 : decode cX12_least 56 = .ok (.bipush 6, 2) := by decide +kernel
theorem dX12_least_58 : decode cX12_least 58 = .ok (.iload_n 1, 1) := by decide +kernel
theorem dX12_least_59 : decode cX12_least 59 = .ok (.imul, 1) := by decide +kernel
theorem dX12_least_60 : decode cX12_least 60 = .ok (.iadd, 1) := by decide +kernel
theorem dX12_least_61 : decode cX12_least 61 = .ok (.iconst 3, 1) := by decide +kernel
theorem dX12_least_62 : decode cX12_least 62 = .ok (.iadd, 1) := by decide +kernel
theorem dX12_least_63 : decode cX12_least 63 = .ok (.iload_n 3, 1) := by decide +kernel
theorem dX12_least_64 : decode cX12_least 64 = .ok (.iastore, 1) := by decide +kernel
theorem dX12_least_65 : decode cX12_least 65 = .ok (.aload_n 0, 1) := by decide +kernel
theorem dX12_least_66 : decode cX12_least 66 = .ok (.iload_n 1, 1) := by decide +kernel
theorem dX12_least_67 : decode cX12_least 67 = .ok (.iload_n 2, 1) := by decide +kernel
theorem dX12_least_68 : decode cX12_least 68 = .ok (.invokevirtual 181, 3) := by decide +kernel
theorem dX12_least_71 : decode cX12_least 71 = .ok (.ldc 47, 2) := by decide +kernel
theorem dX12_least_73 : decode cX12_least 73 = .ok (.if_icmp .eq 5, 3) := by decide +kernel
theorem dX12_least_76 : decode cX12_least 76 = .ok (.iload_n 3, 1) := by decide +kernel
theorem dX12_least_77 : decode cX12_least 77 = .ok (.ireturn, 1) := by decide +kernel
theorem dX12_least_78 : decode cX12_least 78 = .ok (.iinc 3 1, 3) := by decide +kernel
theorem dX12_least_81 : decode cX12_least 81 = .ok (.goto (-41), 3) := by decide +kernel
theorem dX12_least_84 : decode cX12_least 84 = .ok (.ldc 47, 2) := by decide +kernel
theorem dX12_least_86 : decode cX12_least 86 = .ok (.ireturn, 1) := by decide +kernel
theorem dX12_hides_0 : decode cX12_hides 0 = .ok (.aload_n 0, 1) := by decide +kernel
theorem dX12_hides_1 : decode cX12_hides 1 = .ok (.iconst 0, 1) := by decide +kernel
theorem dX12_hides_2 : decode cX12_hides 2 = .ok (.invokevirtual 177, 3) := by decide +kernel
theorem dX12_hides_5 : decode cX12_hides 5 = .ok (.iconst 0, 1) := by decide +kernel
theorem dX12_hides_6 : decode cX12_hides 6 = .ok (.istore_n 2, 1) := by decide +kernel
theorem dX12_hides_7 : decode cX12_hides 7 = .ok (.iload_n 2, 1) := by decide +kernel
theorem dX12_hides_8 : decode cX12_hides 8 = .ok (.aload_n 0, 1) := by decide +kernel
theorem dX12_hides_9 : decode cX12_hides 9 = .ok (.getfield 25, 3) := by decide +kernel
theorem dX12_hides_12 : decode cX12_hides 12 = .ok (.iconst 4, 1) := by decide +kernel
theorem dX12_hides_13 : decode cX12_hides 13 = .ok (.iaload, 1) := by decide +kernel
theorem dX12_hides_14 : decode cX12_hides 14 = .ok (.if_icmp .ge 47, 3) := by decide +kernel
theorem dX12_hides_17 : decode cX12_hides 17 = .ok (.aload_n 0, 1) := by decide +kernel
theorem dX12_hides_18 : decode cX12_hides 18 = .ok (.getfield 31, 3) := by decide +kernel
theorem dX12_hides_21 : decode cX12_hides 21 = .ok (.iconst 5, 1) := by decide +kernel
theorem dX12_hides_22 : decode cX12_hides 22 = .ok (.bipush 6, 2) := by decide +kernel
theorem dX12_hides_24 : decode cX12_hides 24 = .ok (.iload_n 2, 1) := by decide +kernel
theorem dX12_hides_25 : decode cX12_hides 25 = .ok (.imul, 1) := by decide +kernel
theorem dX12_hides_26 : decode cX12_hides 26 = .ok (.iadd, 1) := by decide +kernel
theorem dX12_hides_27 : decode cX12_hides 27 = .ok (.iconst 3, 1) := by decide +kernel
theorem dX12_hides_28 : decode cX12_hides 28 = .ok (.iadd, 1) := by decide +kernel
theorem dX12_hides_29 : decode cX12_hides 29 = .ok (.iload_n 1, 1) := by decide +kernel
theorem dX12_hides_30 : decode cX12_hides 30 = .ok (.iload_n 2, 1) := by decide +kernel
theorem dX12_hides_31 : decode cX12_hides 31 = .ok (.invokestatic 184, 3) := by decide +kernel
theorem dX12_hides_34 : decode cX12_hides 34 = .ok (.ifCond .eq 7, 3) := by decide +kernel
theorem dX12_hides_37 : decode cX12_hides 37 = .ok (.iconst 0, 1) := by decide +kernel
theorem dX12_hides_38 : decode cX12_hides 38 = .ok (.goto 16, 3) := by decide +kernel
theorem dX12_hides_41 : decode cX12_hides 41 = .ok (.aload_n 0, 1) := by decide +kernel
theorem dX12_hides_42 : decode cX12_hides 42 = .ok (.getfield 31, 3) := by decide +kernel
theorem dX12_hides_45 : decode cX12_hides 45 = .ok (.iconst 5, 1) := by decide +kernel
theorem dX12_hides_46 : decode cX12_hides 46 = .ok (.bipush 6, 2) := by decide +kernel
theorem dX12_hides_48 : decode cX12_hides 48 = .ok (.iload_n 2, 1) := by decide +kernel
theorem dX12_hides_49 : decode cX12_hides 49 = .ok (.imul, 1) := by decide +kernel
theorem dX12_hides_50 : decode cX12_hides 50 = .ok (.iadd, 1) := by decide +kernel
theorem dX12_hides_51 : decode cX12_hides 51 = .ok (.iconst 3, 1) := by decide +kernel
theorem dX12_hides_52 : decode cX12_hides 52 = .ok (.iadd, 1) := by decide +kernel
theorem dX12_hides_53 : decode cX12_hides 53 = .ok (.iaload, 1) := by decide +kernel
theorem dX12_hides_54 : decode cX12_hides 54 = .ok (.iastore, 1) := by decide +kernel
theorem dX12_hides_55 : decode cX12_hides 55 = .ok (.iinc 2 1, 3) := by decide +kernel
theorem dX12_hides_58 : decode cX12_hides 58 = .ok (.goto (-51), 3) := by decide +kernel
theorem dX12_hides_61 : decode cX12_hides 61 = .ok (.return_, 1) := by decide +kernel
theorem dX12_hide_0 : decode cX12_hide 0 = .ok (.aload_n 0, 1) := by decide +kernel
theorem dX12_hide_1 : decode cX12_hide 1 = .ok (.invokevirtual 158, 3) := by decide +kernel
theorem dX12_hide_4 : decode cX12_hide 4 = .ok (.ifCond .ne 6, 3) := by decide +kernel
theorem dX12_hide_7 : decode cX12_hide 7 = .ok (.ldc 161, 2) := by decide +kernel
theorem dX12_hide_9 : decode cX12_hide 9 = .ok (.ireturn, 1) := by decide +kernel
theorem dX12_hide_10 : decode cX12_hide 10 = .ok (.iload_n 1, 1) := by decide +kernel
theorem dX12_hide_11 : decode cX12_hide 11 = .ok (.iconst 0, 1) := by decide +kernel
theorem dX12_hide_12 : decode cX12_hide 12 = .ok (.iconst 1, 1) := by decide +kernel
theorem dX12_hide_13 : decode cX12_hide 13 = .ok (.invokestatic 53, 3) := by decide +kernel
theorem dX12_hide_16 : decode cX12_hide 16 = .ok (.ifCond .ne 6, 3) := by decide +kernel
theorem dX12_hide_19 : decode cX12_hide 19 = .ok (.ldc 61, 2) := by decide +kernel
theorem dX12_hide_21 : decode cX12_hide 21 = .ok (.ireturn, 1) := by decide +kernel
theorem dX12_hide_22 : decode cX12_hide 22 = .ok (.ldc 47, 2) := by decide +kernel
theorem dX12_hide_24 : decode cX12_hide 24 = .ok (.istore_n 2, 1) := by decide +kernel
theorem dX12_hide_25 : decode cX12_hide 25 = .ok (.iconst 0, 1) := by decide +kernel
theorem dX12_hide_26 : decode cX12_hide 26 = .ok (.istore_n 3, 1) := by decide +kernel
theorem dX12_hide_27 : decode cX12_hide 27 = .ok (.iconst 0, 1) := by decide +kernel
theorem dX12_hide_28 : decode cX12_hide 28 = .ok (.istore 4, 2) := by decide +kernel
theorem dX12_hide_30 : decode cX12_hide 30 = .ok (.iconst 0, 1) := by decide +kernel
theorem dX12_hide_31 : decode cX12_hide 31 = .ok (.istore 5, 2) := by decide +kernel
theorem dX12_hide_33 : decode cX12_hide 33 = .ok (.iload 5, 2) := by decide +kernel
theorem dX12_hide_35 : decode cX12_hide 35 = .ok (.iconst 1, 1) := by decide +kernel
theorem dX12_hide_36 : decode cX12_hide 36 = .ok (.aload_n 0, 1) := by decide +kernel
theorem dX12_hide_37 : decode cX12_hide 37 = .ok (.getfield 25, 3) := by decide +kernel
theorem dX12_hide_40 : decode cX12_hide 40 = .ok (.iconst 4, 1) := by decide +kernel
theorem dX12_hide_41 : decode cX12_hide 41 = .ok (.iaload, 1) := by decide +kernel
theorem dX12_hide_42 : decode cX12_hide 42 = .ok (.ishl, 1) := by decide +kernel
theorem dX12_hide_43 : decode cX12_hide 43 = .ok (.if_icmp .ge 194, 3) := by decide +kernel
theorem dX12_hide_46 : decode cX12_hide 46 = .ok (.aload_n 0, 1) := by decide +kernel
theorem dX12_hide_47 : decode cX12_hide 47 = .ok (.iload 5, 2) := by decide +kernel
theorem dX12_hide_49 : decode cX12_hide 49 = .ok (.invokevirtual 188, 3) := by decide +kernel
theorem dX12_hide_52 : decode cX12_hide 52 = .ok (.iconst 0, 1) := by decide +kernel
theorem dX12_hide_53 : decode cX12_hide 53 = .ok (.istore 6, 2) := by decide +kernel
theorem dX12_hide_55 : decode cX12_hide 55 = .ok (.aload_n 0, 1) := by decide +kernel
theorem dX12_hide_56 : decode cX12_hide 56 = .ok (.getfield 31, 3) := by decide +kernel
theorem dX12_hide_59 : decode cX12_hide 59 = .ok (.invokestatic 171, 3) := by decide +kernel
theorem dX12_hide_62 : decode cX12_hide 62 = .ok (.istore 7, 2) := by decide +kernel
theorem dX12_hide_64 : decode cX12_hide 64 = .ok (.iconst 1, 1) := by decide +kernel
theorem dX12_hide_65 : decode cX12_hide 65 = .ok (.istore 8, 2) := by decide +kernel
theorem dX12_hide_67 : decode cX12_hide 67 = .ok (.iload 8, 2) := by decide +kernel
theorem dX12_hide_69 : decode cX12_hide 69 = .ok (.bipush 100, 2) := by decide +kernel
theorem dX12_hide_71 : decode cX12_hide 71 = .ok (.if_icmp .ge 46, 3) := by decide +kernel
theorem dX12_hide_74 : decode cX12_hide 74 = .ok (.aload_n 0, 1) := by decide +kernel
theorem dX12_hide_75 : decode cX12_hide 75 = .ok (.getfield 31, 3) := by decide +kernel
theorem dX12_hide_78 : decode cX12_hide 78 = .ok (.invokestatic 154, 3) := by decide +kernel
theorem dX12_hide_81 : decode cX12_hide 81 = .ok (.aload_n 0, 1) := by decide +kernel
theorem dX12_hide_82 : decode cX12_hide 82 = .ok (.getfield 31, 3) := by decide +kernel
theorem dX12_hide_85 : decode cX12_hide 85 = .ok (.invokestatic 171, 3) := by decide +kernel
theorem dX12_hide_88 : decode cX12_hide 88 = .ok (.iload 7, 2) := by decide +kernel
theorem dX12_hide_90 : decode cX12_hide 90 = .ok (.if_icmp .ne 8, 3) := by decide +kernel
theorem dX12_hide_93 : decode cX12_hide 93 = .ok (.iload 6, 2) := by decide +kernel
theorem dX12_hide_95 : decode cX12_hide 95 = .ok (.goto 5, 3) := by decide +kernel
theorem dX12_hide_98 : decode cX12_hide 98 = .ok (.iload 8, 2) := by decide +kernel
theorem dX12_hide_100 : decode cX12_hide 100 = .ok (.istore 6, 2) := by decide +kernel
theorem dX12_hide_102 : decode cX12_hide 102 = .ok (.aload_n 0, 1) := by decide +kernel
theorem dX12_hide_103 : decode cX12_hide 103 = .ok (.getfield 31, 3) := by decide +kernel
theorem dX12_hide_106 : decode cX12_hide 106 = .ok (.invokestatic 171, 3) := by decide +kernel
theorem dX12_hide_109 : decode cX12_hide 109 = .ok (.istore 7, 2) := by decide +kernel
theorem dX12_hide_111 : decode cX12_hide 111 = .ok (.iinc 8 1, 3) := by decide +kernel
theorem dX12_hide_114 : decode cX12_hide 114 = .ok (.goto (-47), 3) := by decide +kernel
theorem dX12_hide_117 : decode cX12_hide 117 = .ok (.iload 7, 2) := by decide +kernel
theorem dX12_hide_119 : decode cX12_hide 119 = .ok (.invokestatic 191, 3) := by decide +kernel
theorem dX12_hide_122 : decode cX12_hide 122 = .ok (.istore 8, 2) := by decide +kernel
theorem dX12_hide_124 : decode cX12_hide 124 = .ok (.iload 8, 2) := by decide +kernel
theorem dX12_hide_126 : decode cX12_hide 126 = .ok (.iload_n 3, 1) := by decide +kernel
theorem dX12_hide_127 : decode cX12_hide 127 = .ok (.if_icmp .ne 26, 3) := by decide +kernel
theorem dX12_hide_130 : decode cX12_hide 130 = .ok (.iload 6, 2) := by decide +kernel
theorem dX12_hide_132 : decode cX12_hide 132 = .ok (.iload 4, 2) := by decide +kernel
theorem dX12_hide_134 : decode cX12_hide 134 = .ok (.if_icmp .ne 19, 3) := by decide +kernel
theorem dX12_hide_137 : decode cX12_hide 137 = .ok (.iload 5, 2) := by decide +kernel
theorem dX12_hide_139 : decode cX12_hide 139 = .ok (.invokestatic 191, 3) := by decide +kernel
theorem dX12_hide_142 : decode cX12_hide 142 = .ok (.iload_n 2, 1) := by decide +kernel
theorem dX12_hide_143 : decode cX12_hide 143 = .ok (.invokestatic 191, 3) := by decide +kernel
theorem dX12_hide_146 : decode cX12_hide 146 = .ok (.if_icmp .ge 7, 3) := by decide +kernel
theorem dX12_hide_149 : decode cX12_hide 149 = .ok (.iconst 1, 1) := by decide +kernel
theorem dX12_hide_150 : decode cX12_hide 150 = .ok (.goto 4, 3) := by decide +kernel
theorem dX12_hide_153 : decode cX12_hide 153 = .ok (.iconst 0, 1) := by decide +kernel
theorem dX12_hide_154 : decode cX12_hide 154 = .ok (.istore 9, 2) := by decide +kernel
theorem dX12_hide_156 : decode cX12_hide 156 = .ok (.iload_n 2, 1) := by decide +kernel
theorem dX12_hide_157 : decode cX12_hide 157 = .ok (.ldc 47, 2) := by decide +kernel
theorem dX12_hide_159 : decode cX12_hide 159 = .ok (.if_icmp .eq 27, 3) := by decide +kernel
theorem dX12_hide_162 : decode cX12_hide 162 = .ok (.iload 8, 2) := by decide +kernel
theorem dX12_hide_164 : decode cX12_hide 164 = .ok (.iload_n 3, 1) := by decide +kernel
theorem dX12_hide_165 : decode cX12_hide 165 = .ok (.if_icmp .gt 21, 3) := by decide +kernel
theorem dX12_hide_168 : decode cX12_hide 168 = .ok (.iload 8, 2) := by decide +kernel
theorem dX12_hide_170 : decode cX12_hide 170 = .ok (.iload_n 3, 1) := by decide +kernel
theorem dX12_hide_171 : decode cX12_hide 171 = .ok (.if_icmp .ne 10, 3) := by decide +kernel
theorem dX12_hide_174 : decode cX12_hide 174 = .ok (.iload 6, 2) := by decide +kernel
theorem dX12_hide_176 : decode cX12_hide 176 = .ok (.iload 4, 2) := by decide +kernel
theorem dX12_hide_178 : decode cX12_hide 178 = .ok (.if_icmp .lt 8, 3) := by decide +kernel
theorem dX12_hide_181 : decode cX12_hide 181 = .ok (.iload 9, 2) := by decide +kernel
theorem dX12_hide_183 : decode cX12_hide 183 = .ok (.ifCond .eq 7, 3) := by decide +kernel
theorem dX12_hide_186 : decode cX12_hide 186 = .ok (.iconst 1, 1) := by decide +kernel
theorem dX12_hide_187 : decode cX12_hide 187 = .ok (.goto 4, 3) := by decide +kernel
theorem dX12_hide_190 : decode cX12_hide 190 = .ok (.iconst 0, 1) := by decide +kernel
theorem dX12_hide_191 : decode cX12_hide 191 = .ok (.istore 10, 2) := by decide +kernel
theorem dX12_hide_193 : decode cX12_hide 193 = .ok (.iload 10, 2) := by decide +kernel
theorem dX12_hide_195 : decode cX12_hide 195 = .ok (.ifCond .eq 8, 3) := by decide +kernel
theorem dX12_hide_198 : decode cX12_hide 198 = .ok (.iload 5, 2) := by decide +kernel
theorem dX12_hide_200 : decode cX12_hide 200 = .ok (.goto 4, 3) := by decide +kernel
theorem dX12_hide_203 : decode cX12_hide 203 = .ok (.iload_n 2, 1) := by decide +kernel
theorem dX12_hide_204 : decode cX12_hide 204 = .ok (.istore_n 2, 1) := by decide +kernel
theorem dX12_hide_205 : decode cX12_hide 205 = .ok (.iload 10, 2) := by decide +kernel
theorem dX12_hide_207 : decode cX12_hide 207 = .ok (.ifCond .eq 8, 3) := by decide +kernel
theorem dX12_hide_210 : decode cX12_hide 210 = .ok (.iload 8, 2) := by decide +kernel
theorem dX12_hide_212 : decode cX12_hide 212 = .ok (.goto 4, 3) := by decide +kernel
theorem dX12_hide_215 : decode cX12_hide 215 = .ok (.iload_n 3, 1) := by decide +kernel
theorem dX12_hide_216 : decode cX12_hide 216 = .ok (.istore_n 3, 1) := by decide +kernel
theorem dX12_hide_217 : decode cX12_hide 217 = .ok (.iload 10, 2) := by decide +kernel
theorem dX12_hide_219 : decode cX12_hide 219 = .ok (.ifCond .eq 8, 3) := by decide +kernel
theorem dX12_hide_222 : decode cX12_hide 222 = .ok (.iload 6, 2) := by decide +kernel
theorem dX12_hide_224 : decode cX12_hide 224 = .ok (.goto 5, 3) := by decide +kernel
theorem dX12_hide_227 : decode cX12_hide 227 = .ok (.iload 4, 2) := by decide +kernel
theorem dX12_hide_229 : decode cX12_hide 229 = .ok (.istore 4, 2) := by decide +kernel
theorem dX12_hide_231 : decode cX12_hide 231 = .ok (.iinc 5 1, 3) := by decide +kernel
theorem dX12_hide_234 : decode cX12_hide 234 = .ok (.goto (-201), 3) := by decide +kernel
theorem dX12_hide_237 : decode cX12_hide 237 = .ok (.iload_n 1, 1) := by decide +kernel
theorem dX12_hide_238 : decode cX12_hide 238 = .ok (.ifCond .ne 7, 3) := by decide +kernel
theorem dX12_hide_241 : decode cX12_hide 241 = .ok (.iload_n 3, 1) := by decide +kernel
theorem dX12_hide_242 : decode cX12_hide 242 = .ok (.goto 4, 3) := by decide +kernel
theorem dX12_hide_245 : decode cX12_hide 245 = .ok (.iload_n 2, 1) := by decide +kernel
theorem dX12_hide_246 : decode cX12_hide 246 = .ok (.ireturn, 1) := by decide +kernel
theorem dX12_beside_0 : decode cX12_beside 0 = .ok (.aload_n 0, 1) := by decide +kernel
theorem dX12_beside_1 : decode cX12_beside 1 = .ok (.iload_n 1, 1) := by decide +kernel
theorem dX12_beside_2 : decode cX12_beside 2 = .ok (.invokevirtual 165, 3) := by decide +kernel
theorem dX12_beside_5 : decode cX12_beside 5 = .ok (.ifCond .eq 12, 3) := by decide +kernel
theorem dX12_beside_8 : decode cX12_beside 8 = .ok (.iload_n 2, 1) := by decide +kernel
theorem dX12_beside_9 : decode cX12_beside 9 = .ok (.iconst 0, 1) := by decide +kernel
theorem dX12_beside_10 : decode cX12_beside 10 = .ok (.iconst 1, 1) := by decide +kernel
theorem dX12_beside_11 : decode cX12_beside 11 = .ok (.invokestatic 53, 3) := by decide +kernel
theorem dX12_beside_14 : decode cX12_beside 14 = .ok (.ifCond .ne 6, 3) := by decide +kernel
theorem dX12_beside_17 : decode cX12_beside 17 = .ok (.ldc 61, 2) := by decide +kernel
theorem dX12_beside_19 : decode cX12_beside 19 = .ok (.ireturn, 1) := by decide +kernel
theorem dX12_beside_20 : decode cX12_beside 20 = .ok (.aload_n 0, 1) := by decide +kernel
theorem dX12_beside_21 : decode cX12_beside 21 = .ok (.getfield 25, 3) := by decide +kernel
theorem dX12_beside_24 : decode cX12_beside 24 = .ok (.iload_n 1, 1) := by decide +kernel
theorem dX12_beside_25 : decode cX12_beside 25 = .ok (.invokestatic 135, 3) := by decide +kernel
theorem dX12_beside_28 : decode cX12_beside 28 = .ok (.ifCond .ne 20, 3) := by decide +kernel
theorem dX12_beside_31 : decode cX12_beside 31 = .ok (.aload_n 0, 1) := by decide +kernel
theorem dX12_beside_32 : decode cX12_beside 32 = .ok (.getfield 25, 3) := by decide +kernel
theorem dX12_beside_35 : decode cX12_beside 35 = .ok (.iconst 5, 1) := by decide +kernel
theorem dX12_beside_36 : decode cX12_beside 36 = .ok (.bipush 6, 2) := by decide +kernel
theorem dX12_beside_38 : decode cX12_beside 38 = .ok (.iload_n 1, 1) := by decide +kernel
theorem dX12_beside_39 : decode cX12_beside 39 = .ok (.imul, 1) := by decide +kernel
theorem dX12_beside_40 : decode cX12_beside 40 = .ok (.iadd, 1) := by decide +kernel
theorem dX12_beside_41 : decode cX12_beside 41 = .ok (.iconst 5, 1) := by decide +kernel
theorem dX12_beside_42 : decode cX12_beside 42 = .ok (.iadd, 1) := by decide +kernel
theorem dX12_beside_43 : decode cX12_beside 43 = .ok (.iaload, 1) := by decide +kernel
theorem dX12_beside_44 : decode cX12_beside 44 = .ok (.iconst 1, 1) := by decide +kernel
theorem dX12_beside_45 : decode cX12_beside 45 = .ok (.if_icmp .ne 6, 3) := by decide +kernel
theorem dX12_beside_48 : decode cX12_beside 48 = .ok (.ldc 161, 2) := by decide +kernel
theorem dX12_beside_50 : decode cX12_beside 50 = .ok (.ireturn, 1) := by decide +kernel
theorem dX12_beside_51 : decode cX12_beside 51 = .ok (.ldc 47, 2) := by decide +kernel
theorem dX12_beside_53 : decode cX12_beside 53 = .ok (.istore_n 3, 1) := by decide +kernel
theorem dX12_beside_54 : decode cX12_beside 54 = .ok (.ldc 47, 2) := by decide +kernel
theorem dX12_beside_56 : decode cX12_beside 56 = .ok (.istore 4, 2) := by decide +kernel
theorem dX12_beside_58 : decode cX12_beside 58 = .ok (.iconst 0, 1) := by decide +kernel
theorem dX12_beside_59 : decode cX12_beside 59 = .ok (.istore 5, 2) := by decide +kernel
theorem dX12_beside_61 : decode cX12_beside 61 = .ok (.iload 5, 2) := by decide +kernel
theorem dX12_beside_63 : decode cX12_beside 63 = .ok (.aload_n 0, 1) := by decide +kernel
theorem dX12_beside_64 : decode cX12_beside 64 = .ok (.getfield 25, 3) := by decide +kernel
theorem dX12_beside_67 : decode cX12_beside 67 = .ok (.iconst 0, 1) := by decide +kernel
theorem dX12_beside_68 : decode cX12_beside 68 = .ok (.iaload, 1) := by decide +kernel
theorem dX12_beside_69 : decode cX12_beside 69 = .ok (.if_icmp .gt 91, 3) := by decide +kernel
theorem dX12_beside_72 : decode cX12_beside 72 = .ok (.aload_n 0, 1) := by decide +kernel
theorem dX12_beside_73 : decode cX12_beside 73 = .ok (.iconst 0, 1) := by decide +kernel
theorem dX12_beside_74 : decode cX12_beside 74 = .ok (.invokevirtual 177, 3) := by decide +kernel
theorem dX12_beside_77 : decode cX12_beside 77 = .ok (.aload_n 0, 1) := by decide +kernel
theorem dX12_beside_78 : decode cX12_beside 78 = .ok (.getfield 31, 3) := by decide +kernel
theorem dX12_beside_81 : decode cX12_beside 81 = .ok (.iconst 5, 1) := by decide +kernel
theorem dX12_beside_82 : decode cX12_beside 82 = .ok (.bipush 6, 2) := by decide +kernel
theorem dX12_beside_84 : decode cX12_beside 84 = .ok (.iload_n 1, 1) := by decide +kernel
theorem dX12_beside_85 : decode cX12_beside 85 = .ok (.imul, 1) := by decide +kernel
theorem dX12_beside_86 : decode cX12_beside 86 = .ok (.iadd, 1) := by decide +kernel
theorem dX12_beside_87 : decode cX12_beside 87 = .ok (.iconst 1, 1) := by decide +kernel
theorem dX12_beside_88 : decode cX12_beside 88 = .ok (.iadd, 1) := by decide +kernel
theorem dX12_beside_89 : decode cX12_beside 89 = .ok (.iload 5, 2) := by decide +kernel
theorem dX12_beside_91 : decode cX12_beside 91 = .ok (.iastore, 1) := by decide +kernel
theorem dX12_beside_92 : decode cX12_beside 92 = .ok (.aload_n 0, 1) := by decide +kernel
theorem dX12_beside_93 : decode cX12_beside 93 = .ok (.iload_n 1, 1) := by decide +kernel
theorem dX12_beside_94 : decode cX12_beside 94 = .ok (.bipush 99, 2) := by decide +kernel
theorem dX12_beside_96 : decode cX12_beside 96 = .ok (.invokevirtual 181, 3) := by decide +kernel
theorem dX12_beside_99 : decode cX12_beside 99 = .ok (.istore 6, 2) := by decide +kernel
theorem dX12_beside_101 : decode cX12_beside 101 = .ok (.iload 6, 2) := by decide +kernel
theorem dX12_beside_103 : decode cX12_beside 103 = .ok (.ldc 47, 2) := by decide +kernel
theorem dX12_beside_105 : decode cX12_beside 105 = .ok (.if_icmp .eq 20, 3) := by decide +kernel
theorem dX12_beside_108 : decode cX12_beside 108 = .ok (.iload_n 3, 1) := by decide +kernel
theorem dX12_beside_109 : decode cX12_beside 109 = .ok (.ldc 47, 2) := by decide +kernel
theorem dX12_beside_111 : decode cX12_beside 111 = .ok (.if_icmp .eq 10, 3) := by decide +kernel
theorem dX12_beside_114 : decode cX12_beside 114 = .ok (.iload 6, 2) := by decide +kernel
theorem dX12_beside_116 : decode cX12_beside 116 = .ok (.iload 4, 2) := by decide +kernel
theorem dX12_beside_118 : decode cX12_beside 118 = .ok (.if_icmp .ge 7, 3) := by decide +kernel
theorem dX12_beside_121 : decode cX12_beside 121 = .ok (.iconst 1, 1) := by decide +kernel
theorem dX12_beside_122 : decode cX12_beside 122 = .ok (.goto 4, 3) := by decide +kernel
theorem dX12_beside_125 : decode cX12_beside 125 = .ok (.iconst 0, 1) := by decide +kernel
theorem dX12_beside_126 : decode cX12_beside 126 = .ok (.istore 7, 2) := by decide +kernel
theorem dX12_beside_128 : decode cX12_beside 128 = .ok (.iload 7, 2) := by decide +kernel
theorem dX12_beside_130 : decode cX12_beside 130 = .ok (.ifCond .eq 8, 3) := by decide +kernel
theorem dX12_beside_133 : decode cX12_beside 133 = .ok (.iload 5, 2) := by decide +kernel
theorem dX12_beside_135 : decode cX12_beside 135 = .ok (.goto 4, 3) := by decide +kernel
theorem dX12_beside_138 : decode cX12_beside 138 = .ok (.iload_n 3, 1) := by decide +kernel
theorem dX12_beside_139 : decode cX12_beside 139 = .ok (.istore_n 3, 1) := by decide +kernel
theorem dX12_beside_140 : decode cX12_beside 140 = .ok (.iload 7, 2) := by decide +kernel
theorem dX12_beside_142 : decode cX12_beside 142 = .ok (.ifCond .eq 8, 3) := by decide +kernel
theorem dX12_beside_145 : decode cX12_beside 145 = .ok (.iload 6, 2) := by decide +kernel
theorem dX12_beside_147 : decode cX12_beside 147 = .ok (.goto 5, 3) := by decide +kernel
theorem dX12_beside_150 : decode cX12_beside 150 = .ok (.iload 4, 2) := by decide +kernel
theorem dX12_beside_152 : decode cX12_beside 152 = .ok (.istore 4, 2) := by decide +kernel
theorem dX12_beside_154 : decode cX12_beside 154 = .ok (.iinc 5 1, 3) := by decide +kernel
theorem dX12_beside_157 : decode cX12_beside 157 = .ok (.goto (-96), 3) := by decide +kernel
theorem dX12_beside_160 : decode cX12_beside 160 = .ok (.iload_n 2, 1) := by decide +kernel
theorem dX12_beside_161 : decode cX12_beside 161 = .ok (.ifCond .ne 7, 3) := by decide +kernel
theorem dX12_beside_164 : decode cX12_beside 164 = .ok (.iload_n 3, 1) := by decide +kernel
theorem dX12_beside_165 : decode cX12_beside 165 = .ok (.goto 5, 3) := by decide +kernel
theorem dX12_beside_168 : decode cX12_beside 168 = .ok (.iload 4, 2) := by decide +kernel
theorem dX12_beside_170 : decode cX12_beside 170 = .ok (.ireturn, 1) := by decide +kernel
theorem dX12_goesSo_0 : decode cX12_goesSo 0 = .ok (.iconst 1, 1) := by decide +kernel
theorem dX12_goesSo_1 : decode cX12_goesSo 1 = .ok (.istore_n 3, 1) := by decide +kernel
theorem dX12_goesSo_2 : decode cX12_goesSo 2 = .ok (.iconst 0, 1) := by decide +kernel
theorem dX12_goesSo_3 : decode cX12_goesSo 3 = .ok (.istore 4, 2) := by decide +kernel
theorem dX12_goesSo_5 : decode cX12_goesSo 5 = .ok (.iload 4, 2) := by decide +kernel
theorem dX12_goesSo_7 : decode cX12_goesSo 7 = .ok (.iload_n 2, 1) := by decide +kernel
theorem dX12_goesSo_8 : decode cX12_goesSo 8 = .ok (.if_icmp .ge 44, 3) := by decide +kernel
theorem dX12_goesSo_11 : decode cX12_goesSo 11 = .ok (.aload_n 0, 1) := by decide +kernel
theorem dX12_goesSo_12 : decode cX12_goesSo 12 = .ok (.getfield 31, 3) := by decide +kernel
theorem dX12_goesSo_15 : decode cX12_goesSo 15 = .ok (.invokestatic 154, 3) := by decide +kernel
theorem dX12_goesSo_18 : decode cX12_goesSo 18 = .ok (.iload_n 3, 1) := by decide +kernel
theorem dX12_goesSo_19 : decode cX12_goesSo 19 = .ok (.ifCond .eq 25, 3) := by decide +kernel
theorem dX12_goesSo_22 : decode cX12_goesSo 22 = .ok (.aload_n 0, 1) := by decide +kernel
theorem dX12_goesSo_23 : decode cX12_goesSo 23 = .ok (.getfield 31, 3) := by decide +kernel
theorem dX12_goesSo_26 : decode cX12_goesSo 26 = .ok (.iconst 1, 1) := by decide +kernel
theorem dX12_goesSo_27 : decode cX12_goesSo 27 = .ok (.iaload, 1) := by decide +kernel
theorem dX12_goesSo_28 : decode cX12_goesSo 28 = .ok (.aload_n 0, 1) := by decide +kernel
theorem dX12_goesSo_29 : decode cX12_goesSo 29 = .ok (.getfield 16, 3) := by decide +kernel
theorem dX12_goesSo_32 : decode cX12_goesSo 32 = .ok (.iload_n 1, 1) := by decide +kernel
theorem dX12_goesSo_33 : decode cX12_goesSo 33 = .ok (.iload 4, 2) := by decide +kernel
theorem dX12_goesSo_35 : decode cX12_goesSo 35 = .ok (.iadd, 1) := by decide +kernel
theorem dX12_goesSo_36 : decode cX12_goesSo 36 = .ok (.iaload, 1) := by decide +kernel
theorem dX12_goesSo_37 : decode cX12_goesSo 37 = .ok (.if_icmp .ne 7, 3) := by decide +kernel
theorem dX12_goesSo_40 : decode cX12_goesSo 40 = .ok (.iconst 1, 1) := by decide +kernel
theorem dX12_goesSo_41 : decode cX12_goesSo 41 = .ok (.goto 4, 3) := by decide +kernel
theorem dX12_goesSo_44 : decode cX12_goesSo 44 = .ok (.iconst 0, 1) := by decide +kernel
theorem dX12_goesSo_45 : decode cX12_goesSo 45 = .ok (.istore_n 3, 1) := by decide +kernel
theorem dX12_goesSo_46 : decode cX12_goesSo 46 = .ok (.iinc 4 1, 3) := by decide +kernel
theorem dX12_goesSo_49 : decode cX12_goesSo 49 = .ok (.goto (-44), 3) := by decide +kernel
theorem dX12_goesSo_52 : decode cX12_goesSo 52 = .ok (.iload_n 3, 1) := by decide +kernel
theorem dX12_goesSo_53 : decode cX12_goesSo 53 = .ok (.ireturn, 1) := by decide +kernel
theorem dX12_fits_0 : decode cX12_fits 0 = .ok (.aload_n 0, 1) := by decide +kernel
theorem dX12_fits_1 : decode cX12_fits 1 = .ok (.iload_n 1, 1) := by decide +kernel
theorem dX12_fits_2 : decode cX12_fits 2 = .ok (.invokevirtual 165, 3) := by decide +kernel
theorem dX12_fits_5 : decode cX12_fits 5 = .ok (.ifCond .eq 31, 3) := by decide +kernel
theorem dX12_fits_8 : decode cX12_fits 8 = .ok (.iload_n 2, 1) := by decide +kernel
theorem dX12_fits_9 : decode cX12_fits 9 = .ok (.invokestatic 57, 3) := by decide +kernel
theorem dX12_fits_12 : decode cX12_fits 12 = .ok (.ifCond .eq 24, 3) := by decide +kernel
theorem dX12_fits_15 : decode cX12_fits 15 = .ok (.iload 4, 2) := by decide +kernel
theorem dX12_fits_17 : decode cX12_fits 17 = .ok (.iconst 1, 1) := by decide +kernel
theorem dX12_fits_18 : decode cX12_fits 18 = .ok (.bipush 16, 2) := by decide +kernel
theorem dX12_fits_20 : decode cX12_fits 20 = .ok (.invokestatic 53, 3) := by decide +kernel
theorem dX12_fits_23 : decode cX12_fits 23 = .ok (.ifCond .eq 13, 3) := by decide +kernel
theorem dX12_fits_26 : decode cX12_fits 26 = .ok (.iload 5, 2) := by decide +kernel
theorem dX12_fits_28 : decode cX12_fits 28 = .ok (.iconst 0, 1) := by decide +kernel
theorem dX12_fits_29 : decode cX12_fits 29 = .ok (.iconst 2, 1) := by decide +kernel
theorem dX12_fits_30 : decode cX12_fits 30 = .ok (.invokestatic 53, 3) := by decide +kernel
theorem dX12_fits_33 : decode cX12_fits 33 = .ok (.ifCond .ne 6, 3) := by decide +kernel
theorem dX12_fits_36 : decode cX12_fits 36 = .ok (.ldc 61, 2) := by decide +kernel
theorem dX12_fits_38 : decode cX12_fits 38 = .ok (.ireturn, 1) := by decide +kernel
theorem dX12_fits_39 : decode cX12_fits 39 = .ok (.aload_n 0, 1) := by decide +kernel
theorem dX12_fits_40 : decode cX12_fits 40 = .ok (.iload_n 2, 1) := by decide +kernel
theorem dX12_fits_41 : decode cX12_fits 41 = .ok (.invokevirtual 69, 3) := by decide +kernel
theorem dX12_fits_44 : decode cX12_fits 44 = .ok (.ifCond .eq 9, 3) := by decide +kernel
theorem dX12_fits_47 : decode cX12_fits 47 = .ok (.aload_n 0, 1) := by decide +kernel
theorem dX12_fits_48 : decode cX12_fits 48 = .ok (.iconst 1, 1) := by decide +kernel
theorem dX12_fits_49 : decode cX12_fits 49 = .ok (.invokevirtual 62, 3) := by decide +kernel
theorem dX12_fits_52 : decode cX12_fits 52 = .ok (.ireturn, 1) := by decide +kernel
theorem dX12_fits_53 : decode cX12_fits 53 = .ok (.aload_n 0, 1) := by decide +kernel
theorem dX12_fits_54 : decode cX12_fits 54 = .ok (.iload_n 2, 1) := by decide +kernel
theorem dX12_fits_55 : decode cX12_fits 55 = .ok (.iload_n 3, 1) := by decide +kernel
theorem dX12_fits_56 : decode cX12_fits 56 = .ok (.iload 4, 2) := by decide +kernel
theorem dX12_fits_58 : decode cX12_fits 58 = .ok (.invokevirtual 76, 3) := by decide +kernel
theorem dX12_fits_61 : decode cX12_fits 61 = .ok (.ifCond .ne 9, 3) := by decide +kernel
theorem dX12_fits_64 : decode cX12_fits 64 = .ok (.aload_n 0, 1) := by decide +kernel
theorem dX12_fits_65 : decode cX12_fits 65 = .ok (.iconst 2, 1) := by decide +kernel
theorem dX12_fits_66 : decode cX12_fits 66 = .ok (.invokevirtual 62, 3) := by decide +kernel
theorem dX12_fits_69 : decode cX12_fits 69 = .ok (.ireturn, 1) := by decide +kernel
theorem dX12_fits_70 : decode cX12_fits 70 = .ok (.iconst 5, 1) := by decide +kernel
theorem dX12_fits_71 : decode cX12_fits 71 = .ok (.bipush 6, 2) := by decide +kernel
theorem dX12_fits_73 : decode cX12_fits 73 = .ok (.iload_n 1, 1) := by decide +kernel
theorem dX12_fits_74 : decode cX12_fits 74 = .ok (.imul, 1) := by decide +kernel
theorem dX12_fits_75 : decode cX12_fits 75 = .ok (.iadd, 1) := by decide +kernel
theorem dX12_fits_76 : decode cX12_fits 76 = .ok (.iload 5, 2) := by decide +kernel
theorem dX12_fits_78 : decode cX12_fits 78 = .ok (.ifCond .ne 7, 3) := by decide +kernel
theorem dX12_fits_81 : decode cX12_fits 81 = .ok (.iconst 0, 1) := by decide +kernel
theorem dX12_fits_82 : decode cX12_fits 82 = .ok (.goto 14, 3) := by decide +kernel
theorem dX12_fits_85 : decode cX12_fits 85 = .ok (.iload 5, 2) := by decide +kernel
theorem dX12_fits_87 : decode cX12_fits 87 = .ok (.iconst 1, 1) := by decide +kernel
theorem dX12_fits_88 : decode cX12_fits 88 = .ok (.if_icmp .ne 7, 3) := by decide +kernel
theorem dX12_fits_91 : decode cX12_fits 91 = .ok (.iconst 3, 1) := by decide +kernel
theorem dX12_fits_92 : decode cX12_fits 92 = .ok (.goto 4, 3) := by decide +kernel
theorem dX12_fits_95 : decode cX12_fits 95 = .ok (.iconst 2, 1) := by decide +kernel
theorem dX12_fits_96 : decode cX12_fits 96 = .ok (.iadd, 1) := by decide +kernel
theorem dX12_fits_97 : decode cX12_fits 97 = .ok (.istore 6, 2) := by decide +kernel
theorem dX12_fits_99 : decode cX12_fits 99 = .ok (.iload 5, 2) := by decide +kernel
theorem dX12_fits_101 : decode cX12_fits 101 = .ok (.ifCond .ne 7, 3) := by decide +kernel
theorem dX12_fits_104 : decode cX12_fits 104 = .ok (.iconst 1, 1) := by decide +kernel
theorem dX12_fits_105 : decode cX12_fits 105 = .ok (.goto 4, 3) := by decide +kernel
theorem dX12_fits_108 : decode cX12_fits 108 = .ok (.iconst 0, 1) := by decide +kernel
theorem dX12_fits_109 : decode cX12_fits 109 = .ok (.istore 7, 2) := by decide +kernel
theorem dX12_fits_111 : decode cX12_fits 111 = .ok (.iload 5, 2) := by decide +kernel
theorem dX12_fits_113 : decode cX12_fits 113 = .ok (.ifCond .ne 7, 3) := by decide +kernel
theorem dX12_fits_116 : decode cX12_fits 116 = .ok (.iconst 5, 1) := by decide +kernel
theorem dX12_fits_117 : decode cX12_fits 117 = .ok (.goto 20, 3) := by decide +kernel
theorem dX12_fits_120 : decode cX12_fits 120 = .ok (.iload 5, 2) := by decide +kernel
theorem dX12_fits_122 : decode cX12_fits 122 = .ok (.iconst 1, 1) := by decide +kernel
theorem dX12_fits_123 : decode cX12_fits 123 = .ok (.if_icmp .ne 8, 3) := by decide +kernel
theorem dX12_fits_126 : decode cX12_fits 126 = .ok (.bipush 9, 2) := by decide +kernel
theorem dX12_fits_128 : decode cX12_fits 128 = .ok (.goto 9, 3) := by decide +kernel
theorem dX12_fits_131 : decode cX12_fits 131 = .ok (.aload_n 0, 1) := by decide +kernel
theorem dX12_fits_132 : decode cX12_fits 132 = .ok (.getfield 25, 3) := by decide +kernel
theorem dX12_fits_135 : decode cX12_fits 135 = .ok (.iconst 0, 1) := by decide +kernel
theorem dX12_fits_136 : decode cX12_fits 136 = .ok (.iaload, 1) := by decide +kernel
theorem dX12_fits_137 : decode cX12_fits 137 = .ok (.istore 8, 2) := by decide +kernel
theorem dX12_fits_139 : decode cX12_fits 139 = .ok (.iconst 0, 1) := by decide +kernel
theorem dX12_fits_140 : decode cX12_fits 140 = .ok (.istore 9, 2) := by decide +kernel
theorem dX12_fits_142 : decode cX12_fits 142 = .ok (.iload 7, 2) := by decide +kernel
theorem dX12_fits_144 : decode cX12_fits 144 = .ok (.istore 10, 2) := by decide +kernel
theorem dX12_fits_146 : decode cX12_fits 146 = .ok (.iload 10, 2) := by decide +kernel
theorem dX12_fits_148 : decode cX12_fits 148 = .ok (.iload 8, 2) := by decide +kernel
theorem dX12_fits_150 : decode cX12_fits 150 = .ok (.if_icmp .gt 51, 3) := by decide +kernel
theorem dX12_fits_153 : decode cX12_fits 153 = .ok (.aload_n 0, 1) := by decide +kernel
theorem dX12_fits_154 : decode cX12_fits 154 = .ok (.iconst 0, 1) := by decide +kernel
theorem dX12_fits_155 : decode cX12_fits 155 = .ok (.invokevirtual 177, 3) := by decide +kernel
theorem dX12_fits_158 : decode cX12_fits 158 = .ok (.aload_n 0, 1) := by decide +kernel
theorem dX12_fits_159 : decode cX12_fits 159 = .ok (.getfield 31, 3) := by decide +kernel
theorem dX12_fits_162 : decode cX12_fits 162 = .ok (.iload 6, 2) := by decide +kernel
theorem dX12_fits_164 : decode cX12_fits 164 = .ok (.iload 10, 2) := by decide +kernel
theorem dX12_fits_166 : decode cX12_fits 166 = .ok (.iastore, 1) := by decide +kernel
theorem dX12_fits_167 : decode cX12_fits 167 = .ok (.iload 9, 2) := by decide +kernel
theorem dX12_fits_169 : decode cX12_fits 169 = .ok (.aload_n 0, 1) := by decide +kernel
theorem dX12_fits_170 : decode cX12_fits 170 = .ok (.bipush 40, 2) := by decide +kernel
theorem dX12_fits_172 : decode cX12_fits 172 = .ok (.iload_n 2, 1) := by decide +kernel
theorem dX12_fits_173 : decode cX12_fits 173 = .ok (.imul, 1) := by decide +kernel
theorem dX12_fits_174 : decode cX12_fits 174 = .ok (.iload_n 3, 1) := by decide +kernel
theorem dX12_fits_175 : decode cX12_fits 175 = .ok (.iadd, 1) := by decide +kernel
theorem dX12_fits_176 : decode cX12_fits 176 = .ok (.iload 4, 2) := by decide +kernel
theorem dX12_fits_178 : decode cX12_fits 178 = .ok (.invokevirtual 194, 3) := by decide +kernel
theorem dX12_fits_181 : decode cX12_fits 181 = .ok (.ifCond .eq 10, 3) := by decide +kernel
theorem dX12_fits_184 : decode cX12_fits 184 = .ok (.iconst 1, 1) := by decide +kernel
theorem dX12_fits_185 : decode cX12_fits 185 = .ok (.iload 10, 2) := by decide +kernel
theorem dX12_fits_187 : decode cX12_fits 187 = .ok (.ishl, 1) := by decide +kernel
theorem dX12_fits_188 : decode cX12_fits 188 = .ok (.goto 4, 3) := by decide +kernel
theorem dX12_fits_191 : decode cX12_fits 191 = .ok (.iconst 0, 1) := by decide +kernel
theorem dX12_fits_192 : decode cX12_fits 192 = .ok (.ior, 1) := by decide +kernel
theorem dX12_fits_193 : decode cX12_fits 193 = .ok (.istore 9, 2) := by decide +kernel
theorem dX12_fits_195 : decode cX12_fits 195 = .ok (.iinc 10 1, 3) := by decide +kernel
theorem dX12_fits_198 : decode cX12_fits 198 = .ok (.goto (-52), 3) := by decide +kernel
theorem dX12_fits_201 : decode cX12_fits 201 = .ok (.aload_n 0, 1) := by decide +kernel
theorem dX12_fits_202 : decode cX12_fits 202 = .ok (.iload 9, 2) := by decide +kernel
theorem dX12_fits_204 : decode cX12_fits 204 = .ok (.invokevirtual 66, 3) := by decide +kernel
theorem dX12_fits_207 : decode cX12_fits 207 = .ok (.ireturn, 1) := by decide +kernel
theorem dX12_hidden_0 : decode cX12_hidden 0 = .ok (.aload_n 0, 1) := by decide +kernel
theorem dX12_hidden_1 : decode cX12_hidden 1 = .ok (.iload_n 1, 1) := by decide +kernel
theorem dX12_hidden_2 : decode cX12_hidden 2 = .ok (.invokevirtual 165, 3) := by decide +kernel
theorem dX12_hidden_5 : decode cX12_hidden 5 = .ok (.ifCond .eq 30, 3) := by decide +kernel
theorem dX12_hidden_8 : decode cX12_hidden 8 = .ok (.iload_n 2, 1) := by decide +kernel
theorem dX12_hidden_9 : decode cX12_hidden 9 = .ok (.invokestatic 174, 3) := by decide +kernel
theorem dX12_hidden_12 : decode cX12_hidden 12 = .ok (.ifCond .eq 23, 3) := by decide +kernel
theorem dX12_hidden_15 : decode cX12_hidden 15 = .ok (.iload_n 3, 1) := by decide +kernel
theorem dX12_hidden_16 : decode cX12_hidden 16 = .ok (.iconst 0, 1) := by decide +kernel
theorem dX12_hidden_17 : decode cX12_hidden 17 = .ok (.bipush 10, 2) := by decide +kernel
theorem dX12_hidden_19 : decode cX12_hidden 19 = .ok (.invokestatic 53, 3) := by decide +kernel
theorem dX12_hidden_22 : decode cX12_hidden 22 = .ok (.ifCond .eq 13, 3) := by decide +kernel
theorem dX12_hidden_25 : decode cX12_hidden 25 = .ok (.iload 4, 2) := by decide +kernel
theorem dX12_hidden_27 : decode cX12_hidden 27 = .ok (.iconst 0, 1) := by decide +kernel
theorem dX12_hidden_28 : decode cX12_hidden 28 = .ok (.iconst 1, 1) := by decide +kernel
theorem dX12_hidden_29 : decode cX12_hidden 29 = .ok (.invokestatic 53, 3) := by decide +kernel
theorem dX12_hidden_32 : decode cX12_hidden 32 = .ok (.ifCond .ne 6, 3) := by decide +kernel
theorem dX12_hidden_35 : decode cX12_hidden 35 = .ok (.ldc 61, 2) := by decide +kernel
theorem dX12_hidden_37 : decode cX12_hidden 37 = .ok (.ireturn, 1) := by decide +kernel
theorem dX12_hidden_38 : decode cX12_hidden 38 = .ok (.iconst 0, 1) := by decide +kernel
theorem dX12_hidden_39 : decode cX12_hidden 39 = .ok (.istore 5, 2) := by decide +kernel
theorem dX12_hidden_41 : decode cX12_hidden 41 = .ok (.iconst 1, 1) := by decide +kernel
theorem dX12_hidden_42 : decode cX12_hidden 42 = .ok (.istore 6, 2) := by decide +kernel
theorem dX12_hidden_44 : decode cX12_hidden 44 = .ok (.iconst 0, 1) := by decide +kernel
theorem dX12_hidden_45 : decode cX12_hidden 45 = .ok (.istore 7, 2) := by decide +kernel
theorem dX12_hidden_47 : decode cX12_hidden 47 = .ok (.iload 7, 2) := by decide +kernel
theorem dX12_hidden_49 : decode cX12_hidden 49 = .ok (.aload_n 0, 1) := by decide +kernel
theorem dX12_hidden_50 : decode cX12_hidden 50 = .ok (.getfield 25, 3) := by decide +kernel
theorem dX12_hidden_53 : decode cX12_hidden 53 = .ok (.iconst 4, 1) := by decide +kernel
theorem dX12_hidden_54 : decode cX12_hidden 54 = .ok (.iaload, 1) := by decide +kernel
theorem dX12_hidden_55 : decode cX12_hidden 55 = .ok (.if_icmp .ge 67, 3) := by decide +kernel
theorem dX12_hidden_58 : decode cX12_hidden 58 = .ok (.aload_n 0, 1) := by decide +kernel
theorem dX12_hidden_59 : decode cX12_hidden 59 = .ok (.getfield 25, 3) := by decide +kernel
theorem dX12_hidden_62 : decode cX12_hidden 62 = .ok (.iconst 5, 1) := by decide +kernel
theorem dX12_hidden_63 : decode cX12_hidden 63 = .ok (.bipush 6, 2) := by decide +kernel
theorem dX12_hidden_65 : decode cX12_hidden 65 = .ok (.iload 7, 2) := by decide +kernel
theorem dX12_hidden_67 : decode cX12_hidden 67 = .ok (.imul, 1) := by decide +kernel
theorem dX12_hidden_68 : decode cX12_hidden 68 = .ok (.iadd, 1) := by decide +kernel
theorem dX12_hidden_69 : decode cX12_hidden 69 = .ok (.iconst 3, 1) := by decide +kernel
theorem dX12_hidden_70 : decode cX12_hidden 70 = .ok (.iadd, 1) := by decide +kernel
theorem dX12_hidden_71 : decode cX12_hidden 71 = .ok (.iaload, 1) := by decide +kernel
theorem dX12_hidden_72 : decode cX12_hidden 72 = .ok (.ifCond .le 7, 3) := by decide +kernel
theorem dX12_hidden_75 : decode cX12_hidden 75 = .ok (.iconst 1, 1) := by decide +kernel
theorem dX12_hidden_76 : decode cX12_hidden 76 = .ok (.goto 4, 3) := by decide +kernel
theorem dX12_hidden_79 : decode cX12_hidden 79 = .ok (.iconst 0, 1) := by decide +kernel
theorem dX12_hidden_80 : decode cX12_hidden 80 = .ok (.istore 8, 2) := by decide +kernel
theorem dX12_hidden_82 : decode cX12_hidden 82 = .ok (.iload 5, 2) := by decide +kernel
theorem dX12_hidden_84 : decode cX12_hidden 84 = .ok (.iload 8, 2) := by decide +kernel
theorem dX12_hidden_86 : decode cX12_hidden 86 = .ok (.ifCond .eq 10, 3) := by decide +kernel
theorem dX12_hidden_89 : decode cX12_hidden 89 = .ok (.iconst 1, 1) := by decide +kernel
theorem dX12_hidden_90 : decode cX12_hidden 90 = .ok (.iload 7, 2) := by decide +kernel
theorem dX12_hidden_92 : decode cX12_hidden 92 = .ok (.ishl, 1) := by decide +kernel
theorem dX12_hidden_93 : decode cX12_hidden 93 = .ok (.goto 4, 3) := by decide +kernel
theorem dX12_hidden_96 : decode cX12_hidden 96 = .ok (.iconst 0, 1) := by decide +kernel
theorem dX12_hidden_97 : decode cX12_hidden 97 = .ok (.ior, 1) := by decide +kernel
theorem dX12_hidden_98 : decode cX12_hidden 98 = .ok (.istore 5, 2) := by decide +kernel
theorem dX12_hidden_100 : decode cX12_hidden 100 = .ok (.iload 6, 2) := by decide +kernel
theorem dX12_hidden_102 : decode cX12_hidden 102 = .ok (.iload 8, 2) := by decide +kernel
theorem dX12_hidden_104 : decode cX12_hidden 104 = .ok (.ifCond .eq 8, 3) := by decide +kernel
theorem dX12_hidden_107 : decode cX12_hidden 107 = .ok (.bipush 10, 2) := by decide +kernel
theorem dX12_hidden_109 : decode cX12_hidden 109 = .ok (.goto 4, 3) := by decide +kernel
theorem dX12_hidden_112 : decode cX12_hidden 112 = .ok (.iconst 1, 1) := by decide +kernel
theorem dX12_hidden_113 : decode cX12_hidden 113 = .ok (.imul, 1) := by decide +kernel
theorem dX12_hidden_114 : decode cX12_hidden 114 = .ok (.istore 6, 2) := by decide +kernel
theorem dX12_hidden_116 : decode cX12_hidden 116 = .ok (.iinc 7 1, 3) := by decide +kernel
theorem dX12_hidden_119 : decode cX12_hidden 119 = .ok (.goto (-72), 3) := by decide +kernel
theorem dX12_hidden_122 : decode cX12_hidden 122 = .ok (.iconst 0, 1) := by decide +kernel
theorem dX12_hidden_123 : decode cX12_hidden 123 = .ok (.istore 7, 2) := by decide +kernel
theorem dX12_hidden_125 : decode cX12_hidden 125 = .ok (.iconst 0, 1) := by decide +kernel
theorem dX12_hidden_126 : decode cX12_hidden 126 = .ok (.istore 8, 2) := by decide +kernel
theorem dX12_hidden_128 : decode cX12_hidden 128 = .ok (.iload 8, 2) := by decide +kernel
theorem dX12_hidden_130 : decode cX12_hidden 130 = .ok (.iconst 1, 1) := by decide +kernel
theorem dX12_hidden_131 : decode cX12_hidden 131 = .ok (.aload_n 0, 1) := by decide +kernel
theorem dX12_hidden_132 : decode cX12_hidden 132 = .ok (.getfield 25, 3) := by decide +kernel
theorem dX12_hidden_135 : decode cX12_hidden 135 = .ok (.iconst 4, 1) := by decide +kernel
theorem dX12_hidden_136 : decode cX12_hidden 136 = .ok (.iaload, 1) := by decide +kernel
theorem dX12_hidden_137 : decode cX12_hidden 137 = .ok (.ishl, 1) := by decide +kernel
theorem dX12_hidden_138 : decode cX12_hidden 138 = .ok (.if_icmp .ge 111, 3) := by decide +kernel
theorem dX12_hidden_141 : decode cX12_hidden 141 = .ok (.iload 8, 2) := by decide +kernel
theorem dX12_hidden_143 : decode cX12_hidden 143 = .ok (.iload 5, 2) := by decide +kernel
theorem dX12_hidden_145 : decode cX12_hidden 145 = .ok (.iconst (-1), 1) := by decide +kernel
theorem dX12_hidden_146 : decode cX12_hidden 146 = .ok (.ixor, 1) := by decide +kernel
theorem dX12_hidden_147 : decode cX12_hidden 147 = .ok (.iand, 1) := by decide +kernel
theorem dX12_hidden_148 : decode cX12_hidden 148 = .ok (.ifCond .ne 7, 3) := by decide +kernel
theorem dX12_hidden_151 : decode cX12_hidden 151 = .ok (.iconst 1, 1) := by decide +kernel
theorem dX12_hidden_152 : decode cX12_hidden 152 = .ok (.goto 4, 3) := by decide +kernel
theorem dX12_hidden_155 : decode cX12_hidden 155 = .ok (.iconst 0, 1) := by decide +kernel
theorem dX12_hidden_156 : decode cX12_hidden 156 = .ok (.istore 9, 2) := by decide +kernel
theorem dX12_hidden_158 : decode cX12_hidden 158 = .ok (.iconst 0, 1) := by decide +kernel
theorem dX12_hidden_159 : decode cX12_hidden 159 = .ok (.istore 10, 2) := by decide +kernel
theorem dX12_hidden_161 : decode cX12_hidden 161 = .ok (.iload 10, 2) := by decide +kernel
theorem dX12_hidden_163 : decode cX12_hidden 163 = .ok (.aload_n 0, 1) := by decide +kernel
theorem dX12_hidden_164 : decode cX12_hidden 164 = .ok (.getfield 25, 3) := by decide +kernel
theorem dX12_hidden_167 : decode cX12_hidden 167 = .ok (.iconst 4, 1) := by decide +kernel
theorem dX12_hidden_168 : decode cX12_hidden 168 = .ok (.iaload, 1) := by decide +kernel
theorem dX12_hidden_169 : decode cX12_hidden 169 = .ok (.if_icmp .ge 46, 3) := by decide +kernel
theorem dX12_hidden_172 : decode cX12_hidden 172 = .ok (.iload 9, 2) := by decide +kernel
theorem dX12_hidden_174 : decode cX12_hidden 174 = .ok (.iload 5, 2) := by decide +kernel
theorem dX12_hidden_176 : decode cX12_hidden 176 = .ok (.iload 10, 2) := by decide +kernel
theorem dX12_hidden_178 : decode cX12_hidden 178 = .ok (.invokestatic 184, 3) := by decide +kernel
theorem dX12_hidden_181 : decode cX12_hidden 181 = .ok (.ifCond .ne 7, 3) := by decide +kernel
theorem dX12_hidden_184 : decode cX12_hidden 184 = .ok (.iconst 1, 1) := by decide +kernel
theorem dX12_hidden_185 : decode cX12_hidden 185 = .ok (.goto 21, 3) := by decide +kernel
theorem dX12_hidden_188 : decode cX12_hidden 188 = .ok (.iload 8, 2) := by decide +kernel
theorem dX12_hidden_190 : decode cX12_hidden 190 = .ok (.iload 10, 2) := by decide +kernel
theorem dX12_hidden_192 : decode cX12_hidden 192 = .ok (.invokestatic 184, 3) := by decide +kernel
theorem dX12_hidden_195 : decode cX12_hidden 195 = .ok (.ifCond .eq 7, 3) := by decide +kernel
theorem dX12_hidden_198 : decode cX12_hidden 198 = .ok (.iload_n 3, 1) := by decide +kernel
theorem dX12_hidden_199 : decode cX12_hidden 199 = .ok (.goto 7, 3) := by decide +kernel
theorem dX12_hidden_202 : decode cX12_hidden 202 = .ok (.bipush 10, 2) := by decide +kernel
theorem dX12_hidden_204 : decode cX12_hidden 204 = .ok (.iload_n 3, 1) := by decide +kernel
theorem dX12_hidden_205 : decode cX12_hidden 205 = .ok (.isub, 1) := by decide +kernel
theorem dX12_hidden_206 : decode cX12_hidden 206 = .ok (.imul, 1) := by decide +kernel
theorem dX12_hidden_207 : decode cX12_hidden 207 = .ok (.istore 9, 2) := by decide +kernel
theorem dX12_hidden_209 : decode cX12_hidden 209 = .ok (.iinc 10 1, 3) := by decide +kernel
theorem dX12_hidden_212 : decode cX12_hidden 212 = .ok (.goto (-51), 3) := by decide +kernel
theorem dX12_hidden_215 : decode cX12_hidden 215 = .ok (.aload_n 0, 1) := by decide +kernel
theorem dX12_hidden_216 : decode cX12_hidden 216 = .ok (.iload 8, 2) := by decide +kernel
theorem dX12_hidden_218 : decode cX12_hidden 218 = .ok (.invokevirtual 188, 3) := by decide +kernel
theorem dX12_hidden_221 : decode cX12_hidden 221 = .ok (.iload 7, 2) := by decide +kernel
theorem dX12_hidden_223 : decode cX12_hidden 223 = .ok (.aload_n 0, 1) := by decide +kernel
theorem dX12_hidden_224 : decode cX12_hidden 224 = .ok (.iload_n 1, 1) := by decide +kernel
theorem dX12_hidden_225 : decode cX12_hidden 225 = .ok (.iload_n 2, 1) := by decide +kernel
theorem dX12_hidden_226 : decode cX12_hidden 226 = .ok (.invokevirtual 181, 3) := by decide +kernel
theorem dX12_hidden_229 : decode cX12_hidden 229 = .ok (.ldc 47, 2) := by decide +kernel
theorem dX12_hidden_231 : decode cX12_hidden 231 = .ok (.if_icmp .eq 8, 3) := by decide +kernel
theorem dX12_hidden_234 : decode cX12_hidden 234 = .ok (.iload 9, 2) := by decide +kernel
theorem dX12_hidden_236 : decode cX12_hidden 236 = .ok (.goto 4, 3) := by decide +kernel
theorem dX12_hidden_239 : decode cX12_hidden 239 = .ok (.iconst 0, 1) := by decide +kernel
theorem dX12_hidden_240 : decode cX12_hidden 240 = .ok (.iadd, 1) := by decide +kernel
theorem dX12_hidden_241 : decode cX12_hidden 241 = .ok (.istore 7, 2) := by decide +kernel
theorem dX12_hidden_243 : decode cX12_hidden 243 = .ok (.iinc 8 1, 3) := by decide +kernel
theorem dX12_hidden_246 : decode cX12_hidden 246 = .ok (.goto (-118), 3) := by decide +kernel
theorem dX12_hidden_249 : decode cX12_hidden 249 = .ok (.iload 7, 2) := by decide +kernel
theorem dX12_hidden_251 : decode cX12_hidden 251 = .ok (.istore 8, 2) := by decide +kernel
theorem dX12_hidden_253 : decode cX12_hidden 253 = .ok (.iload 6, 2) := by decide +kernel
theorem dX12_hidden_255 : decode cX12_hidden 255 = .ok (.istore 9, 2) := by decide +kernel
theorem dX12_hidden_257 : decode cX12_hidden 257 = .ok (.iload 9, 2) := by decide +kernel
theorem dX12_hidden_259 : decode cX12_hidden 259 = .ok (.ifCond .eq 21, 3) := by decide +kernel
theorem dX12_hidden_262 : decode cX12_hidden 262 = .ok (.iload 8, 2) := by decide +kernel
theorem dX12_hidden_264 : decode cX12_hidden 264 = .ok (.iload 9, 2) := by decide +kernel
theorem dX12_hidden_266 : decode cX12_hidden 266 = .ok (.irem, 1) := by decide +kernel
theorem dX12_hidden_267 : decode cX12_hidden 267 = .ok (.istore 10, 2) := by decide +kernel
theorem dX12_hidden_269 : decode cX12_hidden 269 = .ok (.iload 9, 2) := by decide +kernel
theorem dX12_hidden_271 : decode cX12_hidden 271 = .ok (.istore 8, 2) := by decide +kernel
theorem dX12_hidden_273 : decode cX12_hidden 273 = .ok (.iload 10, 2) := by decide +kernel
theorem dX12_hidden_275 : decode cX12_hidden 275 = .ok (.istore 9, 2) := by decide +kernel
theorem dX12_hidden_277 : decode cX12_hidden 277 = .ok (.goto (-20), 3) := by decide +kernel
theorem dX12_hidden_280 : decode cX12_hidden 280 = .ok (.iload 4, 2) := by decide +kernel
theorem dX12_hidden_282 : decode cX12_hidden 282 = .ok (.ifCond .ne 8, 3) := by decide +kernel
theorem dX12_hidden_285 : decode cX12_hidden 285 = .ok (.iload 7, 2) := by decide +kernel
theorem dX12_hidden_287 : decode cX12_hidden 287 = .ok (.goto 5, 3) := by decide +kernel
theorem dX12_hidden_290 : decode cX12_hidden 290 = .ok (.iload 6, 2) := by decide +kernel
theorem dX12_hidden_292 : decode cX12_hidden 292 = .ok (.iload 8, 2) := by decide +kernel
theorem dX12_hidden_294 : decode cX12_hidden 294 = .ok (.idiv, 1) := by decide +kernel
theorem dX12_hidden_295 : decode cX12_hidden 295 = .ok (.ireturn, 1) := by decide +kernel
theorem dX12_drawn_0 : decode cX12_drawn 0 = .ok (.aload_n 0, 1) := by decide +kernel
theorem dX12_drawn_1 : decode cX12_drawn 1 = .ok (.invokevirtual 158, 3) := by decide +kernel
theorem dX12_drawn_4 : decode cX12_drawn 4 = .ok (.ifCond .ne 6, 3) := by decide +kernel
theorem dX12_drawn_7 : decode cX12_drawn 7 = .ok (.ldc 161, 2) := by decide +kernel
theorem dX12_drawn_9 : decode cX12_drawn 9 = .ok (.ireturn, 1) := by decide +kernel
theorem dX12_drawn_10 : decode cX12_drawn 10 = .ok (.iload_n 1, 1) := by decide +kernel
theorem dX12_drawn_11 : decode cX12_drawn 11 = .ok (.invokestatic 174, 3) := by decide +kernel
theorem dX12_drawn_14 : decode cX12_drawn 14 = .ok (.ifCond .eq 22, 3) := by decide +kernel
theorem dX12_drawn_17 : decode cX12_drawn 17 = .ok (.iload_n 2, 1) := by decide +kernel
theorem dX12_drawn_18 : decode cX12_drawn 18 = .ok (.iconst 1, 1) := by decide +kernel
theorem dX12_drawn_19 : decode cX12_drawn 19 = .ok (.ldc 197, 2) := by decide +kernel
theorem dX12_drawn_21 : decode cX12_drawn 21 = .ok (.invokestatic 53, 3) := by decide +kernel
theorem dX12_drawn_24 : decode cX12_drawn 24 = .ok (.ifCond .eq 12, 3) := by decide +kernel
theorem dX12_drawn_27 : decode cX12_drawn 27 = .ok (.iload_n 3, 1) := by decide +kernel
theorem dX12_drawn_28 : decode cX12_drawn 28 = .ok (.iconst 0, 1) := by decide +kernel
theorem dX12_drawn_29 : decode cX12_drawn 29 = .ok (.iconst 1, 1) := by decide +kernel
theorem dX12_drawn_30 : decode cX12_drawn 30 = .ok (.invokestatic 53, 3) := by decide +kernel
theorem dX12_drawn_33 : decode cX12_drawn 33 = .ok (.ifCond .ne 6, 3) := by decide +kernel
theorem dX12_drawn_36 : decode cX12_drawn 36 = .ok (.ldc 61, 2) := by decide +kernel
theorem dX12_drawn_38 : decode cX12_drawn 38 = .ok (.ireturn, 1) := by decide +kernel
theorem dX12_drawn_39 : decode cX12_drawn 39 = .ok (.aload_n 0, 1) := by decide +kernel
theorem dX12_drawn_40 : decode cX12_drawn 40 = .ok (.iconst 0, 1) := by decide +kernel
theorem dX12_drawn_41 : decode cX12_drawn 41 = .ok (.invokevirtual 177, 3) := by decide +kernel
theorem dX12_drawn_44 : decode cX12_drawn 44 = .ok (.iload_n 2, 1) := by decide +kernel
theorem dX12_drawn_45 : decode cX12_drawn 45 = .ok (.i2l, 1) := by decide +kernel
theorem dX12_drawn_46 : decode cX12_drawn 46 = .ok (.lstore 4, 2) := by decide +kernel
theorem dX12_drawn_48 : decode cX12_drawn 48 = .ok (.iconst 0, 1) := by decide +kernel
theorem dX12_drawn_49 : decode cX12_drawn 49 = .ok (.istore 6, 2) := by decide +kernel
theorem dX12_drawn_51 : decode cX12_drawn 51 = .ok (.iload 6, 2) := by decide +kernel
theorem dX12_drawn_53 : decode cX12_drawn 53 = .ok (.iload_n 1, 1) := by decide +kernel
theorem dX12_drawn_54 : decode cX12_drawn 54 = .ok (.if_icmp .ge 141, 3) := by decide +kernel
theorem dX12_drawn_57 : decode cX12_drawn 57 = .ok (.lload 4, 2) := by decide +kernel
theorem dX12_drawn_59 : decode cX12_drawn 59 = .ok (.ldc2_w 198, 3) := by decide +kernel
theorem dX12_drawn_62 : decode cX12_drawn 62 = .ok (.lmul, 1) := by decide +kernel
theorem dX12_drawn_63 : decode cX12_drawn 63 = .ok (.ldc2_w 200, 3) := by decide +kernel
theorem dX12_drawn_66 : decode cX12_drawn 66 = .ok (.lrem, 1) := by decide +kernel
theorem dX12_drawn_67 : decode cX12_drawn 67 = .ok (.lstore 4, 2) := by decide +kernel
theorem dX12_drawn_69 : decode cX12_drawn 69 = .ok (.aload_n 0, 1) := by decide +kernel
theorem dX12_drawn_70 : decode cX12_drawn 70 = .ok (.getfield 25, 3) := by decide +kernel
theorem dX12_drawn_73 : decode cX12_drawn 73 = .ok (.iconst 4, 1) := by decide +kernel
theorem dX12_drawn_74 : decode cX12_drawn 74 = .ok (.iaload, 1) := by decide +kernel
theorem dX12_drawn_75 : decode cX12_drawn 75 = .ok (.ifCond .le 107, 3) := by decide +kernel
theorem dX12_drawn_78 : decode cX12_drawn 78 = .ok (.lload 4, 2) := by decide +kernel
theorem dX12_drawn_80 : decode cX12_drawn 80 = .ok (.aload_n 0, 1) := by decide +kernel
theorem dX12_drawn_81 : decode cX12_drawn 81 = .ok (.getfield 25, 3) := by decide +kernel
theorem dX12_drawn_84 : decode cX12_drawn 84 = .ok (.iconst 4, 1) := by decide +kernel
theorem dX12_drawn_85 : decode cX12_drawn 85 = .ok (.iaload, 1) := by decide +kernel
theorem dX12_drawn_86 : decode cX12_drawn 86 = .ok (.i2l, 1) := by decide +kernel
theorem dX12_drawn_87 : decode cX12_drawn 87 = .ok (.lrem, 1) := by decide +kernel
theorem dX12_drawn_88 : decode cX12_drawn 88 = .ok (.l2i, 1) := by decide +kernel
theorem dX12_drawn_89 : decode cX12_drawn 89 = .ok (.istore 7, 2) := by decide +kernel
theorem dX12_drawn_91 : decode cX12_drawn 91 = .ok (.aload_n 0, 1) := by decide +kernel
theorem dX12_drawn_92 : decode cX12_drawn 92 = .ok (.getfield 31, 3) := by decide +kernel
theorem dX12_drawn_95 : decode cX12_drawn 95 = .ok (.iconst 5, 1) := by decide +kernel
theorem dX12_drawn_96 : decode cX12_drawn 96 = .ok (.bipush 6, 2) := by decide +kernel
theorem dX12_drawn_98 : decode cX12_drawn 98 = .ok (.iload 7, 2) := by decide +kernel
theorem dX12_drawn_100 : decode cX12_drawn 100 = .ok (.imul, 1) := by decide +kernel
theorem dX12_drawn_101 : decode cX12_drawn 101 = .ok (.iadd, 1) := by decide +kernel
theorem dX12_drawn_102 : decode cX12_drawn 102 = .ok (.iconst 1, 1) := by decide +kernel
theorem dX12_drawn_103 : decode cX12_drawn 103 = .ok (.iadd, 1) := by decide +kernel
theorem dX12_drawn_104 : decode cX12_drawn 104 = .ok (.iaload, 1) := by decide +kernel
theorem dX12_drawn_105 : decode cX12_drawn 105 = .ok (.lload 4, 2) := by decide +kernel
theorem dX12_drawn_107 : decode cX12_drawn 107 = .ok (.ldc2_w 202, 3) := by decide +kernel
theorem dX12_drawn_110 : decode cX12_drawn 110 = .ok (.lrem, 1) := by decide +kernel
theorem dX12_drawn_111 : decode cX12_drawn 111 = .ok (.lconst 0, 1) := by decide +kernel
theorem dX12_drawn_112 : decode cX12_drawn 112 = .ok (.lcmp, 1) := by decide +kernel
theorem dX12_drawn_113 : decode cX12_drawn 113 = .ok (.ifCond .ne 7, 3) := by decide +kernel
theorem dX12_drawn_116 : decode cX12_drawn 116 = .ok (.iconst 1, 1) := by decide +kernel
theorem dX12_drawn_117 : decode cX12_drawn 117 = .ok (.goto 19, 3) := by decide +kernel
theorem dX12_drawn_120 : decode cX12_drawn 120 = .ok (.lload 4, 2) := by decide +kernel
theorem dX12_drawn_122 : decode cX12_drawn 122 = .ok (.ldc2_w 202, 3) := by decide +kernel
theorem dX12_drawn_125 : decode cX12_drawn 125 = .ok (.lrem, 1) := by decide +kernel
theorem dX12_drawn_126 : decode cX12_drawn 126 = .ok (.lconst 1, 1) := by decide +kernel
theorem dX12_drawn_127 : decode cX12_drawn 127 = .ok (.lcmp, 1) := by decide +kernel
theorem dX12_drawn_128 : decode cX12_drawn 128 = .ok (.ifCond .ne 7, 3) := by decide +kernel
theorem dX12_drawn_131 : decode cX12_drawn 131 = .ok (.iconst (-1), 1) := by decide +kernel
theorem dX12_drawn_132 : decode cX12_drawn 132 = .ok (.goto 4, 3) := by decide +kernel
theorem dX12_drawn_135 : decode cX12_drawn 135 = .ok (.iconst 0, 1) := by decide +kernel
theorem dX12_drawn_136 : decode cX12_drawn 136 = .ok (.iadd, 1) := by decide +kernel
theorem dX12_drawn_137 : decode cX12_drawn 137 = .ok (.istore 8, 2) := by decide +kernel
theorem dX12_drawn_139 : decode cX12_drawn 139 = .ok (.aload_n 0, 1) := by decide +kernel
theorem dX12_drawn_140 : decode cX12_drawn 140 = .ok (.getfield 31, 3) := by decide +kernel
theorem dX12_drawn_143 : decode cX12_drawn 143 = .ok (.iload 7, 2) := by decide +kernel
theorem dX12_drawn_145 : decode cX12_drawn 145 = .ok (.invokestatic 135, 3) := by decide +kernel
theorem dX12_drawn_148 : decode cX12_drawn 148 = .ok (.ifCond .ne 34, 3) := by decide +kernel
theorem dX12_drawn_151 : decode cX12_drawn 151 = .ok (.iload 8, 2) := by decide +kernel
theorem dX12_drawn_153 : decode cX12_drawn 153 = .ok (.iconst 0, 1) := by decide +kernel
theorem dX12_drawn_154 : decode cX12_drawn 154 = .ok (.aload_n 0, 1) := by decide +kernel
theorem dX12_drawn_155 : decode cX12_drawn 155 = .ok (.getfield 25, 3) := by decide +kernel
theorem dX12_drawn_158 : decode cX12_drawn 158 = .ok (.iconst 0, 1) := by decide +kernel
theorem dX12_drawn_159 : decode cX12_drawn 159 = .ok (.iaload, 1) := by decide +kernel
theorem dX12_drawn_160 : decode cX12_drawn 160 = .ok (.invokestatic 53, 3) := by decide +kernel
theorem dX12_drawn_163 : decode cX12_drawn 163 = .ok (.ifCond .eq 19, 3) := by decide +kernel
theorem dX12_drawn_166 : decode cX12_drawn 166 = .ok (.aload_n 0, 1) := by decide +kernel
theorem dX12_drawn_167 : decode cX12_drawn 167 = .ok (.getfield 31, 3) := by decide +kernel
theorem dX12_drawn_170 : decode cX12_drawn 170 = .ok (.iconst 5, 1) := by decide +kernel
theorem dX12_drawn_171 : decode cX12_drawn 171 = .ok (.bipush 6, 2) := by decide +kernel
theorem dX12_drawn_173 : decode cX12_drawn 173 = .ok (.iload 7, 2) := by decide +kernel
theorem dX12_drawn_175 : decode cX12_drawn 175 = .ok (.imul, 1) := by decide +kernel
theorem dX12_drawn_176 : decode cX12_drawn 176 = .ok (.iadd, 1) := by decide +kernel
theorem dX12_drawn_177 : decode cX12_drawn 177 = .ok (.iconst 1, 1) := by decide +kernel
theorem dX12_drawn_178 : decode cX12_drawn 178 = .ok (.iadd, 1) := by decide +kernel
theorem dX12_drawn_179 : decode cX12_drawn 179 = .ok (.iload 8, 2) := by decide +kernel
theorem dX12_drawn_181 : decode cX12_drawn 181 = .ok (.iastore, 1) := by decide +kernel
theorem dX12_drawn_182 : decode cX12_drawn 182 = .ok (.aload_n 0, 1) := by decide +kernel
theorem dX12_drawn_183 : decode cX12_drawn 183 = .ok (.getfield 31, 3) := by decide +kernel
theorem dX12_drawn_186 : decode cX12_drawn 186 = .ok (.invokestatic 154, 3) := by decide +kernel
theorem dX12_drawn_189 : decode cX12_drawn 189 = .ok (.iinc 6 1, 3) := by decide +kernel
theorem dX12_drawn_192 : decode cX12_drawn 192 = .ok (.goto (-141), 3) := by decide +kernel
theorem dX12_drawn_195 : decode cX12_drawn 195 = .ok (.iload_n 3, 1) := by decide +kernel
theorem dX12_drawn_196 : decode cX12_drawn 196 = .ok (.ifCond .ne 16, 3) := by decide +kernel
theorem dX12_drawn_199 : decode cX12_drawn 199 = .ok (.aload_n 0, 1) := by decide +kernel
theorem dX12_drawn_200 : decode cX12_drawn 200 = .ok (.getfield 31, 3) := by decide +kernel
theorem dX12_drawn_203 : decode cX12_drawn 203 = .ok (.invokestatic 171, 3) := by decide +kernel
theorem dX12_drawn_206 : decode cX12_drawn 206 = .ok (.invokestatic 191, 3) := by decide +kernel
theorem dX12_drawn_209 : decode cX12_drawn 209 = .ok (.goto 9, 3) := by decide +kernel
theorem dX12_drawn_212 : decode cX12_drawn 212 = .ok (.aload_n 0, 1) := by decide +kernel
theorem dX12_drawn_213 : decode cX12_drawn 213 = .ok (.getfield 31, 3) := by decide +kernel
theorem dX12_drawn_216 : decode cX12_drawn 216 = .ok (.iconst 1, 1) := by decide +kernel
theorem dX12_drawn_217 : decode cX12_drawn 217 = .ok (.iaload, 1) := by decide +kernel
theorem dX12_drawn_218 : decode cX12_drawn 218 = .ok (.ireturn, 1) := by decide +kernel
theorem dX12_image_0 : decode cX12_image 0 = .ok (.iload_n 1, 1) := by decide +kernel
theorem dX12_image_1 : decode cX12_image 1 = .ok (.iconst 0, 1) := by decide +kernel
theorem dX12_image_2 : decode cX12_image 2 = .ok (.iconst 1, 1) := by decide +kernel
theorem dX12_image_3 : decode cX12_image 3 = .ok (.invokestatic 53, 3) := by decide +kernel
theorem dX12_image_6 : decode cX12_image 6 = .ok (.ifCond .ne 6, 3) := by decide +kernel
theorem dX12_image_9 : decode cX12_image 9 = .ok (.ldc 61, 2) := by decide +kernel
theorem dX12_image_11 : decode cX12_image 11 = .ok (.ireturn, 1) := by decide +kernel
theorem dX12_image_12 : decode cX12_image 12 = .ok (.aload_n 0, 1) := by decide +kernel
theorem dX12_image_13 : decode cX12_image 13 = .ok (.invokevirtual 158, 3) := by decide +kernel
theorem dX12_image_16 : decode cX12_image 16 = .ok (.ifCond .ne 6, 3) := by decide +kernel
theorem dX12_image_19 : decode cX12_image 19 = .ok (.ldc 161, 2) := by decide +kernel
theorem dX12_image_21 : decode cX12_image 21 = .ok (.ireturn, 1) := by decide +kernel
theorem dX12_image_22 : decode cX12_image 22 = .ok (.aload_n 0, 1) := by decide +kernel
theorem dX12_image_23 : decode cX12_image 23 = .ok (.getfield 25, 3) := by decide +kernel
theorem dX12_image_26 : decode cX12_image 26 = .ok (.iconst 0, 1) := by decide +kernel
theorem dX12_image_27 : decode cX12_image 27 = .ok (.aload_n 0, 1) := by decide +kernel
theorem dX12_image_28 : decode cX12_image 28 = .ok (.getfield 37, 3) := by decide +kernel
theorem dX12_image_31 : decode cX12_image 31 = .ok (.bipush 41, 2) := by decide +kernel
theorem dX12_image_33 : decode cX12_image 33 = .ok (.iload_n 1, 1) := by decide +kernel
theorem dX12_image_34 : decode cX12_image 34 = .ok (.imul, 1) := by decide +kernel
theorem dX12_image_35 : decode cX12_image 35 = .ok (.invokestatic 128, 3) := by decide +kernel
theorem dX12_image_38 : decode cX12_image 38 = .ok (.aload_n 0, 1) := by decide +kernel
theorem dX12_image_39 : decode cX12_image 39 = .ok (.getfield 40, 3) := by decide +kernel
theorem dX12_image_42 : decode cX12_image 42 = .ok (.iload_n 1, 1) := by decide +kernel
theorem dX12_image_43 : decode cX12_image 43 = .ok (.iconst 1, 1) := by decide +kernel
theorem dX12_image_44 : decode cX12_image 44 = .ok (.bastore, 1) := by decide +kernel
theorem dX12_image_45 : decode cX12_image 45 = .ok (.iconst 1, 1) := by decide +kernel
theorem dX12_image_46 : decode cX12_image 46 = .ok (.ireturn, 1) := by decide +kernel
theorem dX12_restore_0 : decode cX12_restore 0 = .ok (.iload_n 1, 1) := by decide +kernel
theorem dX12_restore_1 : decode cX12_restore 1 = .ok (.iconst 0, 1) := by decide +kernel
theorem dX12_restore_2 : decode cX12_restore 2 = .ok (.iconst 1, 1) := by decide +kernel
theorem dX12_restore_3 : decode cX12_restore 3 = .ok (.invokestatic 53, 3) := by decide +kernel
theorem dX12_restore_6 : decode cX12_restore 6 = .ok (.ifCond .ne 6, 3) := by decide +kernel
theorem dX12_restore_9 : decode cX12_restore 9 = .ok (.ldc 61, 2) := by decide +kernel
theorem dX12_restore_11 : decode cX12_restore 11 = .ok (.ireturn, 1) := by decide +kernel
theorem dX12_restore_12 : decode cX12_restore 12 = .ok (.aload_n 0, 1) := by decide +kernel
theorem dX12_restore_13 : decode cX12_restore 13 = .ok (.getfield 40, 3) := by decide +kernel
theorem dX12_restore_16 : decode cX12_restore 16 = .ok (.iload_n 1, 1) := by decide +kernel
theorem dX12_restore_17 : decode cX12_restore 17 = .ok (.baload, 1) := by decide +kernel
theorem dX12_restore_18 : decode cX12_restore 18 = .ok (.ifCond .ne 6, 3) := by decide +kernel
theorem dX12_restore_21 : decode cX12_restore 21 = .ok (.ldc 161, 2) := by decide +kernel
theorem dX12_restore_23 : decode cX12_restore 23 = .ok (.ireturn, 1) := by decide +kernel
theorem dX12_restore_24 : decode cX12_restore 24 = .ok (.aload_n 0, 1) := by decide +kernel
theorem dX12_restore_25 : decode cX12_restore 25 = .ok (.getfield 37, 3) := by decide +kernel
theorem dX12_restore_28 : decode cX12_restore 28 = .ok (.bipush 41, 2) := by decide +kernel
theorem dX12_restore_30 : decode cX12_restore 30 = .ok (.iload_n 1, 1) := by decide +kernel
theorem dX12_restore_31 : decode cX12_restore 31 = .ok (.imul, 1) := by decide +kernel
theorem dX12_restore_32 : decode cX12_restore 32 = .ok (.aload_n 0, 1) := by decide +kernel
theorem dX12_restore_33 : decode cX12_restore 33 = .ok (.getfield 25, 3) := by decide +kernel
theorem dX12_restore_36 : decode cX12_restore 36 = .ok (.iconst 0, 1) := by decide +kernel
theorem dX12_restore_37 : decode cX12_restore 37 = .ok (.invokestatic 128, 3) := by decide +kernel
theorem dX12_restore_40 : decode cX12_restore 40 = .ok (.aload_n 0, 1) := by decide +kernel
theorem dX12_restore_41 : decode cX12_restore 41 = .ok (.iconst 0, 1) := by decide +kernel
theorem dX12_restore_42 : decode cX12_restore 42 = .ok (.putfield 132, 3) := by decide +kernel
theorem dX12_restore_45 : decode cX12_restore 45 = .ok (.iconst 1, 1) := by decide +kernel
theorem dX12_restore_46 : decode cX12_restore 46 = .ok (.ireturn, 1) := by decide +kernel
theorem dX12_kindIn_0 : decode cX12_kindIn 0 = .ok (.aload_n 0, 1) := by decide +kernel
theorem dX12_kindIn_1 : decode cX12_kindIn 1 = .ok (.getfield 25, 3) := by decide +kernel
theorem dX12_kindIn_4 : decode cX12_kindIn 4 = .ok (.iconst 5, 1) := by decide +kernel
theorem dX12_kindIn_5 : decode cX12_kindIn 5 = .ok (.bipush 6, 2) := by decide +kernel
theorem dX12_kindIn_7 : decode cX12_kindIn 7 = .ok (.iload_n 1, 1) := by decide +kernel
theorem dX12_kindIn_8 : decode cX12_kindIn 8 = .ok (.imul, 1) := by decide +kernel
theorem dX12_kindIn_9 : decode cX12_kindIn 9 = .ok (.iadd, 1) := by decide +kernel
theorem dX12_kindIn_10 : decode cX12_kindIn 10 = .ok (.iaload, 1) := by decide +kernel
theorem dX12_kindIn_11 : decode cX12_kindIn 11 = .ok (.ireturn, 1) := by decide +kernel
theorem dX12_kind_0 : decode cX12_kind 0 = .ok (.aload_n 0, 1) := by decide +kernel
theorem dX12_kind_1 : decode cX12_kind 1 = .ok (.iload_n 1, 1) := by decide +kernel
theorem dX12_kind_2 : decode cX12_kind 2 = .ok (.invokevirtual 165, 3) := by decide +kernel
theorem dX12_kind_5 : decode cX12_kind 5 = .ok (.ifCond .eq 11, 3) := by decide +kernel
theorem dX12_kind_8 : decode cX12_kind 8 = .ok (.aload_n 0, 1) := by decide +kernel
theorem dX12_kind_9 : decode cX12_kind 9 = .ok (.iload_n 1, 1) := by decide +kernel
theorem dX12_kind_10 : decode cX12_kind 10 = .ok (.invokevirtual 204, 3) := by decide +kernel
theorem dX12_kind_13 : decode cX12_kind 13 = .ok (.goto 5, 3) := by decide +kernel
theorem dX12_kind_16 : decode cX12_kind 16 = .ok (.ldc 61, 2) := by decide +kernel
theorem dX12_kind_18 : decode cX12_kind 18 = .ok (.ireturn, 1) := by decide +kernel
theorem dX12_as_0 : decode cX12_as 0 = .ok (.aload_n 0, 1) := by decide +kernel
theorem dX12_as_1 : decode cX12_as 1 = .ok (.iload_n 1, 1) := by decide +kernel
theorem dX12_as_2 : decode cX12_as 2 = .ok (.invokevirtual 165, 3) := by decide +kernel
theorem dX12_as_5 : decode cX12_as 5 = .ok (.ifCond .eq 12, 3) := by decide +kernel
theorem dX12_as_8 : decode cX12_as 8 = .ok (.iload_n 2, 1) := by decide +kernel
theorem dX12_as_9 : decode cX12_as 9 = .ok (.iconst 0, 1) := by decide +kernel
theorem dX12_as_10 : decode cX12_as 10 = .ok (.iconst 5, 1) := by decide +kernel
theorem dX12_as_11 : decode cX12_as 11 = .ok (.invokestatic 53, 3) := by decide +kernel
theorem dX12_as_14 : decode cX12_as 14 = .ok (.ifCond .ne 6, 3) := by decide +kernel
theorem dX12_as_17 : decode cX12_as 17 = .ok (.ldc 61, 2) := by decide +kernel
theorem dX12_as_19 : decode cX12_as 19 = .ok (.ireturn, 1) := by decide +kernel
theorem dX12_as_20 : decode cX12_as 20 = .ok (.aload_n 0, 1) := by decide +kernel
theorem dX12_as_21 : decode cX12_as 21 = .ok (.iload_n 1, 1) := by decide +kernel
theorem dX12_as_22 : decode cX12_as 22 = .ok (.invokevirtual 204, 3) := by decide +kernel
theorem dX12_as_25 : decode cX12_as 25 = .ok (.istore_n 3, 1) := by decide +kernel
theorem dX12_as_26 : decode cX12_as 26 = .ok (.iload_n 2, 1) := by decide +kernel
theorem dX12_as_27 : decode cX12_as 27 = .ok (.ifCond .eq 28, 3) := by decide +kernel
theorem dX12_as_30 : decode cX12_as 30 = .ok (.iload_n 2, 1) := by decide +kernel
theorem dX12_as_31 : decode cX12_as 31 = .ok (.iload_n 3, 1) := by decide +kernel
theorem dX12_as_32 : decode cX12_as 32 = .ok (.if_icmp .eq 23, 3) := by decide +kernel
theorem dX12_as_35 : decode cX12_as 35 = .ok (.iload_n 2, 1) := by decide +kernel
theorem dX12_as_36 : decode cX12_as 36 = .ok (.iconst 1, 1) := by decide +kernel
theorem dX12_as_37 : decode cX12_as 37 = .ok (.if_icmp .ne 8, 3) := by decide +kernel
theorem dX12_as_40 : decode cX12_as 40 = .ok (.iload_n 3, 1) := by decide +kernel
theorem dX12_as_41 : decode cX12_as 41 = .ok (.iconst 4, 1) := by decide +kernel
theorem dX12_as_42 : decode cX12_as 42 = .ok (.if_icmp .lt 13, 3) := by decide +kernel
theorem dX12_as_45 : decode cX12_as 45 = .ok (.iload_n 2, 1) := by decide +kernel
theorem dX12_as_46 : decode cX12_as 46 = .ok (.iconst 4, 1) := by decide +kernel
theorem dX12_as_47 : decode cX12_as 47 = .ok (.if_icmp .ne 12, 3) := by decide +kernel
theorem dX12_as_50 : decode cX12_as 50 = .ok (.iload_n 3, 1) := by decide +kernel
theorem dX12_as_51 : decode cX12_as 51 = .ok (.iconst 5, 1) := by decide +kernel
theorem dX12_as_52 : decode cX12_as 52 = .ok (.if_icmp .ne 7, 3) := by decide +kernel
theorem dX12_as_55 : decode cX12_as 55 = .ok (.iconst 1, 1) := by decide +kernel
theorem dX12_as_56 : decode cX12_as 56 = .ok (.goto 4, 3) := by decide +kernel
theorem dX12_as_59 : decode cX12_as 59 = .ok (.iconst 0, 1) := by decide +kernel
theorem dX12_as_60 : decode cX12_as 60 = .ok (.istore 4, 2) := by decide +kernel
theorem dX12_as_62 : decode cX12_as 62 = .ok (.iload 4, 2) := by decide +kernel
theorem dX12_as_64 : decode cX12_as 64 = .ok (.ifCond .eq 11, 3) := by decide +kernel
theorem dX12_as_67 : decode cX12_as 67 = .ok (.aload_n 0, 1) := by decide +kernel
theorem dX12_as_68 : decode cX12_as 68 = .ok (.iload_n 1, 1) := by decide +kernel
theorem dX12_as_69 : decode cX12_as 69 = .ok (.invokevirtual 66, 3) := by decide +kernel
theorem dX12_as_72 : decode cX12_as 72 = .ok (.goto 8, 3) := by decide +kernel
theorem dX12_as_75 : decode cX12_as 75 = .ok (.aload_n 0, 1) := by decide +kernel
theorem dX12_as_76 : decode cX12_as 76 = .ok (.iconst 3, 1) := by decide +kernel
theorem dX12_as_77 : decode cX12_as 77 = .ok (.invokevirtual 62, 3) := by decide +kernel
theorem dX12_as_80 : decode cX12_as 80 = .ok (.ireturn, 1) := by decide +kernel
theorem dX12_begins_0 : decode cX12_begins 0 = .ok (.aload_n 0, 1) := by decide +kernel
theorem dX12_begins_1 : decode cX12_begins 1 = .ok (.getfield 207, 3) := by decide +kernel
theorem dX12_begins_4 : decode cX12_begins 4 = .ok (.bipush 16, 2) := by decide +kernel
theorem dX12_begins_6 : decode cX12_begins 6 = .ok (.if_icmp .ge 23, 3) := by decide +kernel
theorem dX12_begins_9 : decode cX12_begins 9 = .ok (.aload_n 0, 1) := by decide +kernel
theorem dX12_begins_10 : decode cX12_begins 10 = .ok (.getfield 44, 3) := by decide +kernel
theorem dX12_begins_13 : decode cX12_begins 13 = .ok (.aload_n 0, 1) := by decide +kernel
theorem dX12_begins_14 : decode cX12_begins 14 = .ok (.getfield 207, 3) := by decide +kernel
theorem dX12_begins_17 : decode cX12_begins 17 = .ok (.iload_n 1, 1) := by decide +kernel
theorem dX12_begins_18 : decode cX12_begins 18 = .ok (.iastore, 1) := by decide +kernel
theorem dX12_begins_19 : decode cX12_begins 19 = .ok (.aload_n 0, 1) := by decide +kernel
theorem dX12_begins_20 : decode cX12_begins 20 = .ok (.dup, 1) := by decide +kernel
theorem dX12_begins_21 : decode cX12_begins 21 = .ok (.getfield 207, 3) := by decide +kernel
theorem dX12_begins_24 : decode cX12_begins 24 = .ok (.iconst 1, 1) := by decide +kernel
theorem dX12_begins_25 : decode cX12_begins 25 = .ok (.iadd, 1) := by decide +kernel
theorem dX12_begins_26 : decode cX12_begins 26 = .ok (.putfield 207, 3) := by decide +kernel
theorem dX12_begins_29 : decode cX12_begins 29 = .ok (.return_, 1) := by decide +kernel
theorem dX12_clerkMark_0 : decode cX12_clerkMark 0 = .ok (.aload_n 0, 1) := by decide +kernel
theorem dX12_clerkMark_1 : decode cX12_clerkMark 1 = .ok (.iload_n 1, 1) := by decide +kernel
theorem dX12_clerkMark_2 : decode cX12_clerkMark 2 = .ok (.invokevirtual 204, 3) := by decide +kernel
theorem dX12_clerkMark_5 : decode cX12_clerkMark 5 = .ok (.istore_n 2, 1) := by decide +kernel
theorem dX12_clerkMark_6 : decode cX12_clerkMark 6 = .ok (.iload_n 2, 1) := by decide +kernel
theorem dX12_clerkMark_7 : decode cX12_clerkMark 7 = .ok (.iconst 1, 1) := by decide +kernel
theorem dX12_clerkMark_8 : decode cX12_clerkMark 8 = .ok (.if_icmp .eq 19, 3) := by decide +kernel
theorem dX12_clerkMark_11 : decode cX12_clerkMark 11 = .ok (.aload_n 0, 1) := by decide +kernel
theorem dX12_clerkMark_12 : decode cX12_clerkMark 12 = .ok (.iload_n 2, 1) := by decide +kernel
theorem dX12_clerkMark_13 : decode cX12_clerkMark 13 = .ok (.iconst 2, 1) := by decide +kernel
theorem dX12_clerkMark_14 : decode cX12_clerkMark 14 = .ok (.if_icmp .ne 8, 3) := by decide +kernel
theorem dX12_clerkMark_17 : decode cX12_clerkMark 17 = .ok (.bipush 24, 2) := by decide +kernel
theorem dX12_clerkMark_19 : decode cX12_clerkMark 19 = .ok (.goto 5, 3) := by decide +kernel
theorem dX12_clerkMark_22 : decode cX12_clerkMark 22 = .ok (.bipush 22, 2) := by decide +kernel
theorem dX12_clerkMark_24 : decode cX12_clerkMark 24 = .ok (.invokevirtual 210, 3) := by decide +kernel
theorem dX12_clerkMark_27 : decode cX12_clerkMark 27 = .ok (.aload_n 0, 1) := by decide +kernel
theorem dX12_clerkMark_28 : decode cX12_clerkMark 28 = .ok (.bipush 21, 2) := by decide +kernel
theorem dX12_clerkMark_30 : decode cX12_clerkMark 30 = .ok (.invokevirtual 210, 3) := by decide +kernel
theorem dX12_clerkMark_33 : decode cX12_clerkMark 33 = .ok (.aload_n 0, 1) := by decide +kernel
theorem dX12_clerkMark_34 : decode cX12_clerkMark 34 = .ok (.bipush 20, 2) := by decide +kernel
theorem dX12_clerkMark_36 : decode cX12_clerkMark 36 = .ok (.invokevirtual 210, 3) := by decide +kernel
theorem dX12_clerkMark_39 : decode cX12_clerkMark 39 = .ok (.iload_n 1, 1) := by decide +kernel
theorem dX12_clerkMark_40 : decode cX12_clerkMark 40 = .ok (.aload_n 0, 1) := by decide +kernel
theorem dX12_clerkMark_41 : decode cX12_clerkMark 41 = .ok (.getfield 25, 3) := by decide +kernel
theorem dX12_clerkMark_44 : decode cX12_clerkMark 44 = .ok (.iload_n 1, 1) := by decide +kernel
theorem dX12_clerkMark_45 : decode cX12_clerkMark 45 = .ok (.invokestatic 143, 3) := by decide +kernel
theorem dX12_clerkMark_48 : decode cX12_clerkMark 48 = .ok (.iadd, 1) := by decide +kernel
theorem dX12_clerkMark_49 : decode cX12_clerkMark 49 = .ok (.istore_n 3, 1) := by decide +kernel
theorem dX12_clerkMark_50 : decode cX12_clerkMark 50 = .ok (.iload_n 2, 1) := by decide +kernel
theorem dX12_clerkMark_51 : decode cX12_clerkMark 51 = .ok (.iconst 2, 1) := by decide +kernel
theorem dX12_clerkMark_52 : decode cX12_clerkMark 52 = .ok (.if_icmp .ne 9, 3) := by decide +kernel
theorem dX12_clerkMark_55 : decode cX12_clerkMark 55 = .ok (.iconst 2, 1) := by decide +kernel
theorem dX12_clerkMark_56 : decode cX12_clerkMark 56 = .ok (.iload_n 3, 1) := by decide +kernel
theorem dX12_clerkMark_57 : decode cX12_clerkMark 57 = .ok (.imul, 1) := by decide +kernel
theorem dX12_clerkMark_58 : decode cX12_clerkMark 58 = .ok (.goto 17, 3) := by decide +kernel
theorem dX12_clerkMark_61 : decode cX12_clerkMark 61 = .ok (.iload_n 2, 1) := by decide +kernel
theorem dX12_clerkMark_62 : decode cX12_clerkMark 62 = .ok (.iconst 3, 1) := by decide +kernel
theorem dX12_clerkMark_63 : decode cX12_clerkMark 63 = .ok (.if_icmp .ne 11, 3) := by decide +kernel
theorem dX12_clerkMark_66 : decode cX12_clerkMark 66 = .ok (.iload_n 3, 1) := by decide +kernel
theorem dX12_clerkMark_67 : decode cX12_clerkMark 67 = .ok (.sipush 1000, 3) := by decide +kernel
theorem dX12_clerkMark_70 : decode cX12_clerkMark 70 = .ok (.isub, 1) := by decide +kernel
theorem dX12_clerkMark_71 : decode cX12_clerkMark 71 = .ok (.goto 4, 3) := by decide +kernel
theorem dX12_clerkMark_74 : decode cX12_clerkMark 74 = .ok (.iload_n 3, 1) := by decide +kernel
theorem dX12_clerkMark_75 : decode cX12_clerkMark 75 = .ok (.ireturn, 1) := by decide +kernel
theorem dX12_chiefSize_0 : decode cX12_chiefSize 0 = .ok (.aload_n 0, 1) := by decide +kernel
theorem dX12_chiefSize_1 : decode cX12_chiefSize 1 = .ok (.iload_n 1, 1) := by decide +kernel
theorem dX12_chiefSize_2 : decode cX12_chiefSize 2 = .ok (.invokevirtual 204, 3) := by decide +kernel
theorem dX12_chiefSize_5 : decode cX12_chiefSize 5 = .ok (.iconst 5, 1) := by decide +kernel
theorem dX12_chiefSize_6 : decode cX12_chiefSize 6 = .ok (.if_icmp .ne 7, 3) := by decide +kernel
theorem dX12_chiefSize_9 : decode cX12_chiefSize 9 = .ok (.iconst 1, 1) := by decide +kernel
theorem dX12_chiefSize_10 : decode cX12_chiefSize 10 = .ok (.goto 4, 3) := by decide +kernel
theorem dX12_chiefSize_13 : decode cX12_chiefSize 13 = .ok (.iconst 0, 1) := by decide +kernel
theorem dX12_chiefSize_14 : decode cX12_chiefSize 14 = .ok (.istore_n 2, 1) := by decide +kernel
theorem dX12_chiefSize_15 : decode cX12_chiefSize 15 = .ok (.iload_n 2, 1) := by decide +kernel
theorem dX12_chiefSize_16 : decode cX12_chiefSize 16 = .ok (.ifCond .eq 9, 3) := by decide +kernel
theorem dX12_chiefSize_19 : decode cX12_chiefSize 19 = .ok (.aload_n 0, 1) := by decide +kernel
theorem dX12_chiefSize_20 : decode cX12_chiefSize 20 = .ok (.bipush 14, 2) := by decide +kernel
theorem dX12_chiefSize_22 : decode cX12_chiefSize 22 = .ok (.invokevirtual 210, 3) := by decide +kernel
theorem dX12_chiefSize_25 : decode cX12_chiefSize 25 = .ok (.aload_n 0, 1) := by decide +kernel
theorem dX12_chiefSize_26 : decode cX12_chiefSize 26 = .ok (.bipush 13, 2) := by decide +kernel
theorem dX12_chiefSize_28 : decode cX12_chiefSize 28 = .ok (.invokevirtual 210, 3) := by decide +kernel
theorem dX12_chiefSize_31 : decode cX12_chiefSize 31 = .ok (.aload_n 0, 1) := by decide +kernel
theorem dX12_chiefSize_32 : decode cX12_chiefSize 32 = .ok (.bipush 10, 2) := by decide +kernel
theorem dX12_chiefSize_34 : decode cX12_chiefSize 34 = .ok (.invokevirtual 210, 3) := by decide +kernel
theorem dX12_chiefSize_37 : decode cX12_chiefSize 37 = .ok (.aload_n 0, 1) := by decide +kernel
theorem dX12_chiefSize_38 : decode cX12_chiefSize 38 = .ok (.getfield 25, 3) := by decide +kernel
theorem dX12_chiefSize_41 : decode cX12_chiefSize 41 = .ok (.iconst 5, 1) := by decide +kernel
theorem dX12_chiefSize_42 : decode cX12_chiefSize 42 = .ok (.bipush 6, 2) := by decide +kernel
theorem dX12_chiefSize_44 : decode cX12_chiefSize 44 = .ok (.iload_n 1, 1) := by decide +kernel
theorem dX12_chiefSize_45 : decode cX12_chiefSize 45 = .ok (.imul, 1) := by decide +kernel
theorem dX12_chiefSize_46 : decode cX12_chiefSize 46 = .ok (.iadd, 1) := by decide +kernel
theorem dX12_chiefSize_47 : decode cX12_chiefSize 47 = .ok (.iconst 2, 1) := by decide +kernel
theorem dX12_chiefSize_48 : decode cX12_chiefSize 48 = .ok (.iadd, 1) := by decide +kernel
theorem dX12_chiefSize_49 : decode cX12_chiefSize 49 = .ok (.iaload, 1) := by decide +kernel
theorem dX12_chiefSize_50 : decode cX12_chiefSize 50 = .ok (.bipush 100, 2) := by decide +kernel
theorem dX12_chiefSize_52 : decode cX12_chiefSize 52 = .ok (.isub, 1) := by decide +kernel
theorem dX12_chiefSize_53 : decode cX12_chiefSize 53 = .ok (.istore_n 3, 1) := by decide +kernel
theorem dX12_chiefSize_54 : decode cX12_chiefSize 54 = .ok (.iload_n 2, 1) := by decide +kernel
theorem dX12_chiefSize_55 : decode cX12_chiefSize 55 = .ok (.ifCond .eq 9, 3) := by decide +kernel
theorem dX12_chiefSize_58 : decode cX12_chiefSize 58 = .ok (.iconst 2, 1) := by decide +kernel
theorem dX12_chiefSize_59 : decode cX12_chiefSize 59 = .ok (.iload_n 3, 1) := by decide +kernel
theorem dX12_chiefSize_60 : decode cX12_chiefSize 60 = .ok (.imul, 1) := by decide +kernel
theorem dX12_chiefSize_61 : decode cX12_chiefSize 61 = .ok (.goto 4, 3) := by decide +kernel
theorem dX12_chiefSize_64 : decode cX12_chiefSize 64 = .ok (.iload_n 3, 1) := by decide +kernel
theorem dX12_chiefSize_65 : decode cX12_chiefSize 65 = .ok (.ireturn, 1) := by decide +kernel
theorem dX12_clerkSize_0 : decode cX12_clerkSize 0 = .ok (.aload_n 0, 1) := by decide +kernel
theorem dX12_clerkSize_1 : decode cX12_clerkSize 1 = .ok (.iload_n 1, 1) := by decide +kernel
theorem dX12_clerkSize_2 : decode cX12_clerkSize 2 = .ok (.invokevirtual 204, 3) := by decide +kernel
theorem dX12_clerkSize_5 : decode cX12_clerkSize 5 = .ok (.iconst 2, 1) := by decide +kernel
theorem dX12_clerkSize_6 : decode cX12_clerkSize 6 = .ok (.if_icmp .ne 7, 3) := by decide +kernel
theorem dX12_clerkSize_9 : decode cX12_clerkSize 9 = .ok (.iconst 1, 1) := by decide +kernel
theorem dX12_clerkSize_10 : decode cX12_clerkSize 10 = .ok (.goto 4, 3) := by decide +kernel
theorem dX12_clerkSize_13 : decode cX12_clerkSize 13 = .ok (.iconst 0, 1) := by decide +kernel
theorem dX12_clerkSize_14 : decode cX12_clerkSize 14 = .ok (.istore_n 2, 1) := by decide +kernel
theorem dX12_clerkSize_15 : decode cX12_clerkSize 15 = .ok (.iload_n 2, 1) := by decide +kernel
theorem dX12_clerkSize_16 : decode cX12_clerkSize 16 = .ok (.ifCond .eq 9, 3) := by decide +kernel
theorem dX12_clerkSize_19 : decode cX12_clerkSize 19 = .ok (.aload_n 0, 1) := by decide +kernel
theorem dX12_clerkSize_20 : decode cX12_clerkSize 20 = .ok (.bipush 12, 2) := by decide +kernel
theorem dX12_clerkSize_22 : decode cX12_clerkSize 22 = .ok (.invokevirtual 210, 3) := by decide +kernel
theorem dX12_clerkSize_25 : decode cX12_clerkSize 25 = .ok (.aload_n 0, 1) := by decide +kernel
theorem dX12_clerkSize_26 : decode cX12_clerkSize 26 = .ok (.bipush 11, 2) := by decide +kernel
theorem dX12_clerkSize_28 : decode cX12_clerkSize 28 = .ok (.invokevirtual 210, 3) := by decide +kernel
theorem dX12_clerkSize_31 : decode cX12_clerkSize 31 = .ok (.aload_n 0, 1) := by decide +kernel
theorem dX12_clerkSize_32 : decode cX12_clerkSize 32 = .ok (.bipush 10, 2) := by decide +kernel
theorem dX12_clerkSize_34 : decode cX12_clerkSize 34 = .ok (.invokevirtual 210, 3) := by decide +kernel
theorem dX12_clerkSize_37 : decode cX12_clerkSize 37 = .ok (.aload_n 0, 1) := by decide +kernel
theorem dX12_clerkSize_38 : decode cX12_clerkSize 38 = .ok (.getfield 25, 3) := by decide +kernel
theorem dX12_clerkSize_41 : decode cX12_clerkSize 41 = .ok (.iconst 5, 1) := by decide +kernel
theorem dX12_clerkSize_42 : decode cX12_clerkSize 42 = .ok (.bipush 6, 2) := by decide +kernel
theorem dX12_clerkSize_44 : decode cX12_clerkSize 44 = .ok (.iload_n 1, 1) := by decide +kernel
theorem dX12_clerkSize_45 : decode cX12_clerkSize 45 = .ok (.imul, 1) := by decide +kernel
theorem dX12_clerkSize_46 : decode cX12_clerkSize 46 = .ok (.iadd, 1) := by decide +kernel
theorem dX12_clerkSize_47 : decode cX12_clerkSize 47 = .ok (.iconst 2, 1) := by decide +kernel
theorem dX12_clerkSize_48 : decode cX12_clerkSize 48 = .ok (.iadd, 1) := by decide +kernel
theorem dX12_clerkSize_49 : decode cX12_clerkSize 49 = .ok (.iaload, 1) := by decide +kernel
theorem dX12_clerkSize_50 : decode cX12_clerkSize 50 = .ok (.aload_n 0, 1) := by decide +kernel
theorem dX12_clerkSize_51 : decode cX12_clerkSize 51 = .ok (.iload_n 1, 1) := by decide +kernel
theorem dX12_clerkSize_52 : decode cX12_clerkSize 52 = .ok (.invokevirtual 213, 3) := by decide +kernel
theorem dX12_clerkSize_55 : decode cX12_clerkSize 55 = .ok (.iadd, 1) := by decide +kernel
theorem dX12_clerkSize_56 : decode cX12_clerkSize 56 = .ok (.istore_n 3, 1) := by decide +kernel
theorem dX12_clerkSize_57 : decode cX12_clerkSize 57 = .ok (.iload_n 2, 1) := by decide +kernel
theorem dX12_clerkSize_58 : decode cX12_clerkSize 58 = .ok (.ifCond .eq 8, 3) := by decide +kernel
theorem dX12_clerkSize_61 : decode cX12_clerkSize 61 = .ok (.iload_n 3, 1) := by decide +kernel
theorem dX12_clerkSize_62 : decode cX12_clerkSize 62 = .ok (.ineg, 1) := by decide +kernel
theorem dX12_clerkSize_63 : decode cX12_clerkSize 63 = .ok (.goto 4, 3) := by decide +kernel
theorem dX12_clerkSize_66 : decode cX12_clerkSize 66 = .ok (.iload_n 3, 1) := by decide +kernel
theorem dX12_clerkSize_67 : decode cX12_clerkSize 67 = .ok (.ireturn, 1) := by decide +kernel
theorem dX12_chiefMark_0 : decode cX12_chiefMark 0 = .ok (.aload_n 0, 1) := by decide +kernel
theorem dX12_chiefMark_1 : decode cX12_chiefMark 1 = .ok (.bipush 23, 2) := by decide +kernel
theorem dX12_chiefMark_3 : decode cX12_chiefMark 3 = .ok (.invokevirtual 210, 3) := by decide +kernel
theorem dX12_chiefMark_6 : decode cX12_chiefMark 6 = .ok (.aload_n 0, 1) := by decide +kernel
theorem dX12_chiefMark_7 : decode cX12_chiefMark 7 = .ok (.bipush 20, 2) := by decide +kernel
theorem dX12_chiefMark_9 : decode cX12_chiefMark 9 = .ok (.invokevirtual 210, 3) := by decide +kernel
theorem dX12_chiefMark_12 : decode cX12_chiefMark 12 = .ok (.iload_n 1, 1) := by decide +kernel
theorem dX12_chiefMark_13 : decode cX12_chiefMark 13 = .ok (.aload_n 0, 1) := by decide +kernel
theorem dX12_chiefMark_14 : decode cX12_chiefMark 14 = .ok (.iload_n 1, 1) := by decide +kernel
theorem dX12_chiefMark_15 : decode cX12_chiefMark 15 = .ok (.invokevirtual 216, 3) := by decide +kernel
theorem dX12_chiefMark_18 : decode cX12_chiefMark 18 = .ok (.isub, 1) := by decide +kernel
theorem dX12_chiefMark_19 : decode cX12_chiefMark 19 = .ok (.ireturn, 1) := by decide +kernel
theorem dX12_ask_0 : decode cX12_ask 0 = .ok (.aload_n 0, 1) := by decide +kernel
theorem dX12_ask_1 : decode cX12_ask 1 = .ok (.iload_n 1, 1) := by decide +kernel
theorem dX12_ask_2 : decode cX12_ask 2 = .ok (.invokevirtual 165, 3) := by decide +kernel
theorem dX12_ask_5 : decode cX12_ask 5 = .ok (.ifCond .eq 12, 3) := by decide +kernel
theorem dX12_ask_8 : decode cX12_ask 8 = .ok (.iload_n 2, 1) := by decide +kernel
theorem dX12_ask_9 : decode cX12_ask 9 = .ok (.iconst 0, 1) := by decide +kernel
theorem dX12_ask_10 : decode cX12_ask 10 = .ok (.iconst 1, 1) := by decide +kernel
theorem dX12_ask_11 : decode cX12_ask 11 = .ok (.invokestatic 53, 3) := by decide +kernel
theorem dX12_ask_14 : decode cX12_ask 14 = .ok (.ifCond .ne 6, 3) := by decide +kernel
theorem dX12_ask_17 : decode cX12_ask 17 = .ok (.ldc 61, 2) := by decide +kernel
theorem dX12_ask_19 : decode cX12_ask 19 = .ok (.ireturn, 1) := by decide +kernel
theorem dX12_ask_20 : decode cX12_ask 20 = .ok (.aload_n 0, 1) := by decide +kernel
theorem dX12_ask_21 : decode cX12_ask 21 = .ok (.iconst 0, 1) := by decide +kernel
theorem dX12_ask_22 : decode cX12_ask 22 = .ok (.putfield 207, 3) := by decide +kernel
theorem dX12_ask_25 : decode cX12_ask 25 = .ok (.aload_n 0, 1) := by decide +kernel
theorem dX12_ask_26 : decode cX12_ask 26 = .ok (.iload_n 1, 1) := by decide +kernel
theorem dX12_ask_27 : decode cX12_ask 27 = .ok (.invokevirtual 204, 3) := by decide +kernel
theorem dX12_ask_30 : decode cX12_ask 30 = .ok (.iconst 4, 1) := by decide +kernel
theorem dX12_ask_31 : decode cX12_ask 31 = .ok (.if_icmp .lt 7, 3) := by decide +kernel
theorem dX12_ask_34 : decode cX12_ask 34 = .ok (.iconst 1, 1) := by decide +kernel
theorem dX12_ask_35 : decode cX12_ask 35 = .ok (.goto 4, 3) := by decide +kernel
theorem dX12_ask_38 : decode cX12_ask 38 = .ok (.iconst 0, 1) := by decide +kernel
theorem dX12_ask_39 : decode cX12_ask 39 = .ok (.istore_n 3, 1) := by decide +kernel
theorem dX12_ask_40 : decode cX12_ask 40 = .ok (.iload_n 2, 1) := by decide +kernel
theorem dX12_ask_41 : decode cX12_ask 41 = .ok (.ifCond .ne 21, 3) := by decide +kernel
theorem dX12_ask_44 : decode cX12_ask 44 = .ok (.iload_n 3, 1) := by decide +kernel
theorem dX12_ask_45 : decode cX12_ask 45 = .ok (.ifCond .eq 11, 3) := by decide +kernel
theorem dX12_ask_48 : decode cX12_ask 48 = .ok (.aload_n 0, 1) := by decide +kernel
theorem dX12_ask_49 : decode cX12_ask 49 = .ok (.iload_n 1, 1) := by decide +kernel
theorem dX12_ask_50 : decode cX12_ask 50 = .ok (.invokevirtual 216, 3) := by decide +kernel
theorem dX12_ask_53 : decode cX12_ask 53 = .ok (.goto 8, 3) := by decide +kernel
theorem dX12_ask_56 : decode cX12_ask 56 = .ok (.aload_n 0, 1) := by decide +kernel
theorem dX12_ask_57 : decode cX12_ask 57 = .ok (.iload_n 1, 1) := by decide +kernel
theorem dX12_ask_58 : decode cX12_ask 58 = .ok (.invokevirtual 219, 3) := by decide +kernel
theorem dX12_ask_61 : decode cX12_ask 61 = .ok (.ireturn, 1) := by decide +kernel
theorem dX12_ask_62 : decode cX12_ask 62 = .ok (.iload_n 3, 1) := by decide +kernel
theorem dX12_ask_63 : decode cX12_ask 63 = .ok (.ifCond .eq 11, 3) := by decide +kernel
theorem dX12_ask_66 : decode cX12_ask 66 = .ok (.aload_n 0, 1) := by decide +kernel
theorem dX12_ask_67 : decode cX12_ask 67 = .ok (.iload_n 1, 1) := by decide +kernel
theorem dX12_ask_68 : decode cX12_ask 68 = .ok (.invokevirtual 222, 3) := by decide +kernel
theorem dX12_ask_71 : decode cX12_ask 71 = .ok (.goto 8, 3) := by decide +kernel
theorem dX12_ask_74 : decode cX12_ask 74 = .ok (.aload_n 0, 1) := by decide +kernel
theorem dX12_ask_75 : decode cX12_ask 75 = .ok (.iload_n 1, 1) := by decide +kernel
theorem dX12_ask_76 : decode cX12_ask 76 = .ok (.invokevirtual 213, 3) := by decide +kernel
theorem dX12_ask_79 : decode cX12_ask 79 = .ok (.ireturn, 1) := by decide +kernel
theorem dX12_trace_0 : decode cX12_trace 0 = .ok (.iload_n 1, 1) := by decide +kernel
theorem dX12_trace_1 : decode cX12_trace 1 = .ok (.iconst 0, 1) := by decide +kernel
theorem dX12_trace_2 : decode cX12_trace 2 = .ok (.aload_n 0, 1) := by decide +kernel
theorem dX12_trace_3 : decode cX12_trace 3 = .ok (.getfield 207, 3) := by decide +kernel
theorem dX12_trace_6 : decode cX12_trace 6 = .ok (.iconst 1, 1) := by decide +kernel
theorem dX12_trace_7 : decode cX12_trace 7 = .ok (.isub, 1) := by decide +kernel
theorem dX12_trace_8 : decode cX12_trace 8 = .ok (.invokestatic 53, 3) := by decide +kernel
theorem dX12_trace_11 : decode cX12_trace 11 = .ok (.ifCond .eq 12, 3) := by decide +kernel
theorem dX12_trace_14 : decode cX12_trace 14 = .ok (.aload_n 0, 1) := by decide +kernel
theorem dX12_trace_15 : decode cX12_trace 15 = .ok (.getfield 44, 3) := by decide +kernel
theorem dX12_trace_18 : decode cX12_trace 18 = .ok (.iload_n 1, 1) := by decide +kernel
theorem dX12_trace_19 : decode cX12_trace 19 = .ok (.iaload, 1) := by decide +kernel
theorem dX12_trace_20 : decode cX12_trace 20 = .ok (.goto 5, 3) := by decide +kernel
theorem dX12_trace_23 : decode cX12_trace 23 = .ok (.ldc 47, 2) := by decide +kernel
theorem dX12_trace_25 : decode cX12_trace 25 = .ok (.ireturn, 1) := by decide +kernel
theorem dX12_count_0 : decode cX12_count 0 = .ok (.iconst 0, 1) := by decide +kernel
theorem dX12_count_1 : decode cX12_count 1 = .ok (.istore_n 2, 1) := by decide +kernel
theorem dX12_count_2 : decode cX12_count 2 = .ok (.iload_n 1, 1) := by decide +kernel
theorem dX12_count_3 : decode cX12_count 3 = .ok (.tableswitch 115 0 6 #[41, 73, 80, 87, 94, 105, 110], 41) := by decide +kernel
theorem dX12_count_44 : decode cX12_count 44 = .ok (.iconst 0, 1) := by decide +kernel
theorem dX12_count_45 : decode cX12_count 45 = .ok (.istore_n 3, 1) := by decide +kernel
theorem dX12_count_46 : decode cX12_count 46 = .ok (.iload_n 3, 1) := by decide +kernel
theorem dX12_count_47 : decode cX12_count 47 = .ok (.bipush 8, 2) := by decide +kernel
theorem dX12_count_49 : decode cX12_count 49 = .ok (.if_icmp .ge 25, 3) := by decide +kernel
theorem dX12_count_52 : decode cX12_count 52 = .ok (.iload_n 2, 1) := by decide +kernel
theorem dX12_count_53 : decode cX12_count 53 = .ok (.aload_n 0, 1) := by decide +kernel
theorem dX12_count_54 : decode cX12_count 54 = .ok (.iload_n 3, 1) := by decide +kernel
theorem dX12_count_55 : decode cX12_count 55 = .ok (.invokevirtual 69, 3) := by decide +kernel
theorem dX12_count_58 : decode cX12_count 58 = .ok (.ifCond .eq 7, 3) := by decide +kernel
theorem dX12_count_61 : decode cX12_count 61 = .ok (.iconst 0, 1) := by decide +kernel
theorem dX12_count_62 : decode cX12_count 62 = .ok (.goto 4, 3) := by decide +kernel
theorem dX12_count_65 : decode cX12_count 65 = .ok (.iconst 1, 1) := by decide +kernel
theorem dX12_count_66 : decode cX12_count 66 = .ok (.iadd, 1) := by decide +kernel
theorem dX12_count_67 : decode cX12_count 67 = .ok (.istore_n 2, 1) := by decide +kernel
theorem dX12_count_68 : decode cX12_count 68 = .ok (.iinc 3 1, 3) := by decide +kernel
theorem dX12_count_71 : decode cX12_count 71 = .ok (.goto (-25), 3) := by decide +kernel
theorem dX12_count_74 : decode cX12_count 74 = .ok (.iload_n 2, 1) := by decide +kernel
theorem dX12_count_75 : decode cX12_count 75 = .ok (.ireturn, 1) := by decide +kernel
theorem dX12_count_76 : decode cX12_count 76 = .ok (.aload_n 0, 1) := by decide +kernel
theorem dX12_count_77 : decode cX12_count 77 = .ok (.getfield 25, 3) := by decide +kernel
theorem dX12_count_80 : decode cX12_count 80 = .ok (.iconst 4, 1) := by decide +kernel
theorem dX12_count_81 : decode cX12_count 81 = .ok (.iaload, 1) := by decide +kernel
theorem dX12_count_82 : decode cX12_count 82 = .ok (.ireturn, 1) := by decide +kernel
theorem dX12_count_83 : decode cX12_count 83 = .ok (.aload_n 0, 1) := by decide +kernel
theorem dX12_count_84 : decode cX12_count 84 = .ok (.getfield 25, 3) := by decide +kernel
theorem dX12_count_87 : decode cX12_count 87 = .ok (.iconst 2, 1) := by decide +kernel
theorem dX12_count_88 : decode cX12_count 88 = .ok (.iaload, 1) := by decide +kernel
theorem dX12_count_89 : decode cX12_count 89 = .ok (.ireturn, 1) := by decide +kernel
theorem dX12_count_90 : decode cX12_count 90 = .ok (.aload_n 0, 1) := by decide +kernel
theorem dX12_count_91 : decode cX12_count 91 = .ok (.getfield 25, 3) := by decide +kernel
theorem dX12_count_94 : decode cX12_count 94 = .ok (.iconst 0, 1) := by decide +kernel
theorem dX12_count_95 : decode cX12_count 95 = .ok (.iaload, 1) := by decide +kernel
theorem dX12_count_96 : decode cX12_count 96 = .ok (.ireturn, 1) := by decide +kernel
theorem dX12_count_97 : decode cX12_count 97 = .ok (.aload_n 0, 1) := by decide +kernel
theorem dX12_count_98 : decode cX12_count 98 = .ok (.getfield 25, 3) := by decide +kernel
theorem dX12_count_101 : decode cX12_count 101 = .ok (.invokestatic 171, 3) := by decide +kernel
theorem dX12_count_104 : decode cX12_count 104 = .ok (.invokestatic 191, 3) := by decide +kernel
theorem dX12_count_107 : decode cX12_count 107 = .ok (.ireturn, 1) := by decide +kernel
theorem dX12_count_108 : decode cX12_count 108 = .ok (.aload_n 0, 1) := by decide +kernel
theorem dX12_count_109 : decode cX12_count 109 = .ok (.getfield 132, 3) := by decide +kernel
theorem dX12_count_112 : decode cX12_count 112 = .ok (.ireturn, 1) := by decide +kernel
theorem dX12_count_113 : decode cX12_count 113 = .ok (.aload_n 0, 1) := by decide +kernel
theorem dX12_count_114 : decode cX12_count 114 = .ok (.getfield 79, 3) := by decide +kernel
theorem dX12_count_117 : decode cX12_count 117 = .ok (.ireturn, 1) := by decide +kernel
theorem dX12_count_118 : decode cX12_count 118 = .ok (.ldc 61, 2) := by decide +kernel
theorem dX12_count_120 : decode cX12_count 120 = .ok (.ireturn, 1) := by decide +kernel
theorem dX12_status_0 : decode cX12_status 0 = .ok (.aload_n 0, 1) := by decide +kernel
theorem dX12_status_1 : decode cX12_status 1 = .ok (.getfield 48, 3) := by decide +kernel
theorem dX12_status_4 : decode cX12_status 4 = .ok (.ireturn, 1) := by decide +kernel
theorem dJ6_compare_7cf53_0 : decode cJ6_compare_7cf53 0 = .ok (.iload_n 0, 1) := by decide +kernel
theorem dJ6_compare_7cf53_1 : decode cJ6_compare_7cf53 1 = .ok (.iload_n 1, 1) := by decide +kernel
theorem dJ6_compare_7cf53_2 : decode cJ6_compare_7cf53 2 = .ok (.if_icmp .ge 7, 3) := by decide +kernel
theorem dJ6_compare_7cf53_5 : decode cJ6_compare_7cf53 5 = .ok (.iconst (-1), 1) := by decide +kernel
theorem dJ6_compare_7cf53_6 : decode cJ6_compare_7cf53 6 = .ok (.goto 13, 3) := by decide +kernel
theorem dJ6_compare_7cf53_9 : decode cJ6_compare_7cf53 9 = .ok (.iload_n 0, 1) := by decide +kernel
theorem dJ6_compare_7cf53_10 : decode cJ6_compare_7cf53 10 = .ok (.iload_n 1, 1) := by decide +kernel
theorem dJ6_compare_7cf53_11 : decode cJ6_compare_7cf53 11 = .ok (.if_icmp .ne 7, 3) := by decide +kernel
theorem dJ6_compare_7cf53_14 : decode cJ6_compare_7cf53 14 = .ok (.iconst 0, 1) := by decide +kernel
theorem dJ6_compare_7cf53_15 : decode cJ6_compare_7cf53 15 = .ok (.goto 4, 3) := by decide +kernel
theorem dJ6_compare_7cf53_18 : decode cJ6_compare_7cf53 18 = .ok (.iconst 1, 1) := by decide +kernel
theorem dJ6_compare_7cf53_19 : decode cJ6_compare_7cf53 19 = .ok (.ireturn, 1) := by decide +kernel
theorem dJ6_bitCount_0f7a4_0 : decode cJ6_bitCount_0f7a4 0 = .ok (.iload_n 0, 1) := by decide +kernel
theorem dJ6_bitCount_0f7a4_1 : decode cJ6_bitCount_0f7a4 1 = .ok (.iload_n 0, 1) := by decide +kernel
theorem dJ6_bitCount_0f7a4_2 : decode cJ6_bitCount_0f7a4 2 = .ok (.iconst 1, 1) := by decide +kernel
theorem dJ6_bitCount_0f7a4_3 : decode cJ6_bitCount_0f7a4 3 = .ok (.iushr, 1) := by decide +kernel
theorem dJ6_bitCount_0f7a4_4 : decode cJ6_bitCount_0f7a4 4 = .ok (.ldc_w 265, 3) := by decide +kernel
theorem dJ6_bitCount_0f7a4_7 : decode cJ6_bitCount_0f7a4 7 = .ok (.iand, 1) := by decide +kernel
theorem dJ6_bitCount_0f7a4_8 : decode cJ6_bitCount_0f7a4 8 = .ok (.isub, 1) := by decide +kernel
theorem dJ6_bitCount_0f7a4_9 : decode cJ6_bitCount_0f7a4 9 = .ok (.istore_n 0, 1) := by decide +kernel
theorem dJ6_bitCount_0f7a4_10 : decode cJ6_bitCount_0f7a4 10 = .ok (.iload_n 0, 1) := by decide +kernel
theorem dJ6_bitCount_0f7a4_11 : decode cJ6_bitCount_0f7a4 11 = .ok (.ldc_w 266, 3) := by decide +kernel
theorem dJ6_bitCount_0f7a4_14 : decode cJ6_bitCount_0f7a4 14 = .ok (.iand, 1) := by decide +kernel
theorem dJ6_bitCount_0f7a4_15 : decode cJ6_bitCount_0f7a4 15 = .ok (.iload_n 0, 1) := by decide +kernel
theorem dJ6_bitCount_0f7a4_16 : decode cJ6_bitCount_0f7a4 16 = .ok (.iconst 2, 1) := by decide +kernel
theorem dJ6_bitCount_0f7a4_17 : decode cJ6_bitCount_0f7a4 17 = .ok (.iushr, 1) := by decide +kernel
theorem dJ6_bitCount_0f7a4_18 : decode cJ6_bitCount_0f7a4 18 = .ok (.ldc_w 266, 3) := by decide +kernel
theorem dJ6_bitCount_0f7a4_21 : decode cJ6_bitCount_0f7a4 21 = .ok (.iand, 1) := by decide +kernel
theorem dJ6_bitCount_0f7a4_22 : decode cJ6_bitCount_0f7a4 22 = .ok (.iadd, 1) := by decide +kernel
theorem dJ6_bitCount_0f7a4_23 : decode cJ6_bitCount_0f7a4 23 = .ok (.istore_n 0, 1) := by decide +kernel
theorem dJ6_bitCount_0f7a4_24 : decode cJ6_bitCount_0f7a4 24 = .ok (.iload_n 0, 1) := by decide +kernel
theorem dJ6_bitCount_0f7a4_25 : decode cJ6_bitCount_0f7a4 25 = .ok (.iload_n 0, 1) := by decide +kernel
theorem dJ6_bitCount_0f7a4_26 : decode cJ6_bitCount_0f7a4 26 = .ok (.iconst 4, 1) := by decide +kernel
theorem dJ6_bitCount_0f7a4_27 : decode cJ6_bitCount_0f7a4 27 = .ok (.iushr, 1) := by decide +kernel
theorem dJ6_bitCount_0f7a4_28 : decode cJ6_bitCount_0f7a4 28 = .ok (.iadd, 1) := by decide +kernel
theorem dJ6_bitCount_0f7a4_29 : decode cJ6_bitCount_0f7a4 29 = .ok (.ldc_w 267, 3) := by decide +kernel
theorem dJ6_bitCount_0f7a4_32 : decode cJ6_bitCount_0f7a4 32 = .ok (.iand, 1) := by decide +kernel
theorem dJ6_bitCount_0f7a4_33 : decode cJ6_bitCount_0f7a4 33 = .ok (.istore_n 0, 1) := by decide +kernel
theorem dJ6_bitCount_0f7a4_34 : decode cJ6_bitCount_0f7a4 34 = .ok (.iload_n 0, 1) := by decide +kernel
theorem dJ6_bitCount_0f7a4_35 : decode cJ6_bitCount_0f7a4 35 = .ok (.iload_n 0, 1) := by decide +kernel
theorem dJ6_bitCount_0f7a4_36 : decode cJ6_bitCount_0f7a4 36 = .ok (.bipush 8, 2) := by decide +kernel
theorem dJ6_bitCount_0f7a4_38 : decode cJ6_bitCount_0f7a4 38 = .ok (.iushr, 1) := by decide +kernel
theorem dJ6_bitCount_0f7a4_39 : decode cJ6_bitCount_0f7a4 39 = .ok (.iadd, 1) := by decide +kernel
theorem dJ6_bitCount_0f7a4_40 : decode cJ6_bitCount_0f7a4 40 = .ok (.istore_n 0, 1) := by decide +kernel
theorem dJ6_bitCount_0f7a4_41 : decode cJ6_bitCount_0f7a4 41 = .ok (.iload_n 0, 1) := by decide +kernel
theorem dJ6_bitCount_0f7a4_42 : decode cJ6_bitCount_0f7a4 42 = .ok (.iload_n 0, 1) := by decide +kernel
theorem dJ6_bitCount_0f7a4_43 : decode cJ6_bitCount_0f7a4 43 = .ok (.bipush 16, 2) := by decide +kernel
theorem dJ6_bitCount_0f7a4_45 : decode cJ6_bitCount_0f7a4 45 = .ok (.iushr, 1) := by decide +kernel
theorem dJ6_bitCount_0f7a4_46 : decode cJ6_bitCount_0f7a4 46 = .ok (.iadd, 1) := by decide +kernel
theorem dJ6_bitCount_0f7a4_47 : decode cJ6_bitCount_0f7a4 47 = .ok (.istore_n 0, 1) := by decide +kernel
theorem dJ6_bitCount_0f7a4_48 : decode cJ6_bitCount_0f7a4 48 = .ok (.iload_n 0, 1) := by decide +kernel
theorem dJ6_bitCount_0f7a4_49 : decode cJ6_bitCount_0f7a4 49 = .ok (.bipush 63, 2) := by decide +kernel
theorem dJ6_bitCount_0f7a4_51 : decode cJ6_bitCount_0f7a4 51 = .ok (.iand, 1) := by decide +kernel
theorem dJ6_bitCount_0f7a4_52 : decode cJ6_bitCount_0f7a4 52 = .ok (.ireturn, 1) := by decide +kernel
theorem dJ9_max_7cf53_0 : decode cJ9_max_7cf53 0 = .ok (.iload_n 0, 1) := by decide +kernel
theorem dJ9_max_7cf53_1 : decode cJ9_max_7cf53 1 = .ok (.iload_n 1, 1) := by decide +kernel
theorem dJ9_max_7cf53_2 : decode cJ9_max_7cf53 2 = .ok (.if_icmp .lt 7, 3) := by decide +kernel
theorem dJ9_max_7cf53_5 : decode cJ9_max_7cf53 5 = .ok (.iload_n 0, 1) := by decide +kernel
theorem dJ9_max_7cf53_6 : decode cJ9_max_7cf53 6 = .ok (.goto 4, 3) := by decide +kernel
theorem dJ9_max_7cf53_9 : decode cJ9_max_7cf53 9 = .ok (.iload_n 1, 1) := by decide +kernel
theorem dJ9_max_7cf53_10 : decode cJ9_max_7cf53 10 = .ok (.ireturn, 1) := by decide +kernel
theorem dJ9_min_7cf53_0 : decode cJ9_min_7cf53 0 = .ok (.iload_n 0, 1) := by decide +kernel
theorem dJ9_min_7cf53_1 : decode cJ9_min_7cf53 1 = .ok (.iload_n 1, 1) := by decide +kernel
theorem dJ9_min_7cf53_2 : decode cJ9_min_7cf53 2 = .ok (.if_icmp .gt 7, 3) := by decide +kernel
theorem dJ9_min_7cf53_5 : decode cJ9_min_7cf53 5 = .ok (.iload_n 0, 1) := by decide +kernel
theorem dJ9_min_7cf53_6 : decode cJ9_min_7cf53 6 = .ok (.goto 4, 3) := by decide +kernel
theorem dJ9_min_7cf53_9 : decode cJ9_min_7cf53 9 = .ok (.iload_n 1, 1) := by decide +kernel
theorem dJ9_min_7cf53_10 : decode cJ9_min_7cf53 10 = .ok (.ireturn, 1) := by decide +kernel
theorem dL_law_0 : decode cL_law 0 = .ok (.new 7, 3) := by decide +kernel
theorem dL_law_3 : decode cL_law 3 = .ok (.dup, 1) := by decide +kernel
theorem dL_law_4 : decode cL_law 4 = .ok (.invokespecial 9, 3) := by decide +kernel
theorem dL_law_7 : decode cL_law 7 = .ok (.astore_n 1, 1) := by decide +kernel
theorem dL_law_8 : decode cL_law 8 = .ok (.new 10, 3) := by decide +kernel
theorem dL_law_11 : decode cL_law 11 = .ok (.dup, 1) := by decide +kernel
theorem dL_law_12 : decode cL_law 12 = .ok (.invokespecial 12, 3) := by decide +kernel
theorem dL_law_15 : decode cL_law 15 = .ok (.astore_n 2, 1) := by decide +kernel
theorem dL_law_16 : decode cL_law 16 = .ok (.iconst 0, 1) := by decide +kernel
theorem dL_law_17 : decode cL_law 17 = .ok (.istore_n 3, 1) := by decide +kernel
theorem dL_law_18 : decode cL_law 18 = .ok (.iload_n 3, 1) := by decide +kernel
theorem dL_law_19 : decode cL_law 19 = .ok (.aload_n 0, 1) := by decide +kernel
theorem dL_law_20 : decode cL_law 20 = .ok (.arraylength, 1) := by decide +kernel
theorem dL_law_21 : decode cL_law 21 = .ok (.bipush 6, 2) := by decide +kernel
theorem dL_law_23 : decode cL_law 23 = .ok (.isub, 1) := by decide +kernel
theorem dL_law_24 : decode cL_law 24 = .ok (.if_icmp .gt 1104, 3) := by decide +kernel
theorem dL_law_27 : decode cL_law 27 = .ok (.aload_n 0, 1) := by decide +kernel
theorem dL_law_28 : decode cL_law 28 = .ok (.iload_n 3, 1) := by decide +kernel
theorem dL_law_29 : decode cL_law 29 = .ok (.iaload, 1) := by decide +kernel
theorem dL_law_30 : decode cL_law 30 = .ok (.bipush 31, 2) := by decide +kernel
theorem dL_law_32 : decode cL_law 32 = .ok (.iand, 1) := by decide +kernel
theorem dL_law_33 : decode cL_law 33 = .ok (.tableswitch 1089 0 31 #[143, 186, 229, 292, 315, 338, 351, 364, 387, 420, 453, 466, 499, 532, 555, 588, 611, 634, 647, 680, 703, 736, 799, 852, 895, 918, 941, 964, 997, 1030, 1053, 1076], 143) := by decide +kernel
theorem dL_law_176 : decode cL_law 176 = .ok (.aload_n 1, 1) := by decide +kernel
theorem dL_law_177 : decode cL_law 177 = .ok (.aload_n 0, 1) := by decide +kernel
theorem dL_law_178 : decode cL_law 178 = .ok (.iload_n 3, 1) := by decide +kernel
theorem dL_law_179 : decode cL_law 179 = .ok (.iconst 1, 1) := by decide +kernel
theorem dL_law_180 : decode cL_law 180 = .ok (.iadd, 1) := by decide +kernel
theorem dL_law_181 : decode cL_law 181 = .ok (.iaload, 1) := by decide +kernel
theorem dL_law_182 : decode cL_law 182 = .ok (.aload_n 0, 1) := by decide +kernel
theorem dL_law_183 : decode cL_law 183 = .ok (.iload_n 3, 1) := by decide +kernel
theorem dL_law_184 : decode cL_law 184 = .ok (.iconst 2, 1) := by decide +kernel
theorem dL_law_185 : decode cL_law 185 = .ok (.iadd, 1) := by decide +kernel
theorem dL_law_186 : decode cL_law 186 = .ok (.iaload, 1) := by decide +kernel
theorem dL_law_187 : decode cL_law 187 = .ok (.aload_n 0, 1) := by decide +kernel
theorem dL_law_188 : decode cL_law 188 = .ok (.iload_n 3, 1) := by decide +kernel
theorem dL_law_189 : decode cL_law 189 = .ok (.iconst 3, 1) := by decide +kernel
theorem dL_law_190 : decode cL_law 190 = .ok (.iadd, 1) := by decide +kernel
theorem dL_law_191 : decode cL_law 191 = .ok (.iaload, 1) := by decide +kernel
theorem dL_law_192 : decode cL_law 192 = .ok (.invokevirtual 13, 3) := by decide +kernel
theorem dL_law_195 : decode cL_law 195 = .ok (.aload_n 2, 1) := by decide +kernel
theorem dL_law_196 : decode cL_law 196 = .ok (.aload_n 0, 1) := by decide +kernel
theorem dL_law_197 : decode cL_law 197 = .ok (.iload_n 3, 1) := by decide +kernel
theorem dL_law_198 : decode cL_law 198 = .ok (.iconst 1, 1) := by decide +kernel
theorem dL_law_199 : decode cL_law 199 = .ok (.iadd, 1) := by decide +kernel
theorem dL_law_200 : decode cL_law 200 = .ok (.iaload, 1) := by decide +kernel
theorem dL_law_201 : decode cL_law 201 = .ok (.aload_n 0, 1) := by decide +kernel
theorem dL_law_202 : decode cL_law 202 = .ok (.iload_n 3, 1) := by decide +kernel
theorem dL_law_203 : decode cL_law 203 = .ok (.iconst 2, 1) := by decide +kernel
theorem dL_law_204 : decode cL_law 204 = .ok (.iadd, 1) := by decide +kernel
theorem dL_law_205 : decode cL_law 205 = .ok (.iaload, 1) := by decide +kernel
theorem dL_law_206 : decode cL_law 206 = .ok (.aload_n 0, 1) := by decide +kernel
theorem dL_law_207 : decode cL_law 207 = .ok (.iload_n 3, 1) := by decide +kernel
theorem dL_law_208 : decode cL_law 208 = .ok (.iconst 3, 1) := by decide +kernel
theorem dL_law_209 : decode cL_law 209 = .ok (.iadd, 1) := by decide +kernel
theorem dL_law_210 : decode cL_law 210 = .ok (.iaload, 1) := by decide +kernel
theorem dL_law_211 : decode cL_law 211 = .ok (.invokevirtual 17, 3) := by decide +kernel
theorem dL_law_214 : decode cL_law 214 = .ok (.if_icmp .eq 908, 3) := by decide +kernel
theorem dL_law_217 : decode cL_law 217 = .ok (.iconst 0, 1) := by decide +kernel
theorem dL_law_218 : decode cL_law 218 = .ok (.ireturn, 1) := by decide +kernel
theorem dL_law_219 : decode cL_law 219 = .ok (.aload_n 1, 1) := by decide +kernel
theorem dL_law_220 : decode cL_law 220 = .ok (.aload_n 0, 1) := by decide +kernel
theorem dL_law_221 : decode cL_law 221 = .ok (.iload_n 3, 1) := by decide +kernel
theorem dL_law_222 : decode cL_law 222 = .ok (.iconst 1, 1) := by decide +kernel
theorem dL_law_223 : decode cL_law 223 = .ok (.iadd, 1) := by decide +kernel
theorem dL_law_224 : decode cL_law 224 = .ok (.iaload, 1) := by decide +kernel
theorem dL_law_225 : decode cL_law 225 = .ok (.aload_n 0, 1) := by decide +kernel
theorem dL_law_226 : decode cL_law 226 = .ok (.iload_n 3, 1) := by decide +kernel
theorem dL_law_227 : decode cL_law 227 = .ok (.iconst 2, 1) := by decide +kernel
theorem dL_law_228 : decode cL_law 228 = .ok (.iadd, 1) := by decide +kernel
theorem dL_law_229 : decode cL_law 229 = .ok (.iaload, 1) := by decide +kernel
theorem dL_law_230 : decode cL_law 230 = .ok (.aload_n 0, 1) := by decide +kernel
theorem dL_law_231 : decode cL_law 231 = .ok (.iload_n 3, 1) := by decide +kernel
theorem dL_law_232 : decode cL_law 232 = .ok (.iconst 3, 1) := by decide +kernel
theorem dL_law_233 : decode cL_law 233 = .ok (.iadd, 1) := by decide +kernel
theorem dL_law_234 : decode cL_law 234 = .ok (.iaload, 1) := by decide +kernel
theorem dL_law_235 : decode cL_law 235 = .ok (.invokevirtual 18, 3) := by decide +kernel
theorem dL_law_238 : decode cL_law 238 = .ok (.aload_n 2, 1) := by decide +kernel
theorem dL_law_239 : decode cL_law 239 = .ok (.aload_n 0, 1) := by decide +kernel
theorem dL_law_240 : decode cL_law 240 = .ok (.iload_n 3, 1) := by decide +kernel
theorem dL_law_241 : decode cL_law 241 = .ok (.iconst 1, 1) := by decide +kernel
theorem dL_law_242 : decode cL_law 242 = .ok (.iadd, 1) := by decide +kernel
theorem dL_law_243 : decode cL_law 243 = .ok (.iaload, 1) := by decide +kernel
theorem dL_law_244 : decode cL_law 244 = .ok (.aload_n 0, 1) := by decide +kernel
theorem dL_law_245 : decode cL_law 245 = .ok (.iload_n 3, 1) := by decide +kernel
theorem dL_law_246 : decode cL_law 246 = .ok (.iconst 2, 1) := by decide +kernel
theorem dL_law_247 : decode cL_law 247 = .ok (.iadd, 1) := by decide +kernel
theorem dL_law_248 : decode cL_law 248 = .ok (.iaload, 1) := by decide +kernel
theorem dL_law_249 : decode cL_law 249 = .ok (.aload_n 0, 1) := by decide +kernel
theorem dL_law_250 : decode cL_law 250 = .ok (.iload_n 3, 1) := by decide +kernel
theorem dL_law_251 : decode cL_law 251 = .ok (.iconst 3, 1) := by decide +kernel
theorem dL_law_252 : decode cL_law 252 = .ok (.iadd, 1) := by decide +kernel
theorem dL_law_253 : decode cL_law 253 = .ok (.iaload, 1) := by decide +kernel
theorem dL_law_254 : decode cL_law 254 = .ok (.invokevirtual 21, 3) := by decide +kernel
theorem dL_law_257 : decode cL_law 257 = .ok (.if_icmp .eq 865, 3) := by decide +kernel
theorem dL_law_260 : decode cL_law 260 = .ok (.iconst 0, 1) := by decide +kernel
theorem dL_law_261 : decode cL_law 261 = .ok (.ireturn, 1) := by decide +kernel
theorem dL_law_262 : decode cL_law 262 = .ok (.aload_n 1, 1) := by decide +kernel
theorem dL_law_263 : decode cL_law 263 = .ok (.aload_n 0, 1) := by decide +kernel
theorem dL_law_264 : decode cL_law 264 = .ok (.iload_n 3, 1) := by decide +kernel
theorem dL_law_265 : decode cL_law 265 = .ok (.iconst 1, 1) := by decide +kernel
theorem dL_law_266 : decode cL_law 266 = .ok (.iadd, 1) := by decide +kernel
theorem dL_law_267 : decode cL_law 267 = .ok (.iaload, 1) := by decide +kernel
theorem dL_law_268 : decode cL_law 268 = .ok (.aload_n 0, 1) := by decide +kernel
theorem dL_law_269 : decode cL_law 269 = .ok (.iload_n 3, 1) := by decide +kernel
theorem dL_law_270 : decode cL_law 270 = .ok (.iconst 2, 1) := by decide +kernel
theorem dL_law_271 : decode cL_law 271 = .ok (.iadd, 1) := by decide +kernel
theorem dL_law_272 : decode cL_law 272 = .ok (.iaload, 1) := by decide +kernel
theorem dL_law_273 : decode cL_law 273 = .ok (.aload_n 0, 1) := by decide +kernel
theorem dL_law_274 : decode cL_law 274 = .ok (.iload_n 3, 1) := by decide +kernel
theorem dL_law_275 : decode cL_law 275 = .ok (.iconst 3, 1) := by decide +kernel
theorem dL_law_276 : decode cL_law 276 = .ok (.iadd, 1) := by decide +kernel
theorem dL_law_277 : decode cL_law 277 = .ok (.iaload, 1) := by decide +kernel
theorem dL_law_278 : decode cL_law 278 = .ok (.aload_n 0, 1) := by decide +kernel
theorem dL_law_279 : decode cL_law 279 = .ok (.iload_n 3, 1) := by decide +kernel
theorem dL_law_280 : decode cL_law 280 = .ok (.iconst 4, 1) := by decide +kernel
theorem dL_law_281 : decode cL_law 281 = .ok (.iadd, 1) := by decide +kernel
theorem dL_law_282 : decode cL_law 282 = .ok (.iaload, 1) := by decide +kernel
theorem dL_law_283 : decode cL_law 283 = .ok (.aload_n 0, 1) := by decide +kernel
theorem dL_law_284 : decode cL_law 284 = .ok (.iload_n 3, 1) := by decide +kernel
theorem dL_law_285 : decode cL_law 285 = .ok (.iconst 5, 1) := by decide +kernel
theorem dL_law_286 : decode cL_law 286 = .ok (.iadd, 1) := by decide +kernel
theorem dL_law_287 : decode cL_law 287 = .ok (.iaload, 1) := by decide +kernel
theorem dL_law_288 : decode cL_law 288 = .ok (.invokevirtual 22, 3) := by decide +kernel
theorem dL_law_291 : decode cL_law 291 = .ok (.aload_n 2, 1) := by decide +kernel
theorem dL_law_292 : decode cL_law 292 = .ok (.aload_n 0, 1) := by decide +kernel
theorem dL_law_293 : decode cL_law 293 = .ok (.iload_n 3, 1) := by decide +kernel
theorem dL_law_294 : decode cL_law 294 = .ok (.iconst 1, 1) := by decide +kernel
theorem dL_law_295 : decode cL_law 295 = .ok (.iadd, 1) := by decide +kernel
theorem dL_law_296 : decode cL_law 296 = .ok (.iaload, 1) := by decide +kernel
theorem dL_law_297 : decode cL_law 297 = .ok (.aload_n 0, 1) := by decide +kernel
theorem dL_law_298 : decode cL_law 298 = .ok (.iload_n 3, 1) := by decide +kernel
theorem dL_law_299 : decode cL_law 299 = .ok (.iconst 2, 1) := by decide +kernel
theorem dL_law_300 : decode cL_law 300 = .ok (.iadd, 1) := by decide +kernel
theorem dL_law_301 : decode cL_law 301 = .ok (.iaload, 1) := by decide +kernel
theorem dL_law_302 : decode cL_law 302 = .ok (.aload_n 0, 1) := by decide +kernel
theorem dL_law_303 : decode cL_law 303 = .ok (.iload_n 3, 1) := by decide +kernel
theorem dL_law_304 : decode cL_law 304 = .ok (.iconst 3, 1) := by decide +kernel
theorem dL_law_305 : decode cL_law 305 = .ok (.iadd, 1) := by decide +kernel
theorem dL_law_306 : decode cL_law 306 = .ok (.iaload, 1) := by decide +kernel
theorem dL_law_307 : decode cL_law 307 = .ok (.aload_n 0, 1) := by decide +kernel
theorem dL_law_308 : decode cL_law 308 = .ok (.iload_n 3, 1) := by decide +kernel
theorem dL_law_309 : decode cL_law 309 = .ok (.iconst 4, 1) := by decide +kernel
theorem dL_law_310 : decode cL_law 310 = .ok (.iadd, 1) := by decide +kernel
theorem dL_law_311 : decode cL_law 311 = .ok (.iaload, 1) := by decide +kernel
theorem dL_law_312 : decode cL_law 312 = .ok (.aload_n 0, 1) := by decide +kernel
theorem dL_law_313 : decode cL_law 313 = .ok (.iload_n 3, 1) := by decide +kernel
theorem dL_law_314 : decode cL_law 314 = .ok (.iconst 5, 1) := by decide +kernel
theorem dL_law_315 : decode cL_law 315 = .ok (.iadd, 1) := by decide +kernel
theorem dL_law_316 : decode cL_law 316 = .ok (.iaload, 1) := by decide +kernel
theorem dL_law_317 : decode cL_law 317 = .ok (.invokevirtual 26, 3) := by decide +kernel
theorem dL_law_320 : decode cL_law 320 = .ok (.if_icmp .eq 802, 3) := by decide +kernel
theorem dL_law_323 : decode cL_law 323 = .ok (.iconst 0, 1) := by decide +kernel
theorem dL_law_324 : decode cL_law 324 = .ok (.ireturn, 1) := by decide +kernel
theorem dL_law_325 : decode cL_law 325 = .ok (.aload_n 1, 1) := by decide +kernel
theorem dL_law_326 : decode cL_law 326 = .ok (.aload_n 0, 1) := by decide +kernel
theorem dL_law_327 : decode cL_law 327 = .ok (.iload_n 3, 1) := by decide +kernel
theorem dL_law_328 : decode cL_law 328 = .ok (.iconst 1, 1) := by decide +kernel
theorem dL_law_329 : decode cL_law 329 = .ok (.iadd, 1) := by decide +kernel
theorem dL_law_330 : decode cL_law 330 = .ok (.iaload, 1) := by decide +kernel
theorem dL_law_331 : decode cL_law 331 = .ok (.invokevirtual 27, 3) := by decide +kernel
theorem dL_law_334 : decode cL_law 334 = .ok (.aload_n 2, 1) := by decide +kernel
theorem dL_law_335 : decode cL_law 335 = .ok (.aload_n 0, 1) := by decide +kernel
theorem dL_law_336 : decode cL_law 336 = .ok (.iload_n 3, 1) := by decide +kernel
theorem dL_law_337 : decode cL_law 337 = .ok (.iconst 1, 1) := by decide +kernel
theorem dL_law_338 : decode cL_law 338 = .ok (.iadd, 1) := by decide +kernel
theorem dL_law_339 : decode cL_law 339 = .ok (.iaload, 1) := by decide +kernel
theorem dL_law_340 : decode cL_law 340 = .ok (.invokevirtual 31, 3) := by decide +kernel
theorem dL_law_343 : decode cL_law 343 = .ok (.if_icmp .eq 779, 3) := by decide +kernel
theorem dL_law_346 : decode cL_law 346 = .ok (.iconst 0, 1) := by decide +kernel
theorem dL_law_347 : decode cL_law 347 = .ok (.ireturn, 1) := by decide +kernel
theorem dL_law_348 : decode cL_law 348 = .ok (.aload_n 1, 1) := by decide +kernel
theorem dL_law_349 : decode cL_law 349 = .ok (.aload_n 0, 1) := by decide +kernel
theorem dL_law_350 : decode cL_law 350 = .ok (.iload_n 3, 1) := by decide +kernel
theorem dL_law_351 : decode cL_law 351 = .ok (.iconst 1, 1) := by decide +kernel
theorem dL_law_352 : decode cL_law 352 = .ok (.iadd, 1) := by decide +kernel
theorem dL_law_353 : decode cL_law 353 = .ok (.iaload, 1) := by decide +kernel
theorem dL_law_354 : decode cL_law 354 = .ok (.invokevirtual 32, 3) := by decide +kernel
theorem dL_law_357 : decode cL_law 357 = .ok (.aload_n 2, 1) := by decide +kernel
theorem dL_law_358 : decode cL_law 358 = .ok (.aload_n 0, 1) := by decide +kernel
theorem dL_law_359 : decode cL_law 359 = .ok (.iload_n 3, 1) := by decide +kernel
theorem dL_law_360 : decode cL_law 360 = .ok (.iconst 1, 1) := by decide +kernel
theorem dL_law_361 : decode cL_law 361 = .ok (.iadd, 1) := by decide +kernel
theorem dL_law_362 : decode cL_law 362 = .ok (.iaload, 1) := by decide +kernel
theorem dL_law_363 : decode cL_law 363 = .ok (.invokevirtual 35, 3) := by decide +kernel
theorem dL_law_366 : decode cL_law 366 = .ok (.if_icmp .eq 756, 3) := by decide +kernel
theorem dL_law_369 : decode cL_law 369 = .ok (.iconst 0, 1) := by decide +kernel
theorem dL_law_370 : decode cL_law 370 = .ok (.ireturn, 1) := by decide +kernel
theorem dL_law_371 : decode cL_law 371 = .ok (.aload_n 1, 1) := by decide +kernel
theorem dL_law_372 : decode cL_law 372 = .ok (.invokevirtual 36, 3) := by decide +kernel
theorem dL_law_375 : decode cL_law 375 = .ok (.aload_n 2, 1) := by decide +kernel
theorem dL_law_376 : decode cL_law 376 = .ok (.invokevirtual 40, 3) := by decide +kernel
theorem dL_law_379 : decode cL_law 379 = .ok (.if_icmp .eq 743, 3) := by decide +kernel
theorem dL_law_382 : decode cL_law 382 = .ok (.iconst 0, 1) := by decide +kernel
theorem dL_law_383 : decode cL_law 383 = .ok (.ireturn, 1) := by decide +kernel
theorem dL_law_384 : decode cL_law 384 = .ok (.aload_n 1, 1) := by decide +kernel
theorem dL_law_385 : decode cL_law 385 = .ok (.invokevirtual 41, 3) := by decide +kernel
theorem dL_law_388 : decode cL_law 388 = .ok (.aload_n 2, 1) := by decide +kernel
theorem dL_law_389 : decode cL_law 389 = .ok (.invokevirtual 44, 3) := by decide +kernel
theorem dL_law_392 : decode cL_law 392 = .ok (.if_icmp .eq 730, 3) := by decide +kernel
theorem dL_law_395 : decode cL_law 395 = .ok (.iconst 0, 1) := by decide +kernel
theorem dL_law_396 : decode cL_law 396 = .ok (.ireturn, 1) := by decide +kernel
theorem dL_law_397 : decode cL_law 397 = .ok (.aload_n 1, 1) := by decide +kernel
theorem dL_law_398 : decode cL_law 398 = .ok (.aload_n 0, 1) := by decide +kernel
theorem dL_law_399 : decode cL_law 399 = .ok (.iload_n 3, 1) := by decide +kernel
theorem dL_law_400 : decode cL_law 400 = .ok (.iconst 1, 1) := by decide +kernel
theorem dL_law_401 : decode cL_law 401 = .ok (.iadd, 1) := by decide +kernel
theorem dL_law_402 : decode cL_law 402 = .ok (.iaload, 1) := by decide +kernel
theorem dL_law_403 : decode cL_law 403 = .ok (.invokevirtual 45, 3) := by decide +kernel
theorem dL_law_406 : decode cL_law 406 = .ok (.aload_n 2, 1) := by decide +kernel
theorem dL_law_407 : decode cL_law 407 = .ok (.aload_n 0, 1) := by decide +kernel
theorem dL_law_408 : decode cL_law 408 = .ok (.iload_n 3, 1) := by decide +kernel
theorem dL_law_409 : decode cL_law 409 = .ok (.iconst 1, 1) := by decide +kernel
theorem dL_law_410 : decode cL_law 410 = .ok (.iadd, 1) := by decide +kernel
theorem dL_law_411 : decode cL_law 411 = .ok (.iaload, 1) := by decide +kernel
theorem dL_law_412 : decode cL_law 412 = .ok (.invokevirtual 48, 3) := by decide +kernel
theorem dL_law_415 : decode cL_law 415 = .ok (.if_icmp .eq 707, 3) := by decide +kernel
theorem dL_law_418 : decode cL_law 418 = .ok (.iconst 0, 1) := by decide +kernel
theorem dL_law_419 : decode cL_law 419 = .ok (.ireturn, 1) := by decide +kernel
theorem dL_law_420 : decode cL_law 420 = .ok (.aload_n 1, 1) := by decide +kernel
theorem dL_law_421 : decode cL_law 421 = .ok (.aload_n 0, 1) := by decide +kernel
theorem dL_law_422 : decode cL_law 422 = .ok (.iload_n 3, 1) := by decide +kernel
theorem dL_law_423 : decode cL_law 423 = .ok (.iconst 1, 1) := by decide +kernel
theorem dL_law_424 : decode cL_law 424 = .ok (.iadd, 1) := by decide +kernel
theorem dL_law_425 : decode cL_law 425 = .ok (.iaload, 1) := by decide +kernel
theorem dL_law_426 : decode cL_law 426 = .ok (.aload_n 0, 1) := by decide +kernel
theorem dL_law_427 : decode cL_law 427 = .ok (.iload_n 3, 1) := by decide +kernel
theorem dL_law_428 : decode cL_law 428 = .ok (.iconst 2, 1) := by decide +kernel
theorem dL_law_429 : decode cL_law 429 = .ok (.iadd, 1) := by decide +kernel
theorem dL_law_430 : decode cL_law 430 = .ok (.iaload, 1) := by decide +kernel
theorem dL_law_431 : decode cL_law 431 = .ok (.invokevirtual 49, 3) := by decide +kernel
theorem dL_law_434 : decode cL_law 434 = .ok (.aload_n 2, 1) := by decide +kernel
theorem dL_law_435 : decode cL_law 435 = .ok (.aload_n 0, 1) := by decide +kernel
theorem dL_law_436 : decode cL_law 436 = .ok (.iload_n 3, 1) := by decide +kernel
theorem dL_law_437 : decode cL_law 437 = .ok (.iconst 1, 1) := by decide +kernel
theorem dL_law_438 : decode cL_law 438 = .ok (.iadd, 1) := by decide +kernel
theorem dL_law_439 : decode cL_law 439 = .ok (.iaload, 1) := by decide +kernel
theorem dL_law_440 : decode cL_law 440 = .ok (.aload_n 0, 1) := by decide +kernel
theorem dL_law_441 : decode cL_law 441 = .ok (.iload_n 3, 1) := by decide +kernel
theorem dL_law_442 : decode cL_law 442 = .ok (.iconst 2, 1) := by decide +kernel
theorem dL_law_443 : decode cL_law 443 = .ok (.iadd, 1) := by decide +kernel
theorem dL_law_444 : decode cL_law 444 = .ok (.iaload, 1) := by decide +kernel
theorem dL_law_445 : decode cL_law 445 = .ok (.invokevirtual 53, 3) := by decide +kernel
theorem dL_law_448 : decode cL_law 448 = .ok (.if_icmp .eq 674, 3) := by decide +kernel
theorem dL_law_451 : decode cL_law 451 = .ok (.iconst 0, 1) := by decide +kernel
theorem dL_law_452 : decode cL_law 452 = .ok (.ireturn, 1) := by decide +kernel
theorem dL_law_453 : decode cL_law 453 = .ok (.aload_n 1, 1) := by decide +kernel
theorem dL_law_454 : decode cL_law 454 = .ok (.aload_n 0, 1) := by decide +kernel
theorem dL_law_455 : decode cL_law 455 = .ok (.iload_n 3, 1) := by decide +kernel
theorem dL_law_456 : decode cL_law 456 = .ok (.iconst 1, 1) := by decide +kernel
theorem dL_law_457 : decode cL_law 457 = .ok (.iadd, 1) := by decide +kernel
theorem dL_law_458 : decode cL_law 458 = .ok (.iaload, 1) := by decide +kernel
theorem dL_law_459 : decode cL_law 459 = .ok (.aload_n 0, 1) := by decide +kernel
theorem dL_law_460 : decode cL_law 460 = .ok (.iload_n 3, 1) := by decide +kernel
theorem dL_law_461 : decode cL_law 461 = .ok (.iconst 2, 1) := by decide +kernel
theorem dL_law_462 : decode cL_law 462 = .ok (.iadd, 1) := by decide +kernel
theorem dL_law_463 : decode cL_law 463 = .ok (.iaload, 1) := by decide +kernel
theorem dL_law_464 : decode cL_law 464 = .ok (.invokevirtual 54, 3) := by decide +kernel
theorem dL_law_467 : decode cL_law 467 = .ok (.aload_n 2, 1) := by decide +kernel
theorem dL_law_468 : decode cL_law 468 = .ok (.aload_n 0, 1) := by decide +kernel
theorem dL_law_469 : decode cL_law 469 = .ok (.iload_n 3, 1) := by decide +kernel
theorem dL_law_470 : decode cL_law 470 = .ok (.iconst 1, 1) := by decide +kernel
theorem dL_law_471 : decode cL_law 471 = .ok (.iadd, 1) := by decide +kernel
theorem dL_law_472 : decode cL_law 472 = .ok (.iaload, 1) := by decide +kernel
theorem dL_law_473 : decode cL_law 473 = .ok (.aload_n 0, 1) := by decide +kernel
theorem dL_law_474 : decode cL_law 474 = .ok (.iload_n 3, 1) := by decide +kernel
theorem dL_law_475 : decode cL_law 475 = .ok (.iconst 2, 1) := by decide +kernel
theorem dL_law_476 : decode cL_law 476 = .ok (.iadd, 1) := by decide +kernel
theorem dL_law_477 : decode cL_law 477 = .ok (.iaload, 1) := by decide +kernel
theorem dL_law_478 : decode cL_law 478 = .ok (.invokevirtual 57, 3) := by decide +kernel
theorem dL_law_481 : decode cL_law 481 = .ok (.if_icmp .eq 641, 3) := by decide +kernel
theorem dL_law_484 : decode cL_law 484 = .ok (.iconst 0, 1) := by decide +kernel
theorem dL_law_485 : decode cL_law 485 = .ok (.ireturn, 1) := by decide +kernel
theorem dL_law_486 : decode cL_law 486 = .ok (.aload_n 1, 1) := by decide +kernel
theorem dL_law_487 : decode cL_law 487 = .ok (.invokevirtual 58, 3) := by decide +kernel
theorem dL_law_490 : decode cL_law 490 = .ok (.aload_n 2, 1) := by decide +kernel
theorem dL_law_491 : decode cL_law 491 = .ok (.invokevirtual 61, 3) := by decide +kernel
theorem dL_law_494 : decode cL_law 494 = .ok (.if_icmp .eq 628, 3) := by decide +kernel
theorem dL_law_497 : decode cL_law 497 = .ok (.iconst 0, 1) := by decide +kernel
theorem dL_law_498 : decode cL_law 498 = .ok (.ireturn, 1) := by decide +kernel
theorem dL_law_499 : decode cL_law 499 = .ok (.aload_n 1, 1) := by decide +kernel
theorem dL_law_500 : decode cL_law 500 = .ok (.aload_n 0, 1) := by decide +kernel
theorem dL_law_501 : decode cL_law 501 = .ok (.iload_n 3, 1) := by decide +kernel
theorem dL_law_502 : decode cL_law 502 = .ok (.iconst 1, 1) := by decide +kernel
theorem dL_law_503 : decode cL_law 503 = .ok (.iadd, 1) := by decide +kernel
theorem dL_law_504 : decode cL_law 504 = .ok (.iaload, 1) := by decide +kernel
theorem dL_law_505 : decode cL_law 505 = .ok (.aload_n 0, 1) := by decide +kernel
theorem dL_law_506 : decode cL_law 506 = .ok (.iload_n 3, 1) := by decide +kernel
theorem dL_law_507 : decode cL_law 507 = .ok (.iconst 2, 1) := by decide +kernel
theorem dL_law_508 : decode cL_law 508 = .ok (.iadd, 1) := by decide +kernel
theorem dL_law_509 : decode cL_law 509 = .ok (.iaload, 1) := by decide +kernel
theorem dL_law_510 : decode cL_law 510 = .ok (.invokevirtual 62, 3) := by decide +kernel
theorem dL_law_513 : decode cL_law 513 = .ok (.aload_n 2, 1) := by decide +kernel
theorem dL_law_514 : decode cL_law 514 = .ok (.aload_n 0, 1) := by decide +kernel
theorem dL_law_515 : decode cL_law 515 = .ok (.iload_n 3, 1) := by decide +kernel
theorem dL_law_516 : decode cL_law 516 = .ok (.iconst 1, 1) := by decide +kernel
theorem dL_law_517 : decode cL_law 517 = .ok (.iadd, 1) := by decide +kernel
theorem dL_law_518 : decode cL_law 518 = .ok (.iaload, 1) := by decide +kernel
theorem dL_law_519 : decode cL_law 519 = .ok (.aload_n 0, 1) := by decide +kernel
theorem dL_law_520 : decode cL_law 520 = .ok (.iload_n 3, 1) := by decide +kernel
theorem dL_law_521 : decode cL_law 521 = .ok (.iconst 2, 1) := by decide +kernel
theorem dL_law_522 : decode cL_law 522 = .ok (.iadd, 1) := by decide +kernel
theorem dL_law_523 : decode cL_law 523 = .ok (.iaload, 1) := by decide +kernel
theorem dL_law_524 : decode cL_law 524 = .ok (.invokevirtual 65, 3) := by decide +kernel
theorem dL_law_527 : decode cL_law 527 = .ok (.if_icmp .eq 595, 3) := by decide +kernel
theorem dL_law_530 : decode cL_law 530 = .ok (.iconst 0, 1) := by decide +kernel
theorem dL_law_531 : decode cL_law 531 = .ok (.ireturn, 1) := by decide +kernel
theorem dL_law_532 : decode cL_law 532 = .ok (.aload_n 1, 1) := by decide +kernel
theorem dL_law_533 : decode cL_law 533 = .ok (.aload_n 0, 1) := by decide +kernel
theorem dL_law_534 : decode cL_law 534 = .ok (.iload_n 3, 1) := by decide +kernel
theorem dL_law_535 : decode cL_law 535 = .ok (.iconst 1, 1) := by decide +kernel
theorem dL_law_536 : decode cL_law 536 = .ok (.iadd, 1) := by decide +kernel
theorem dL_law_537 : decode cL_law 537 = .ok (.iaload, 1) := by decide +kernel
theorem dL_law_538 : decode cL_law 538 = .ok (.aload_n 0, 1) := by decide +kernel
theorem dL_law_539 : decode cL_law 539 = .ok (.iload_n 3, 1) := by decide +kernel
theorem dL_law_540 : decode cL_law 540 = .ok (.iconst 2, 1) := by decide +kernel
theorem dL_law_541 : decode cL_law 541 = .ok (.iadd, 1) := by decide +kernel
theorem dL_law_542 : decode cL_law 542 = .ok (.iaload, 1) := by decide +kernel
theorem dL_law_543 : decode cL_law 543 = .ok (.invokevirtual 66, 3) := by decide +kernel
theorem dL_law_546 : decode cL_law 546 = .ok (.aload_n 2, 1) := by decide +kernel
theorem dL_law_547 : decode cL_law 547 = .ok (.aload_n 0, 1) := by decide +kernel
theorem dL_law_548 : decode cL_law 548 = .ok (.iload_n 3, 1) := by decide +kernel
theorem dL_law_549 : decode cL_law 549 = .ok (.iconst 1, 1) := by decide +kernel
theorem dL_law_550 : decode cL_law 550 = .ok (.iadd, 1) := by decide +kernel
theorem dL_law_551 : decode cL_law 551 = .ok (.iaload, 1) := by decide +kernel
theorem dL_law_552 : decode cL_law 552 = .ok (.aload_n 0, 1) := by decide +kernel
theorem dL_law_553 : decode cL_law 553 = .ok (.iload_n 3, 1) := by decide +kernel
theorem dL_law_554 : decode cL_law 554 = .ok (.iconst 2, 1) := by decide +kernel
theorem dL_law_555 : decode cL_law 555 = .ok (.iadd, 1) := by decide +kernel
theorem dL_law_556 : decode cL_law 556 = .ok (.iaload, 1) := by decide +kernel
theorem dL_law_557 : decode cL_law 557 = .ok (.invokevirtual 69, 3) := by decide +kernel
theorem dL_law_560 : decode cL_law 560 = .ok (.if_icmp .eq 562, 3) := by decide +kernel
theorem dL_law_563 : decode cL_law 563 = .ok (.iconst 0, 1) := by decide +kernel
theorem dL_law_564 : decode cL_law 564 = .ok (.ireturn, 1) := by decide +kernel
theorem dL_law_565 : decode cL_law 565 = .ok (.aload_n 1, 1) := by decide +kernel
theorem dL_law_566 : decode cL_law 566 = .ok (.aload_n 0, 1) := by decide +kernel
theorem dL_law_567 : decode cL_law 567 = .ok (.iload_n 3, 1) := by decide +kernel
theorem dL_law_568 : decode cL_law 568 = .ok (.iconst 1, 1) := by decide +kernel
theorem dL_law_569 : decode cL_law 569 = .ok (.iadd, 1) := by decide +kernel
theorem dL_law_570 : decode cL_law 570 = .ok (.iaload, 1) := by decide +kernel
theorem dL_law_571 : decode cL_law 571 = .ok (.invokevirtual 70, 3) := by decide +kernel
theorem dL_law_574 : decode cL_law 574 = .ok (.aload_n 2, 1) := by decide +kernel
theorem dL_law_575 : decode cL_law 575 = .ok (.aload_n 0, 1) := by decide +kernel
theorem dL_law_576 : decode cL_law 576 = .ok (.iload_n 3, 1) := by decide +kernel
theorem dL_law_577 : decode cL_law 577 = .ok (.iconst 1, 1) := by decide +kernel
theorem dL_law_578 : decode cL_law 578 = .ok (.iadd, 1) := by decide +kernel
theorem dL_law_579 : decode cL_law 579 = .ok (.iaload, 1) := by decide +kernel
theorem dL_law_580 : decode cL_law 580 = .ok (.invokevirtual 73, 3) := by decide +kernel
theorem dL_law_583 : decode cL_law 583 = .ok (.if_icmp .eq 539, 3) := by decide +kernel
theorem dL_law_586 : decode cL_law 586 = .ok (.iconst 0, 1) := by decide +kernel
theorem dL_law_587 : decode cL_law 587 = .ok (.ireturn, 1) := by decide +kernel
theorem dL_law_588 : decode cL_law 588 = .ok (.aload_n 1, 1) := by decide +kernel
theorem dL_law_589 : decode cL_law 589 = .ok (.aload_n 0, 1) := by decide +kernel
theorem dL_law_590 : decode cL_law 590 = .ok (.iload_n 3, 1) := by decide +kernel
theorem dL_law_591 : decode cL_law 591 = .ok (.iconst 1, 1) := by decide +kernel
theorem dL_law_592 : decode cL_law 592 = .ok (.iadd, 1) := by decide +kernel
theorem dL_law_593 : decode cL_law 593 = .ok (.iaload, 1) := by decide +kernel
theorem dL_law_594 : decode cL_law 594 = .ok (.aload_n 0, 1) := by decide +kernel
theorem dL_law_595 : decode cL_law 595 = .ok (.iload_n 3, 1) := by decide +kernel
theorem dL_law_596 : decode cL_law 596 = .ok (.iconst 2, 1) := by decide +kernel
theorem dL_law_597 : decode cL_law 597 = .ok (.iadd, 1) := by decide +kernel
theorem dL_law_598 : decode cL_law 598 = .ok (.iaload, 1) := by decide +kernel
theorem dL_law_599 : decode cL_law 599 = .ok (.invokevirtual 74, 3) := by decide +kernel
theorem dL_law_602 : decode cL_law 602 = .ok (.aload_n 2, 1) := by decide +kernel
theorem dL_law_603 : decode cL_law 603 = .ok (.aload_n 0, 1) := by decide +kernel
theorem dL_law_604 : decode cL_law 604 = .ok (.iload_n 3, 1) := by decide +kernel
theorem dL_law_605 : decode cL_law 605 = .ok (.iconst 1, 1) := by decide +kernel
theorem dL_law_606 : decode cL_law 606 = .ok (.iadd, 1) := by decide +kernel
theorem dL_law_607 : decode cL_law 607 = .ok (.iaload, 1) := by decide +kernel
theorem dL_law_608 : decode cL_law 608 = .ok (.aload_n 0, 1) := by decide +kernel
theorem dL_law_609 : decode cL_law 609 = .ok (.iload_n 3, 1) := by decide +kernel
theorem dL_law_610 : decode cL_law 610 = .ok (.iconst 2, 1) := by decide +kernel
theorem dL_law_611 : decode cL_law 611 = .ok (.iadd, 1) := by decide +kernel
theorem dL_law_612 : decode cL_law 612 = .ok (.iaload, 1) := by decide +kernel
theorem dL_law_613 : decode cL_law 613 = .ok (.invokevirtual 77, 3) := by decide +kernel
theorem dL_law_616 : decode cL_law 616 = .ok (.if_icmp .eq 506, 3) := by decide +kernel
theorem dL_law_619 : decode cL_law 619 = .ok (.iconst 0, 1) := by decide +kernel
theorem dL_law_620 : decode cL_law 620 = .ok (.ireturn, 1) := by decide +kernel
theorem dL_law_621 : decode cL_law 621 = .ok (.aload_n 1, 1) := by decide +kernel
theorem dL_law_622 : decode cL_law 622 = .ok (.aload_n 0, 1) := by decide +kernel
theorem dL_law_623 : decode cL_law 623 = .ok (.iload_n 3, 1) := by decide +kernel
theorem dL_law_624 : decode cL_law 624 = .ok (.iconst 1, 1) := by decide +kernel
theorem dL_law_625 : decode cL_law 625 = .ok (.iadd, 1) := by decide +kernel
theorem dL_law_626 : decode cL_law 626 = .ok (.iaload, 1) := by decide +kernel
theorem dL_law_627 : decode cL_law 627 = .ok (.invokevirtual 78, 3) := by decide +kernel
theorem dL_law_630 : decode cL_law 630 = .ok (.aload_n 2, 1) := by decide +kernel
theorem dL_law_631 : decode cL_law 631 = .ok (.aload_n 0, 1) := by decide +kernel
theorem dL_law_632 : decode cL_law 632 = .ok (.iload_n 3, 1) := by decide +kernel
theorem dL_law_633 : decode cL_law 633 = .ok (.iconst 1, 1) := by decide +kernel
theorem dL_law_634 : decode cL_law 634 = .ok (.iadd, 1) := by decide +kernel
theorem dL_law_635 : decode cL_law 635 = .ok (.iaload, 1) := by decide +kernel
theorem dL_law_636 : decode cL_law 636 = .ok (.invokevirtual 81, 3) := by decide +kernel
theorem dL_law_639 : decode cL_law 639 = .ok (.if_icmp .eq 483, 3) := by decide +kernel
theorem dL_law_642 : decode cL_law 642 = .ok (.iconst 0, 1) := by decide +kernel
theorem dL_law_643 : decode cL_law 643 = .ok (.ireturn, 1) := by decide +kernel
theorem dL_law_644 : decode cL_law 644 = .ok (.aload_n 1, 1) := by decide +kernel
theorem dL_law_645 : decode cL_law 645 = .ok (.aload_n 0, 1) := by decide +kernel
theorem dL_law_646 : decode cL_law 646 = .ok (.iload_n 3, 1) := by decide +kernel
theorem dL_law_647 : decode cL_law 647 = .ok (.iconst 1, 1) := by decide +kernel
theorem dL_law_648 : decode cL_law 648 = .ok (.iadd, 1) := by decide +kernel
theorem dL_law_649 : decode cL_law 649 = .ok (.iaload, 1) := by decide +kernel
theorem dL_law_650 : decode cL_law 650 = .ok (.invokevirtual 82, 3) := by decide +kernel
theorem dL_law_653 : decode cL_law 653 = .ok (.aload_n 2, 1) := by decide +kernel
theorem dL_law_654 : decode cL_law 654 = .ok (.aload_n 0, 1) := by decide +kernel
theorem dL_law_655 : decode cL_law 655 = .ok (.iload_n 3, 1) := by decide +kernel
theorem dL_law_656 : decode cL_law 656 = .ok (.iconst 1, 1) := by decide +kernel
theorem dL_law_657 : decode cL_law 657 = .ok (.iadd, 1) := by decide +kernel
theorem dL_law_658 : decode cL_law 658 = .ok (.iaload, 1) := by decide +kernel
theorem dL_law_659 : decode cL_law 659 = .ok (.invokevirtual 85, 3) := by decide +kernel
theorem dL_law_662 : decode cL_law 662 = .ok (.if_icmp .eq 460, 3) := by decide +kernel
theorem dL_law_665 : decode cL_law 665 = .ok (.iconst 0, 1) := by decide +kernel
theorem dL_law_666 : decode cL_law 666 = .ok (.ireturn, 1) := by decide +kernel
theorem dL_law_667 : decode cL_law 667 = .ok (.aload_n 1, 1) := by decide +kernel
theorem dL_law_668 : decode cL_law 668 = .ok (.invokevirtual 86, 3) := by decide +kernel
theorem dL_law_671 : decode cL_law 671 = .ok (.aload_n 2, 1) := by decide +kernel
theorem dL_law_672 : decode cL_law 672 = .ok (.invokevirtual 89, 3) := by decide +kernel
theorem dL_law_675 : decode cL_law 675 = .ok (.if_icmp .eq 447, 3) := by decide +kernel
theorem dL_law_678 : decode cL_law 678 = .ok (.iconst 0, 1) := by decide +kernel
theorem dL_law_679 : decode cL_law 679 = .ok (.ireturn, 1) := by decide +kernel
theorem dL_law_680 : decode cL_law 680 = .ok (.aload_n 1, 1) := by decide +kernel
theorem dL_law_681 : decode cL_law 681 = .ok (.aload_n 0, 1) := by decide +kernel
theorem dL_law_682 : decode cL_law 682 = .ok (.iload_n 3, 1) := by decide +kernel
theorem dL_law_683 : decode cL_law 683 = .ok (.iconst 1, 1) := by decide +kernel
theorem dL_law_684 : decode cL_law 684 = .ok (.iadd, 1) := by decide +kernel
theorem dL_law_685 : decode cL_law 685 = .ok (.iaload, 1) := by decide +kernel
theorem dL_law_686 : decode cL_law 686 = .ok (.aload_n 0, 1) := by decide +kernel
theorem dL_law_687 : decode cL_law 687 = .ok (.iload_n 3, 1) := by decide +kernel
theorem dL_law_688 : decode cL_law 688 = .ok (.iconst 2, 1) := by decide +kernel
theorem dL_law_689 : decode cL_law 689 = .ok (.iadd, 1) := by decide +kernel
theorem dL_law_690 : decode cL_law 690 = .ok (.iaload, 1) := by decide +kernel
theorem dL_law_691 : decode cL_law 691 = .ok (.invokevirtual 90, 3) := by decide +kernel
theorem dL_law_694 : decode cL_law 694 = .ok (.aload_n 2, 1) := by decide +kernel
theorem dL_law_695 : decode cL_law 695 = .ok (.aload_n 0, 1) := by decide +kernel
theorem dL_law_696 : decode cL_law 696 = .ok (.iload_n 3, 1) := by decide +kernel
theorem dL_law_697 : decode cL_law 697 = .ok (.iconst 1, 1) := by decide +kernel
theorem dL_law_698 : decode cL_law 698 = .ok (.iadd, 1) := by decide +kernel
theorem dL_law_699 : decode cL_law 699 = .ok (.iaload, 1) := by decide +kernel
theorem dL_law_700 : decode cL_law 700 = .ok (.aload_n 0, 1) := by decide +kernel
theorem dL_law_701 : decode cL_law 701 = .ok (.iload_n 3, 1) := by decide +kernel
theorem dL_law_702 : decode cL_law 702 = .ok (.iconst 2, 1) := by decide +kernel
theorem dL_law_703 : decode cL_law 703 = .ok (.iadd, 1) := by decide +kernel
theorem dL_law_704 : decode cL_law 704 = .ok (.iaload, 1) := by decide +kernel
theorem dL_law_705 : decode cL_law 705 = .ok (.invokevirtual 93, 3) := by decide +kernel
theorem dL_law_708 : decode cL_law 708 = .ok (.if_icmp .eq 414, 3) := by decide +kernel
theorem dL_law_711 : decode cL_law 711 = .ok (.iconst 0, 1) := by decide +kernel
theorem dL_law_712 : decode cL_law 712 = .ok (.ireturn, 1) := by decide +kernel
theorem dL_law_713 : decode cL_law 713 = .ok (.aload_n 1, 1) := by decide +kernel
theorem dL_law_714 : decode cL_law 714 = .ok (.aload_n 0, 1) := by decide +kernel
theorem dL_law_715 : decode cL_law 715 = .ok (.iload_n 3, 1) := by decide +kernel
theorem dL_law_716 : decode cL_law 716 = .ok (.iconst 1, 1) := by decide +kernel
theorem dL_law_717 : decode cL_law 717 = .ok (.iadd, 1) := by decide +kernel
theorem dL_law_718 : decode cL_law 718 = .ok (.iaload, 1) := by decide +kernel
theorem dL_law_719 : decode cL_law 719 = .ok (.invokevirtual 94, 3) := by decide +kernel
theorem dL_law_722 : decode cL_law 722 = .ok (.aload_n 2, 1) := by decide +kernel
theorem dL_law_723 : decode cL_law 723 = .ok (.aload_n 0, 1) := by decide +kernel
theorem dL_law_724 : decode cL_law 724 = .ok (.iload_n 3, 1) := by decide +kernel
theorem dL_law_725 : decode cL_law 725 = .ok (.iconst 1, 1) := by decide +kernel
theorem dL_law_726 : decode cL_law 726 = .ok (.iadd, 1) := by decide +kernel
theorem dL_law_727 : decode cL_law 727 = .ok (.iaload, 1) := by decide +kernel
theorem dL_law_728 : decode cL_law 728 = .ok (.invokevirtual 97, 3) := by decide +kernel
theorem dL_law_731 : decode cL_law 731 = .ok (.if_icmp .eq 391, 3) := by decide +kernel
theorem dL_law_734 : decode cL_law 734 = .ok (.iconst 0, 1) := by decide +kernel
theorem dL_law_735 : decode cL_law 735 = .ok (.ireturn, 1) := by decide +kernel
theorem dL_law_736 : decode cL_law 736 = .ok (.aload_n 1, 1) := by decide +kernel
theorem dL_law_737 : decode cL_law 737 = .ok (.aload_n 0, 1) := by decide +kernel
theorem dL_law_738 : decode cL_law 738 = .ok (.iload_n 3, 1) := by decide +kernel
theorem dL_law_739 : decode cL_law 739 = .ok (.iconst 1, 1) := by decide +kernel
theorem dL_law_740 : decode cL_law 740 = .ok (.iadd, 1) := by decide +kernel
theorem dL_law_741 : decode cL_law 741 = .ok (.iaload, 1) := by decide +kernel
theorem dL_law_742 : decode cL_law 742 = .ok (.aload_n 0, 1) := by decide +kernel
theorem dL_law_743 : decode cL_law 743 = .ok (.iload_n 3, 1) := by decide +kernel
theorem dL_law_744 : decode cL_law 744 = .ok (.iconst 2, 1) := by decide +kernel
theorem dL_law_745 : decode cL_law 745 = .ok (.iadd, 1) := by decide +kernel
theorem dL_law_746 : decode cL_law 746 = .ok (.iaload, 1) := by decide +kernel
theorem dL_law_747 : decode cL_law 747 = .ok (.invokevirtual 98, 3) := by decide +kernel
theorem dL_law_750 : decode cL_law 750 = .ok (.aload_n 2, 1) := by decide +kernel
theorem dL_law_751 : decode cL_law 751 = .ok (.aload_n 0, 1) := by decide +kernel
theorem dL_law_752 : decode cL_law 752 = .ok (.iload_n 3, 1) := by decide +kernel
theorem dL_law_753 : decode cL_law 753 = .ok (.iconst 1, 1) := by decide +kernel
theorem dL_law_754 : decode cL_law 754 = .ok (.iadd, 1) := by decide +kernel
theorem dL_law_755 : decode cL_law 755 = .ok (.iaload, 1) := by decide +kernel
theorem dL_law_756 : decode cL_law 756 = .ok (.aload_n 0, 1) := by decide +kernel
theorem dL_law_757 : decode cL_law 757 = .ok (.iload_n 3, 1) := by decide +kernel
theorem dL_law_758 : decode cL_law 758 = .ok (.iconst 2, 1) := by decide +kernel
theorem dL_law_759 : decode cL_law 759 = .ok (.iadd, 1) := by decide +kernel
theorem dL_law_760 : decode cL_law 760 = .ok (.iaload, 1) := by decide +kernel
theorem dL_law_761 : decode cL_law 761 = .ok (.invokevirtual 101, 3) := by decide +kernel
theorem dL_law_764 : decode cL_law 764 = .ok (.if_icmp .eq 358, 3) := by decide +kernel
theorem dL_law_767 : decode cL_law 767 = .ok (.iconst 0, 1) := by decide +kernel
theorem dL_law_768 : decode cL_law 768 = .ok (.ireturn, 1) := by decide +kernel
theorem dL_law_769 : decode cL_law 769 = .ok (.aload_n 1, 1) := by decide +kernel
theorem dL_law_770 : decode cL_law 770 = .ok (.aload_n 0, 1) := by decide +kernel
theorem dL_law_771 : decode cL_law 771 = .ok (.iload_n 3, 1) := by decide +kernel
theorem dL_law_772 : decode cL_law 772 = .ok (.iconst 1, 1) := by decide +kernel
theorem dL_law_773 : decode cL_law 773 = .ok (.iadd, 1) := by decide +kernel
theorem dL_law_774 : decode cL_law 774 = .ok (.iaload, 1) := by decide +kernel
theorem dL_law_775 : decode cL_law 775 = .ok (.aload_n 0, 1) := by decide +kernel
theorem dL_law_776 : decode cL_law 776 = .ok (.iload_n 3, 1) := by decide +kernel
theorem dL_law_777 : decode cL_law 777 = .ok (.iconst 2, 1) := by decide +kernel
theorem dL_law_778 : decode cL_law 778 = .ok (.iadd, 1) := by decide +kernel
theorem dL_law_779 : decode cL_law 779 = .ok (.iaload, 1) := by decide +kernel
theorem dL_law_780 : decode cL_law 780 = .ok (.aload_n 0, 1) := by decide +kernel
theorem dL_law_781 : decode cL_law 781 = .ok (.iload_n 3, 1) := by decide +kernel
theorem dL_law_782 : decode cL_law 782 = .ok (.iconst 3, 1) := by decide +kernel
theorem dL_law_783 : decode cL_law 783 = .ok (.iadd, 1) := by decide +kernel
theorem dL_law_784 : decode cL_law 784 = .ok (.iaload, 1) := by decide +kernel
theorem dL_law_785 : decode cL_law 785 = .ok (.aload_n 0, 1) := by decide +kernel
theorem dL_law_786 : decode cL_law 786 = .ok (.iload_n 3, 1) := by decide +kernel
theorem dL_law_787 : decode cL_law 787 = .ok (.iconst 4, 1) := by decide +kernel
theorem dL_law_788 : decode cL_law 788 = .ok (.iadd, 1) := by decide +kernel
theorem dL_law_789 : decode cL_law 789 = .ok (.iaload, 1) := by decide +kernel
theorem dL_law_790 : decode cL_law 790 = .ok (.aload_n 0, 1) := by decide +kernel
theorem dL_law_791 : decode cL_law 791 = .ok (.iload_n 3, 1) := by decide +kernel
theorem dL_law_792 : decode cL_law 792 = .ok (.iconst 5, 1) := by decide +kernel
theorem dL_law_793 : decode cL_law 793 = .ok (.iadd, 1) := by decide +kernel
theorem dL_law_794 : decode cL_law 794 = .ok (.iaload, 1) := by decide +kernel
theorem dL_law_795 : decode cL_law 795 = .ok (.invokevirtual 102, 3) := by decide +kernel
theorem dL_law_798 : decode cL_law 798 = .ok (.aload_n 2, 1) := by decide +kernel
theorem dL_law_799 : decode cL_law 799 = .ok (.aload_n 0, 1) := by decide +kernel
theorem dL_law_800 : decode cL_law 800 = .ok (.iload_n 3, 1) := by decide +kernel
theorem dL_law_801 : decode cL_law 801 = .ok (.iconst 1, 1) := by decide +kernel
theorem dL_law_802 : decode cL_law 802 = .ok (.iadd, 1) := by decide +kernel
theorem dL_law_803 : decode cL_law 803 = .ok (.iaload, 1) := by decide +kernel
theorem dL_law_804 : decode cL_law 804 = .ok (.aload_n 0, 1) := by decide +kernel
theorem dL_law_805 : decode cL_law 805 = .ok (.iload_n 3, 1) := by decide +kernel
theorem dL_law_806 : decode cL_law 806 = .ok (.iconst 2, 1) := by decide +kernel
theorem dL_law_807 : decode cL_law 807 = .ok (.iadd, 1) := by decide +kernel
theorem dL_law_808 : decode cL_law 808 = .ok (.iaload, 1) := by decide +kernel
theorem dL_law_809 : decode cL_law 809 = .ok (.aload_n 0, 1) := by decide +kernel
theorem dL_law_810 : decode cL_law 810 = .ok (.iload_n 3, 1) := by decide +kernel
theorem dL_law_811 : decode cL_law 811 = .ok (.iconst 3, 1) := by decide +kernel
theorem dL_law_812 : decode cL_law 812 = .ok (.iadd, 1) := by decide +kernel
theorem dL_law_813 : decode cL_law 813 = .ok (.iaload, 1) := by decide +kernel
theorem dL_law_814 : decode cL_law 814 = .ok (.aload_n 0, 1) := by decide +kernel
theorem dL_law_815 : decode cL_law 815 = .ok (.iload_n 3, 1) := by decide +kernel
theorem dL_law_816 : decode cL_law 816 = .ok (.iconst 4, 1) := by decide +kernel
theorem dL_law_817 : decode cL_law 817 = .ok (.iadd, 1) := by decide +kernel
theorem dL_law_818 : decode cL_law 818 = .ok (.iaload, 1) := by decide +kernel
theorem dL_law_819 : decode cL_law 819 = .ok (.aload_n 0, 1) := by decide +kernel
theorem dL_law_820 : decode cL_law 820 = .ok (.iload_n 3, 1) := by decide +kernel
theorem dL_law_821 : decode cL_law 821 = .ok (.iconst 5, 1) := by decide +kernel
theorem dL_law_822 : decode cL_law 822 = .ok (.iadd, 1) := by decide +kernel
theorem dL_law_823 : decode cL_law 823 = .ok (.iaload, 1) := by decide +kernel
theorem dL_law_824 : decode cL_law 824 = .ok (.invokevirtual 105, 3) := by decide +kernel
theorem dL_law_827 : decode cL_law 827 = .ok (.if_icmp .eq 295, 3) := by decide +kernel
theorem dL_law_830 : decode cL_law 830 = .ok (.iconst 0, 1) := by decide +kernel
theorem dL_law_831 : decode cL_law 831 = .ok (.ireturn, 1) := by decide +kernel
theorem dL_law_832 : decode cL_law 832 = .ok (.aload_n 1, 1) := by decide +kernel
theorem dL_law_833 : decode cL_law 833 = .ok (.aload_n 0, 1) := by decide +kernel
theorem dL_law_834 : decode cL_law 834 = .ok (.iload_n 3, 1) := by decide +kernel
theorem dL_law_835 : decode cL_law 835 = .ok (.iconst 1, 1) := by decide +kernel
theorem dL_law_836 : decode cL_law 836 = .ok (.iadd, 1) := by decide +kernel
theorem dL_law_837 : decode cL_law 837 = .ok (.iaload, 1) := by decide +kernel
theorem dL_law_838 : decode cL_law 838 = .ok (.aload_n 0, 1) := by decide +kernel
theorem dL_law_839 : decode cL_law 839 = .ok (.iload_n 3, 1) := by decide +kernel
theorem dL_law_840 : decode cL_law 840 = .ok (.iconst 2, 1) := by decide +kernel
theorem dL_law_841 : decode cL_law 841 = .ok (.iadd, 1) := by decide +kernel
theorem dL_law_842 : decode cL_law 842 = .ok (.iaload, 1) := by decide +kernel
theorem dL_law_843 : decode cL_law 843 = .ok (.aload_n 0, 1) := by decide +kernel
theorem dL_law_844 : decode cL_law 844 = .ok (.iload_n 3, 1) := by decide +kernel
theorem dL_law_845 : decode cL_law 845 = .ok (.iconst 3, 1) := by decide +kernel
theorem dL_law_846 : decode cL_law 846 = .ok (.iadd, 1) := by decide +kernel
theorem dL_law_847 : decode cL_law 847 = .ok (.iaload, 1) := by decide +kernel
theorem dL_law_848 : decode cL_law 848 = .ok (.aload_n 0, 1) := by decide +kernel
theorem dL_law_849 : decode cL_law 849 = .ok (.iload_n 3, 1) := by decide +kernel
theorem dL_law_850 : decode cL_law 850 = .ok (.iconst 4, 1) := by decide +kernel
theorem dL_law_851 : decode cL_law 851 = .ok (.iadd, 1) := by decide +kernel
theorem dL_law_852 : decode cL_law 852 = .ok (.iaload, 1) := by decide +kernel
theorem dL_law_853 : decode cL_law 853 = .ok (.invokevirtual 106, 3) := by decide +kernel
theorem dL_law_856 : decode cL_law 856 = .ok (.aload_n 2, 1) := by decide +kernel
theorem dL_law_857 : decode cL_law 857 = .ok (.aload_n 0, 1) := by decide +kernel
theorem dL_law_858 : decode cL_law 858 = .ok (.iload_n 3, 1) := by decide +kernel
theorem dL_law_859 : decode cL_law 859 = .ok (.iconst 1, 1) := by decide +kernel
theorem dL_law_860 : decode cL_law 860 = .ok (.iadd, 1) := by decide +kernel
theorem dL_law_861 : decode cL_law 861 = .ok (.iaload, 1) := by decide +kernel
theorem dL_law_862 : decode cL_law 862 = .ok (.aload_n 0, 1) := by decide +kernel
theorem dL_law_863 : decode cL_law 863 = .ok (.iload_n 3, 1) := by decide +kernel
theorem dL_law_864 : decode cL_law 864 = .ok (.iconst 2, 1) := by decide +kernel
theorem dL_law_865 : decode cL_law 865 = .ok (.iadd, 1) := by decide +kernel
theorem dL_law_866 : decode cL_law 866 = .ok (.iaload, 1) := by decide +kernel
theorem dL_law_867 : decode cL_law 867 = .ok (.aload_n 0, 1) := by decide +kernel
theorem dL_law_868 : decode cL_law 868 = .ok (.iload_n 3, 1) := by decide +kernel
theorem dL_law_869 : decode cL_law 869 = .ok (.iconst 3, 1) := by decide +kernel
theorem dL_law_870 : decode cL_law 870 = .ok (.iadd, 1) := by decide +kernel
theorem dL_law_871 : decode cL_law 871 = .ok (.iaload, 1) := by decide +kernel
theorem dL_law_872 : decode cL_law 872 = .ok (.aload_n 0, 1) := by decide +kernel
theorem dL_law_873 : decode cL_law 873 = .ok (.iload_n 3, 1) := by decide +kernel
theorem dL_law_874 : decode cL_law 874 = .ok (.iconst 4, 1) := by decide +kernel
theorem dL_law_875 : decode cL_law 875 = .ok (.iadd, 1) := by decide +kernel
theorem dL_law_876 : decode cL_law 876 = .ok (.iaload, 1) := by decide +kernel
theorem dL_law_877 : decode cL_law 877 = .ok (.invokevirtual 110, 3) := by decide +kernel
theorem dL_law_880 : decode cL_law 880 = .ok (.if_icmp .eq 242, 3) := by decide +kernel
theorem dL_law_883 : decode cL_law 883 = .ok (.iconst 0, 1) := by decide +kernel
theorem dL_law_884 : decode cL_law 884 = .ok (.ireturn, 1) := by decide +kernel
theorem dL_law_885 : decode cL_law 885 = .ok (.aload_n 1, 1) := by decide +kernel
theorem dL_law_886 : decode cL_law 886 = .ok (.aload_n 0, 1) := by decide +kernel
theorem dL_law_887 : decode cL_law 887 = .ok (.iload_n 3, 1) := by decide +kernel
theorem dL_law_888 : decode cL_law 888 = .ok (.iconst 1, 1) := by decide +kernel
theorem dL_law_889 : decode cL_law 889 = .ok (.iadd, 1) := by decide +kernel
theorem dL_law_890 : decode cL_law 890 = .ok (.iaload, 1) := by decide +kernel
theorem dL_law_891 : decode cL_law 891 = .ok (.aload_n 0, 1) := by decide +kernel
theorem dL_law_892 : decode cL_law 892 = .ok (.iload_n 3, 1) := by decide +kernel
theorem dL_law_893 : decode cL_law 893 = .ok (.iconst 2, 1) := by decide +kernel
theorem dL_law_894 : decode cL_law 894 = .ok (.iadd, 1) := by decide +kernel
theorem dL_law_895 : decode cL_law 895 = .ok (.iaload, 1) := by decide +kernel
theorem dL_law_896 : decode cL_law 896 = .ok (.aload_n 0, 1) := by decide +kernel
theorem dL_law_897 : decode cL_law 897 = .ok (.iload_n 3, 1) := by decide +kernel
theorem dL_law_898 : decode cL_law 898 = .ok (.iconst 3, 1) := by decide +kernel
theorem dL_law_899 : decode cL_law 899 = .ok (.iadd, 1) := by decide +kernel
theorem dL_law_900 : decode cL_law 900 = .ok (.iaload, 1) := by decide +kernel
theorem dL_law_901 : decode cL_law 901 = .ok (.invokevirtual 111, 3) := by decide +kernel
theorem dL_law_904 : decode cL_law 904 = .ok (.aload_n 2, 1) := by decide +kernel
theorem dL_law_905 : decode cL_law 905 = .ok (.aload_n 0, 1) := by decide +kernel
theorem dL_law_906 : decode cL_law 906 = .ok (.iload_n 3, 1) := by decide +kernel
theorem dL_law_907 : decode cL_law 907 = .ok (.iconst 1, 1) := by decide +kernel
theorem dL_law_908 : decode cL_law 908 = .ok (.iadd, 1) := by decide +kernel
theorem dL_law_909 : decode cL_law 909 = .ok (.iaload, 1) := by decide +kernel
theorem dL_law_910 : decode cL_law 910 = .ok (.aload_n 0, 1) := by decide +kernel
theorem dL_law_911 : decode cL_law 911 = .ok (.iload_n 3, 1) := by decide +kernel
theorem dL_law_912 : decode cL_law 912 = .ok (.iconst 2, 1) := by decide +kernel
theorem dL_law_913 : decode cL_law 913 = .ok (.iadd, 1) := by decide +kernel
theorem dL_law_914 : decode cL_law 914 = .ok (.iaload, 1) := by decide +kernel
theorem dL_law_915 : decode cL_law 915 = .ok (.aload_n 0, 1) := by decide +kernel
theorem dL_law_916 : decode cL_law 916 = .ok (.iload_n 3, 1) := by decide +kernel
theorem dL_law_917 : decode cL_law 917 = .ok (.iconst 3, 1) := by decide +kernel
theorem dL_law_918 : decode cL_law 918 = .ok (.iadd, 1) := by decide +kernel
theorem dL_law_919 : decode cL_law 919 = .ok (.iaload, 1) := by decide +kernel
theorem dL_law_920 : decode cL_law 920 = .ok (.invokevirtual 114, 3) := by decide +kernel
theorem dL_law_923 : decode cL_law 923 = .ok (.if_icmp .eq 199, 3) := by decide +kernel
theorem dL_law_926 : decode cL_law 926 = .ok (.iconst 0, 1) := by decide +kernel
theorem dL_law_927 : decode cL_law 927 = .ok (.ireturn, 1) := by decide +kernel
theorem dL_law_928 : decode cL_law 928 = .ok (.aload_n 1, 1) := by decide +kernel
theorem dL_law_929 : decode cL_law 929 = .ok (.aload_n 0, 1) := by decide +kernel
theorem dL_law_930 : decode cL_law 930 = .ok (.iload_n 3, 1) := by decide +kernel
theorem dL_law_931 : decode cL_law 931 = .ok (.iconst 1, 1) := by decide +kernel
theorem dL_law_932 : decode cL_law 932 = .ok (.iadd, 1) := by decide +kernel
theorem dL_law_933 : decode cL_law 933 = .ok (.iaload, 1) := by decide +kernel
theorem dL_law_934 : decode cL_law 934 = .ok (.invokevirtual 115, 3) := by decide +kernel
theorem dL_law_937 : decode cL_law 937 = .ok (.aload_n 2, 1) := by decide +kernel
theorem dL_law_938 : decode cL_law 938 = .ok (.aload_n 0, 1) := by decide +kernel
theorem dL_law_939 : decode cL_law 939 = .ok (.iload_n 3, 1) := by decide +kernel
theorem dL_law_940 : decode cL_law 940 = .ok (.iconst 1, 1) := by decide +kernel
theorem dL_law_941 : decode cL_law 941 = .ok (.iadd, 1) := by decide +kernel
theorem dL_law_942 : decode cL_law 942 = .ok (.iaload, 1) := by decide +kernel
theorem dL_law_943 : decode cL_law 943 = .ok (.invokevirtual 118, 3) := by decide +kernel
theorem dL_law_946 : decode cL_law 946 = .ok (.if_icmp .eq 176, 3) := by decide +kernel
theorem dL_law_949 : decode cL_law 949 = .ok (.iconst 0, 1) := by decide +kernel
theorem dL_law_950 : decode cL_law 950 = .ok (.ireturn, 1) := by decide +kernel
theorem dL_law_951 : decode cL_law 951 = .ok (.aload_n 1, 1) := by decide +kernel
theorem dL_law_952 : decode cL_law 952 = .ok (.aload_n 0, 1) := by decide +kernel
theorem dL_law_953 : decode cL_law 953 = .ok (.iload_n 3, 1) := by decide +kernel
theorem dL_law_954 : decode cL_law 954 = .ok (.iconst 1, 1) := by decide +kernel
theorem dL_law_955 : decode cL_law 955 = .ok (.iadd, 1) := by decide +kernel
theorem dL_law_956 : decode cL_law 956 = .ok (.iaload, 1) := by decide +kernel
theorem dL_law_957 : decode cL_law 957 = .ok (.invokevirtual 119, 3) := by decide +kernel
theorem dL_law_960 : decode cL_law 960 = .ok (.aload_n 2, 1) := by decide +kernel
theorem dL_law_961 : decode cL_law 961 = .ok (.aload_n 0, 1) := by decide +kernel
theorem dL_law_962 : decode cL_law 962 = .ok (.iload_n 3, 1) := by decide +kernel
theorem dL_law_963 : decode cL_law 963 = .ok (.iconst 1, 1) := by decide +kernel
theorem dL_law_964 : decode cL_law 964 = .ok (.iadd, 1) := by decide +kernel
theorem dL_law_965 : decode cL_law 965 = .ok (.iaload, 1) := by decide +kernel
theorem dL_law_966 : decode cL_law 966 = .ok (.invokevirtual 122, 3) := by decide +kernel
theorem dL_law_969 : decode cL_law 969 = .ok (.if_icmp .eq 153, 3) := by decide +kernel
theorem dL_law_972 : decode cL_law 972 = .ok (.iconst 0, 1) := by decide +kernel
theorem dL_law_973 : decode cL_law 973 = .ok (.ireturn, 1) := by decide +kernel
theorem dL_law_974 : decode cL_law 974 = .ok (.aload_n 1, 1) := by decide +kernel
theorem dL_law_975 : decode cL_law 975 = .ok (.aload_n 0, 1) := by decide +kernel
theorem dL_law_976 : decode cL_law 976 = .ok (.iload_n 3, 1) := by decide +kernel
theorem dL_law_977 : decode cL_law 977 = .ok (.iconst 1, 1) := by decide +kernel
theorem dL_law_978 : decode cL_law 978 = .ok (.iadd, 1) := by decide +kernel
theorem dL_law_979 : decode cL_law 979 = .ok (.iaload, 1) := by decide +kernel
theorem dL_law_980 : decode cL_law 980 = .ok (.invokevirtual 123, 3) := by decide +kernel
theorem dL_law_983 : decode cL_law 983 = .ok (.aload_n 2, 1) := by decide +kernel
theorem dL_law_984 : decode cL_law 984 = .ok (.aload_n 0, 1) := by decide +kernel
theorem dL_law_985 : decode cL_law 985 = .ok (.iload_n 3, 1) := by decide +kernel
theorem dL_law_986 : decode cL_law 986 = .ok (.iconst 1, 1) := by decide +kernel
theorem dL_law_987 : decode cL_law 987 = .ok (.iadd, 1) := by decide +kernel
theorem dL_law_988 : decode cL_law 988 = .ok (.iaload, 1) := by decide +kernel
theorem dL_law_989 : decode cL_law 989 = .ok (.invokevirtual 126, 3) := by decide +kernel
theorem dL_law_992 : decode cL_law 992 = .ok (.if_icmp .eq 130, 3) := by decide +kernel
theorem dL_law_995 : decode cL_law 995 = .ok (.iconst 0, 1) := by decide +kernel
theorem dL_law_996 : decode cL_law 996 = .ok (.ireturn, 1) := by decide +kernel
theorem dL_law_997 : decode cL_law 997 = .ok (.aload_n 1, 1) := by decide +kernel
theorem dL_law_998 : decode cL_law 998 = .ok (.aload_n 0, 1) := by decide +kernel
theorem dL_law_999 : decode cL_law 999 = .ok (.iload_n 3, 1) := by decide +kernel
theorem dL_law_1000 : decode cL_law 1000 = .ok (.iconst 1, 1) := by decide +kernel
theorem dL_law_1001 : decode cL_law 1001 = .ok (.iadd, 1) := by decide +kernel
theorem dL_law_1002 : decode cL_law 1002 = .ok (.iaload, 1) := by decide +kernel
theorem dL_law_1003 : decode cL_law 1003 = .ok (.aload_n 0, 1) := by decide +kernel
theorem dL_law_1004 : decode cL_law 1004 = .ok (.iload_n 3, 1) := by decide +kernel
theorem dL_law_1005 : decode cL_law 1005 = .ok (.iconst 2, 1) := by decide +kernel
theorem dL_law_1006 : decode cL_law 1006 = .ok (.iadd, 1) := by decide +kernel
theorem dL_law_1007 : decode cL_law 1007 = .ok (.iaload, 1) := by decide +kernel
theorem dL_law_1008 : decode cL_law 1008 = .ok (.invokevirtual 127, 3) := by decide +kernel
theorem dL_law_1011 : decode cL_law 1011 = .ok (.aload_n 2, 1) := by decide +kernel
theorem dL_law_1012 : decode cL_law 1012 = .ok (.aload_n 0, 1) := by decide +kernel
theorem dL_law_1013 : decode cL_law 1013 = .ok (.iload_n 3, 1) := by decide +kernel
theorem dL_law_1014 : decode cL_law 1014 = .ok (.iconst 1, 1) := by decide +kernel
theorem dL_law_1015 : decode cL_law 1015 = .ok (.iadd, 1) := by decide +kernel
theorem dL_law_1016 : decode cL_law 1016 = .ok (.iaload, 1) := by decide +kernel
theorem dL_law_1017 : decode cL_law 1017 = .ok (.aload_n 0, 1) := by decide +kernel
theorem dL_law_1018 : decode cL_law 1018 = .ok (.iload_n 3, 1) := by decide +kernel
theorem dL_law_1019 : decode cL_law 1019 = .ok (.iconst 2, 1) := by decide +kernel
theorem dL_law_1020 : decode cL_law 1020 = .ok (.iadd, 1) := by decide +kernel
theorem dL_law_1021 : decode cL_law 1021 = .ok (.iaload, 1) := by decide +kernel
theorem dL_law_1022 : decode cL_law 1022 = .ok (.invokevirtual 130, 3) := by decide +kernel
theorem dL_law_1025 : decode cL_law 1025 = .ok (.if_icmp .eq 97, 3) := by decide +kernel
theorem dL_law_1028 : decode cL_law 1028 = .ok (.iconst 0, 1) := by decide +kernel
theorem dL_law_1029 : decode cL_law 1029 = .ok (.ireturn, 1) := by decide +kernel
theorem dL_law_1030 : decode cL_law 1030 = .ok (.aload_n 1, 1) := by decide +kernel
theorem dL_law_1031 : decode cL_law 1031 = .ok (.aload_n 0, 1) := by decide +kernel
theorem dL_law_1032 : decode cL_law 1032 = .ok (.iload_n 3, 1) := by decide +kernel
theorem dL_law_1033 : decode cL_law 1033 = .ok (.iconst 1, 1) := by decide +kernel
theorem dL_law_1034 : decode cL_law 1034 = .ok (.iadd, 1) := by decide +kernel
theorem dL_law_1035 : decode cL_law 1035 = .ok (.iaload, 1) := by decide +kernel
theorem dL_law_1036 : decode cL_law 1036 = .ok (.aload_n 0, 1) := by decide +kernel
theorem dL_law_1037 : decode cL_law 1037 = .ok (.iload_n 3, 1) := by decide +kernel
theorem dL_law_1038 : decode cL_law 1038 = .ok (.iconst 2, 1) := by decide +kernel
theorem dL_law_1039 : decode cL_law 1039 = .ok (.iadd, 1) := by decide +kernel
theorem dL_law_1040 : decode cL_law 1040 = .ok (.iaload, 1) := by decide +kernel
theorem dL_law_1041 : decode cL_law 1041 = .ok (.invokevirtual 131, 3) := by decide +kernel
theorem dL_law_1044 : decode cL_law 1044 = .ok (.aload_n 2, 1) := by decide +kernel
theorem dL_law_1045 : decode cL_law 1045 = .ok (.aload_n 0, 1) := by decide +kernel
theorem dL_law_1046 : decode cL_law 1046 = .ok (.iload_n 3, 1) := by decide +kernel
theorem dL_law_1047 : decode cL_law 1047 = .ok (.iconst 1, 1) := by decide +kernel
theorem dL_law_1048 : decode cL_law 1048 = .ok (.iadd, 1) := by decide +kernel
theorem dL_law_1049 : decode cL_law 1049 = .ok (.iaload, 1) := by decide +kernel
theorem dL_law_1050 : decode cL_law 1050 = .ok (.aload_n 0, 1) := by decide +kernel
theorem dL_law_1051 : decode cL_law 1051 = .ok (.iload_n 3, 1) := by decide +kernel
theorem dL_law_1052 : decode cL_law 1052 = .ok (.iconst 2, 1) := by decide +kernel
theorem dL_law_1053 : decode cL_law 1053 = .ok (.iadd, 1) := by decide +kernel
theorem dL_law_1054 : decode cL_law 1054 = .ok (.iaload, 1) := by decide +kernel
theorem dL_law_1055 : decode cL_law 1055 = .ok (.invokevirtual 134, 3) := by decide +kernel
theorem dL_law_1058 : decode cL_law 1058 = .ok (.if_icmp .eq 64, 3) := by decide +kernel
theorem dL_law_1061 : decode cL_law 1061 = .ok (.iconst 0, 1) := by decide +kernel
theorem dL_law_1062 : decode cL_law 1062 = .ok (.ireturn, 1) := by decide +kernel
theorem dL_law_1063 : decode cL_law 1063 = .ok (.aload_n 1, 1) := by decide +kernel
theorem dL_law_1064 : decode cL_law 1064 = .ok (.aload_n 0, 1) := by decide +kernel
theorem dL_law_1065 : decode cL_law 1065 = .ok (.iload_n 3, 1) := by decide +kernel
theorem dL_law_1066 : decode cL_law 1066 = .ok (.iconst 1, 1) := by decide +kernel
theorem dL_law_1067 : decode cL_law 1067 = .ok (.iadd, 1) := by decide +kernel
theorem dL_law_1068 : decode cL_law 1068 = .ok (.iaload, 1) := by decide +kernel
theorem dL_law_1069 : decode cL_law 1069 = .ok (.invokevirtual 135, 3) := by decide +kernel
theorem dL_law_1072 : decode cL_law 1072 = .ok (.aload_n 2, 1) := by decide +kernel
theorem dL_law_1073 : decode cL_law 1073 = .ok (.aload_n 0, 1) := by decide +kernel
theorem dL_law_1074 : decode cL_law 1074 = .ok (.iload_n 3, 1) := by decide +kernel
theorem dL_law_1075 : decode cL_law 1075 = .ok (.iconst 1, 1) := by decide +kernel
theorem dL_law_1076 : decode cL_law 1076 = .ok (.iadd, 1) := by decide +kernel
theorem dL_law_1077 : decode cL_law 1077 = .ok (.iaload, 1) := by decide +kernel
theorem dL_law_1078 : decode cL_law 1078 = .ok (.invokevirtual 138, 3) := by decide +kernel
theorem dL_law_1081 : decode cL_law 1081 = .ok (.if_icmp .eq 41, 3) := by decide +kernel
theorem dL_law_1084 : decode cL_law 1084 = .ok (.iconst 0, 1) := by decide +kernel
theorem dL_law_1085 : decode cL_law 1085 = .ok (.ireturn, 1) := by decide +kernel
theorem dL_law_1086 : decode cL_law 1086 = .ok (.aload_n 1, 1) := by decide +kernel
theorem dL_law_1087 : decode cL_law 1087 = .ok (.aload_n 0, 1) := by decide +kernel
theorem dL_law_1088 : decode cL_law 1088 = .ok (.iload_n 3, 1) := by decide +kernel
theorem dL_law_1089 : decode cL_law 1089 = .ok (.iconst 1, 1) := by decide +kernel
theorem dL_law_1090 : decode cL_law 1090 = .ok (.iadd, 1) := by decide +kernel
theorem dL_law_1091 : decode cL_law 1091 = .ok (.iaload, 1) := by decide +kernel
theorem dL_law_1092 : decode cL_law 1092 = .ok (.invokevirtual 139, 3) := by decide +kernel
theorem dL_law_1095 : decode cL_law 1095 = .ok (.aload_n 2, 1) := by decide +kernel
theorem dL_law_1096 : decode cL_law 1096 = .ok (.aload_n 0, 1) := by decide +kernel
theorem dL_law_1097 : decode cL_law 1097 = .ok (.iload_n 3, 1) := by decide +kernel
theorem dL_law_1098 : decode cL_law 1098 = .ok (.iconst 1, 1) := by decide +kernel
theorem dL_law_1099 : decode cL_law 1099 = .ok (.iadd, 1) := by decide +kernel
theorem dL_law_1100 : decode cL_law 1100 = .ok (.iaload, 1) := by decide +kernel
theorem dL_law_1101 : decode cL_law 1101 = .ok (.invokevirtual 142, 3) := by decide +kernel
theorem dL_law_1104 : decode cL_law 1104 = .ok (.if_icmp .eq 18, 3) := by decide +kernel
theorem dL_law_1107 : decode cL_law 1107 = .ok (.iconst 0, 1) := by decide +kernel
theorem dL_law_1108 : decode cL_law 1108 = .ok (.ireturn, 1) := by decide +kernel
theorem dL_law_1109 : decode cL_law 1109 = .ok (.aload_n 1, 1) := by decide +kernel
theorem dL_law_1110 : decode cL_law 1110 = .ok (.invokevirtual 143, 3) := by decide +kernel
theorem dL_law_1113 : decode cL_law 1113 = .ok (.aload_n 2, 1) := by decide +kernel
theorem dL_law_1114 : decode cL_law 1114 = .ok (.invokevirtual 146, 3) := by decide +kernel
theorem dL_law_1117 : decode cL_law 1117 = .ok (.if_icmp .eq 5, 3) := by decide +kernel
theorem dL_law_1120 : decode cL_law 1120 = .ok (.iconst 0, 1) := by decide +kernel
theorem dL_law_1121 : decode cL_law 1121 = .ok (.ireturn, 1) := by decide +kernel
theorem dL_law_1122 : decode cL_law 1122 = .ok (.iinc 3 6, 3) := by decide +kernel
theorem dL_law_1125 : decode cL_law 1125 = .ok (.goto (-1107), 3) := by decide +kernel
theorem dL_law_1128 : decode cL_law 1128 = .ok (.iconst 1, 1) := by decide +kernel
theorem dL_law_1129 : decode cL_law 1129 = .ok (.ireturn, 1) := by decide +kernel
end
section
/-! the ints of all cells, by the cell's number and the place; the cells are numbered in the order in which they are made, from the law's first new on -/
abbrev Sg : Type := Nat → Nat → Int32
def wr (σ : Sg) (k j : Nat) (v : Int32) : Sg := fun a b => if a = k then (if b = j then v else σ a b) else σ a b
def cpy (σ : Sg) (a sp b dp n : Nat) : Sg := fun k j => if k = b then (if dp ≤ j ∧ j < dp + n then σ a (sp + (j - dp)) else σ k j) else σ k j
abbrev Mu : Type := Nat × (Nat → Nat → Bool) × Sg
abbrev Gx : Type := Launch × va_G × Nat × (Nat → ClassId)
abbrev gl (G : Gx) : Launch := G.1
abbrev gD (G : Gx) : va_G := G.2.1
abbrev gb (G : Gx) : Nat := G.2.2.1
abbrev gA (G : Gx) : Nat → ClassId := G.2.2.2
/-- own class, code, locals, room, answer, name, does it make cells -/
abbrev Mx : Type := String × ByteArray × Nat × Room × Option FieldType × String × Bool
abbrev mO (M : Mx) : String := M.1
abbrev mC (M : Mx) : ByteArray := M.2.1
abbrev mL (M : Mx) : Nat := M.2.2.1
abbrev mR (M : Mx) : Room := M.2.2.2.1
abbrev mT (M : Mx) : Option FieldType := M.2.2.2.2.1
abbrev mN (M : Mx) : String := M.2.2.2.2.2.1
abbrev mI (M : Mx) : Bool := M.2.2.2.2.2.2
abbrev rmk (f c s l : Nat) : Room := { frames := f, cells := c, slots := s, locals := l }
/-- how many fields a class has -/
def nf (c : Nat) : Nat := if c = 0 then 3 else if c = 4 then 12 else if c = 6 then 3 else if c = 7 then 5 else if c = 8 then 2 else if c = 10 then 12 else if c = 11 then 22 else 0
/-- what a cell is: a class's number, or 20 ints, 21 booleans, 22 rows, 23 houses, 24 persons with a length -/
def shp (k : Nat) : Nat × Nat :=
  if k = 0 then (10, 0) else if k = 1 then (22, 8) else if k = 2 then (7, 0) else if k = 3 then (20, 120)
  else if k < 16 then (if (k - 4) % 6 = 0 then (4, 0) else (20, 6))
  else if k = 16 then (23, 2) else if k = 17 then (21, 2) else if k = 18 then (0, 0) else if k = 19 then (23, 24)
  else if k < 164 then (if (k - 20) % 6 = 0 then (4, 0) else (20, 6))
  else if k = 164 then (24, 5) else if k = 165 then (2, 0) else if k = 166 then (9, 0) else if k = 167 then (5, 0) else if k = 168 then (1, 0) else if k = 169 then (3, 0)
  else if k = 170 then (8, 0) else if k = 171 then (20, 16)
  else if k < 188 then (if (k - 172) % 2 = 0 then (6, 0) else (20, 40))
  else if k < 200 then (if (k - 188) % 6 = 0 then (4, 0) else (20, 6))
  else if k = 200 then (11, 0) else if k = 201 then (20, 8) else if k = 202 then (20, 8) else if k = 203 then (20, 320) else if k = 204 then (20, 40) else if k = 205 then (20, 120)
  else if k = 206 then (20, 41) else if k = 207 then (20, 41) else if k = 208 then (20, 41) else if k = 209 then (20, 984) else if k = 210 then (20, 82) else if k = 211 then (21, 2) else (20, 16)
/-- the cell that a field, or a place of an array of cells, names -/
def rfs (k j : Nat) : Option Nat :=
  if k = 0 then (if j = 0 then some 1 else if j = 1 then some 2 else if j = 2 then some 4 else if j = 3 then some 10 else if j = 4 then some 16 else if j = 5 then some 17 else if j = 6 then some 18 else if j = 7 then some 164 else if j = 8 then some 170 else none)
  else if k = 1 then some (172 + 2 * j)
  else if k = 2 then (if j = 0 then some 3 else none)
  else if k = 16 then some (188 + 6 * j)
  else if k = 18 then (if j = 0 then some 19 else none)
  else if k = 19 then some (20 + 6 * j)
  else if k = 164 then some (165 + j)
  else if k = 170 then (if j = 0 then some 171 else none)
  else if k = 200 then (if j = 0 then some 201 else if j = 1 then some 202 else if j = 2 then some 203 else if j = 3 then some 204 else if j = 5 then some 205 else if j = 13 then some 206 else if j = 14 then some 207 else if j = 15 then some 208 else if j = 16 then some 209 else if j = 18 then some 210 else if j = 19 then some 211 else if j = 20 then some 212 else none)
  else if (shp k).1 = 4 then (if j < 5 then some (k + 1 + j) else none)
  else if (shp k).1 = 6 then (if j = 0 then some (k + 1) else none)
  else none
def fv (b : Nat) (μ : Mu) (k j : Nat) : Value := match rfs k j with
  | some t => if μ.2.1 k j = true then .ref (b + t) else .null
  | none => .int (μ.2.2 k j)
def ent (G : Gx) (μ : Mu) (k : Nat) : va_E :=
  if (shp k).1 < 20 then .inr ((shp k).1, (List.range (nf (shp k).1)).map (fv (gb G) μ k))
  else if (shp k).1 < 22 then .inl (gA G ((shp k).1 - 20), (shp k).2, .inl (μ.2.2 k))
  else .inl (gA G ((shp k).1 - 20), (shp k).2, .inr (.inr (.inr (.inr (fun i => if μ.2.1 k i = true then (rfs k i).map (fun t => gb G + t) else none)))))
def wd (G : Gx) (μ : Mu) : va_W := (List.range μ.1).map (fun k => (gb G + k, ent G μ k))
abbrev tys (G : Gx) : List (ClassId × FieldType) := [(gA G 0, .int), (gA G 1, .boolean), (gA G 2, .object RX7), (gA G 3, .object RX4), (gA G 4, .object RX6)]
abbrev full (σ : Sg) : Mu := (213, fun _ _ => true, σ)
theorem wd_at {G : Gx} {μ : Mu} {k : Nat} (h : k < μ.1) : (wd G μ)[k]? = some (gb G + k, ent G μ k) := by
  unfold wd
  rw [List.getElem?_map, List.getElem?_range h]
  rfl
theorem wd_len (G : Gx) (μ : Mu) : (wd G μ).length = μ.1 := by simp [wd]
theorem wd_D (G : Gx) (μ : Mu) : va_D (fun q => gb G ≤ q) (wd G μ) := by
  have key : ∀ (i : Nat) (p : Nat × va_E), (wd G μ)[i]? = some p → p.1 = gb G + i := by
    intro i p h
    have hi : i < μ.1 := by rw [← wd_len G μ]; exact (List.getElem?_eq_some_iff.mp h).1
    rw [wd_at hi] at h
    cases h
    rfl
  refine ⟨fun i j p q hp hq e => ?_, fun k q h => ?_⟩
  · have h1 := key i p hp
    have h2 := key j q hq
    omega
  · have h1 := key k q h
    show gb G ≤ q.1
    omega
/-- one cell of the list is put anew -/
theorem wd_set {G : Gx} {μ μ' : Mu} {k : Nat} {e : va_E} (hn : μ'.1 = μ.1) (he : ent G μ' k = e) (ho : ∀ a, a ≠ k → ent G μ' a = ent G μ a) : (wd G μ).set k (gb G + k, e) = wd G μ' := by
  apply List.ext_getElem?
  intro i
  rw [List.getElem?_set]
  by_cases hk : k = i
  · subst hk
    by_cases hi : k < μ.1
    · rw [if_pos rfl, if_pos (by rw [wd_len]; exact hi), wd_at (by rw [hn]; exact hi), he]
    · rw [if_pos rfl, if_neg (by rw [wd_len]; exact hi)]
      exact (List.getElem?_eq_none (by rw [wd_len, hn]; omega)).symm
  · rw [if_neg hk]
    by_cases hi : i < μ.1
    · rw [wd_at hi, wd_at (by rw [hn]; exact hi), ho i (fun q => hk q.symm)]
    · rw [List.getElem?_eq_none (by rw [wd_len]; omega), List.getElem?_eq_none (by rw [wd_len, hn]; omega)]
/-! what is given of the tables beside the good words -/
def nestL : List (String × Nat × MethodName) := [(RX11, 17, yX8_init), (RX11, 24, yX4_init), (RX0, 15, yX4_init), (RX11, 51, yX2_init), (RX2, 1, yX6_init), (RX11, 54, yX10_init), (RX10, 1, yX2_init), (RX11, 57, yX5_init), (RX5, 1, yX2_init), (RX11, 60, yX1_init), (RX1, 1, yX6_init), (RX11, 63, yX3_init), (RX3, 1, yX1_init), (RX11, 70, yX9_init), (RX11, 75, yX7_init)]
def aoL : List String := [RX7, RX4, RX6]
def cyL : List (String × String) := [(RX5, RX2), (RX10, RX2), (RX3, RX1), (RX2, RX6), (RX10, RX6), (RX5, RX6), (RX1, RX6), (RX3, RX6)]
def ncL : List (String × String) := [(RX2, RX10), (RX2, RX5), (RX2, RX1), (RX2, RX3), (RX10, RX5), (RX10, RX1), (RX10, RX3), (RX5, RX10), (RX5, RX1), (RX5, RX3), (RX1, RX2), (RX1, RX10), (RX1, RX5), (RX1, RX3), (RX3, RX2), (RX3, RX10), (RX3, RX5)]
def Ex (U : State) : Prop := (∀ q ∈ nestL, va_Nw (.methodLinkNest q.1 q.2.1 q.2.2 "LiftEnvy") U) ∧ (∀ C ∈ aoL, va_AO C U) ∧ (∀ q ∈ cyL, va_Nw (.castable q.1 q.2) U) ∧ ∀ q ∈ ncL, va_Nc q.1 q.2 U
theorem Ex.warm {s U : State} (hW : s.WarmedH U.vm) (h : Ex s) : Ex U := ⟨fun q hq => va_Nw.warmM hW (h.1 q hq), fun C hC => va_AO.moved hW.alike (h.2.1 C hC), fun q hq => va_Nw.warmC hW (h.2.2.1 q hq), fun q hq => va_Nc.moved hW.alike (h.2.2.2 q hq)⟩
theorem Ex.calling {U : State} {g : JFrame} {mk : MethodId} {a : Array Value} (h : Ex U) : Ex (U.calling g mk a) := ⟨fun q hq => va_Nw.same rfl rfl (h.1 q hq), fun C hC => va_AO.moved (Vm.Alike.refl U.vm) (h.2.1 C hC), fun q hq => va_Nw.same rfl rfl (h.2.2.1 q hq), fun q hq => va_Nc.moved (Vm.Alike.refl U.vm) (h.2.2.2 q hq)⟩
def Kx (G : Gx) (U : State) : Prop := va_K (gD G) vwCl (tys G) U ∧ Ex U
theorem Kx.warm {G : Gx} {s U : State} (hW : s.WarmedH U.vm) (h : Kx G s) : Kx G U := ⟨va_K.moved hW.alike h.1, h.2.warm hW⟩
def Pcm (G : Gx) (f : Bool) (av : List Value) (μ : Mu) : Array Value → State → Prop := fun v U => v = av.toArray ∧ gb G ≤ U.heap.size ∧ (f = true → U.heap.size = gb G + μ.1) ∧ va_P (gD G) vwCl (wd G μ) U.heap ∧ Kx G U
def Qcm (G : Gx) (f : Bool) (o : Option Value) (μ' : Mu) : Array Value → State → Outcome → State → Prop := fun _ st oc t => oc = .returned o ∧ (f = true → t.heap.size = gb G + μ'.1) ∧ va_P (gD G) vwCl (wd G μ') t.heap ∧ va_F (fun q => gb G ≤ q) st t
theorem Pcm.blind (G : Gx) (f : Bool) (av : List Value) (μ : Mu) : FrameBlind (Pcm G f av μ) := fun a U g mk q => ⟨q.1, q.2.1, q.2.2.1, q.2.2.2.1, va_K.moved (u := U) (U := U.calling g mk a) (Vm.Alike.refl U.vm) q.2.2.2.2.1, q.2.2.2.2.2.calling⟩
/-- a method's contract over the cells: called with av where the cells hold μ, it returns o, and they hold μ' -/
def Ev (G : Gx) (y : MethodName) (M : Mx) (av : List Value) (μ : Mu) (o : Option Value) (μ' : Mu) (mc ms : Nat) : Prop :=
  Met (gl G) y (.code y (mC M) (mL M) (mT M) :: tG) (mR M) (Pcm G (mI M) av μ) (Qcm G (mI M) o μ') mc ms (fun q => gb G ≤ q)
abbrev Cx (G : Gx) (M : Mx) (p : Program) (s : State) (m : MethodId) (args : Array Value) (meth : Method) (c : Code) : Prop :=
  p.tables.exec = Jvm.exec ∧ c.code = mC M ∧ c.maxLocals = mL M ∧ meth.sig.returnType = mT M ∧ meth.locks = false ∧ s.vm.findClass (mO M) = some m.cls ∧ (∀ w ∈ tG, w.before args s = true) ∧ Kx G s ∧ gb G ≤ s.heap.size ∧ meth.name = mN M
/-- the machine stands in method M at pc with locals L and stack S, the cells hold μ: it comes to the method's end with o and μ' -/
def V (G : Gx) (M : Mx) (o : Option Value) (μ' : Mu) (mc ms : Nat) (pc : Nat) (L : List (Nat × Value)) (S : List Value) (μ : Mu) (c1 s1 : Nat) : Prop :=
  ∀ (p : Program) (e : Env) (s : State) (m : MethodId) (args : Array Value) (below : List Frame) (meth : Method) (c : Code) (H : Heap) (locs : List Loc) (ls : Array Slot),
    Cx G M p s m args meth c → va_P (gD G) vwCl (wd G μ) H → (mI M = true → H.size = gb G + μ.1) → va_S (fun q => gb G ≤ q) s.heap H locs → lv_has ls (mL M) L →
    W p (gl G) e (mR M) s m args below meth c H locs c1 s1 (MQ below (Qcm G (mI M) o μ') args s mc ms (fun q => gb G ≤ q)) (F0 m pc ls S)
theorem Ev.of {G : Gx} {y : MethodName} {M : Mx} {av : List Value} {μ : Mu} {o : Option Value} {μ' : Mu} {mc ms : Nat} (hy : plainName y.cls = true) (ho : y.cls = mO M) (hn : y.name = mN M) (hl : (lg_sl av).length ≤ mL M)
    (h : V G M o μ' mc ms 0 (lv_args 0 av) [] μ 0 0) : Ev G y M av μ o μ' mc ms := by
  refine Met.ofW (cc := mC M) (maxL := mL M) (ret := mT M) hy rfl ?_
  intro p e s m args below meth c s₁ B hml hv
  obtain ⟨rfl, hb0, hz, hP, hK⟩ := hv
  have hts := atoms_spec (ws := .code y (mC M) (mL M) (mT M) :: tG) B.pre
  have hls := lv_entry av (n := mL M) hl
  rw [lg_entry_eq]
  exact h p e s m _ below meth c s.heap [] _ ⟨B.exec, B.bytes, hml, B.returns, B.notSynchronized, by rw [← ho]; exact findClass_of_methodNamed B.named, fun w hw => hts w (List.mem_cons_of_mem _ hw), hK, hb0, by rw [← hn]; exact (name_of_methodNamed B.named B.method).1⟩ hP hz va_S.rf hls
/-- what is known of a class -/
def ClsOk (ci : Nat) (C : String) (T : u_T) (ty : Nat → FieldType) : Prop := vwCl[ci]? = some (C, T, nf ci) ∧ (∀ w ∈ u_ws C T (nf ci), w ∈ tG) ∧ (∀ k, k < nf ci → parseFieldDescriptor (T k).2.2.1 = some (ty k)) ∧ ∀ a, a < nf ci → ∀ b, b < nf ci → a ≠ b → (T a).2.1 ≠ (T b).2.1
/-- a field named by a class's constant -/
def Fs (own : String) (idx ci j : Nat) (ty1 : FieldType) (fin : Bool) : Prop := ∃ (C : String) (T : u_T) (ty : Nat → FieldType), ClsOk ci C T ty ∧ j < nf ci ∧ Cond.fieldLink own idx (T j).1 (T j).2.1 (T j).2.2.1 ∈ tG ∧ ty j = ty1 ∧ (T j).2.2.2 = fin ∧ (T j).1 = C
/-- what a call of y asks of the tables -/
def Yk (y : MethodName) (M : Mx) (n : Nat) : Prop := Cond.code y (mC M) (mL M) (mT M) ∈ tG ∧ Cond.initialized y.cls ∈ tG ∧ (y.cls ≠ "java/lang/invoke/MethodHandle" ∧ y.cls ≠ "java/lang/invoke/VarHandle") ∧ (parseMethodDescriptor y.desc).map (fun d => d.parameters.length) = some n
def inb (i : Int32) (n : Nat) : Bool := !(decide (i < 0) || decide (n ≤ i.toNatClampNeg))
theorem inb_in {i : Int32} {n : Nat} (h : inb i n = true) : vp_in i n := by
  unfold inb at h
  unfold vp_in
  simp only [Bool.not_eq_true', Bool.or_eq_false_iff, decide_eq_false_iff_not] at h
  exact fun q => q.elim h.1 h.2
abbrev ix (i : Int32) : Nat := i.toNatClampNeg
theorem guard_some {α : Type} {c : Bool} {x : Option α} {r : α} (h : (if c = true then x else none) = some r) : c = true ∧ x = some r := by
  cases c with
  | true => exact ⟨rfl, h⟩
  | false => cases h
theorem bind_some {α β : Type} {x : Option α} {f : α → Option β} {r : β} (h : x.bind f = some r) : ∃ a, x = some a ∧ f a = some r := by
  cases x with
  | none => cases h
  | some a => exact ⟨a, rfl, h⟩
end
section
theorem v_iconst {G : Gx} {M : Mx} {o : Option Value} {μ μ' : Mu} {mc ms c1 s1 pc : Nat} {L : List (Nat × Value)} {S : List Value} {n : Int} (hd : decode (mC M) pc = .ok (.iconst n, 1)) {v : Int32} (hv : Int32.ofInt n = v) (k : V G M o μ' mc ms (pc + 1) L (.int v :: S) μ c1 s1) : V G M o μ' mc ms pc L S μ c1 s1 :=
  fun p e s m args below meth c H locs ls C hP hz hS hl => lv_iconst C.1 C.2.1 hd hv (k p e s m args below meth c H locs ls C hP hz hS hl)
theorem v_bipush {G : Gx} {M : Mx} {o : Option Value} {μ μ' : Mu} {mc ms c1 s1 pc : Nat} {L : List (Nat × Value)} {S : List Value} {n : Int} (hd : decode (mC M) pc = .ok (.bipush n, 2)) {v : Int32} (hv : (Int8.ofInt n).toInt32 = v) (k : V G M o μ' mc ms (pc + 2) L (.int v :: S) μ c1 s1) : V G M o μ' mc ms pc L S μ c1 s1 :=
  fun p e s m args below meth c H locs ls C hP hz hS hl => lv_bipush C.1 C.2.1 hd hv (k p e s m args below meth c H locs ls C hP hz hS hl)
theorem v_sipush {G : Gx} {M : Mx} {o : Option Value} {μ μ' : Mu} {mc ms c1 s1 pc : Nat} {L : List (Nat × Value)} {S : List Value} {n : Int} (hd : decode (mC M) pc = .ok (.sipush n, 3)) {v : Int32} (hv : (Int16.ofInt n).toInt32 = v) (k : V G M o μ' mc ms (pc + 3) L (.int v :: S) μ c1 s1) : V G M o μ' mc ms pc L S μ c1 s1 :=
  fun p e s m args below meth c H locs ls C hP hz hS hl => lv_sipush C.1 C.2.1 hd hv (k p e s m args below meth c H locs ls C hP hz hS hl)
theorem v_lconst {G : Gx} {M : Mx} {o : Option Value} {μ μ' : Mu} {mc ms c1 s1 pc : Nat} {L : List (Nat × Value)} {S : List Value} {n : Fin 2} (hd : decode (mC M) pc = .ok (.lconst n, 1)) {v : Int64} (hv : Int64.ofNat (n : Nat) = v) (k : V G M o μ' mc ms (pc + 1) L (.long v :: S) μ c1 s1) : V G M o μ' mc ms pc L S μ c1 s1 :=
  fun p e s m args below meth c H locs ls C hP hz hS hl => lv_lconst C.1 C.2.1 hd hv (k p e s m args below meth c H locs ls C hP hz hS hl)
theorem v_ldc {G : Gx} {M : Mx} {o : Option Value} {μ μ' : Mu} {mc ms c1 s1 pc : Nat} {L : List (Nat × Value)} {S : List Value} {i : Nat} (hd : decode (mC M) pc = .ok (.ldc i, 2)) {v : Int32} (hw : Cond.constant (mO M) i v ∈ tG) (k : V G M o μ' mc ms (pc + 2) L (.int v :: S) μ c1 s1) : V G M o μ' mc ms pc L S μ c1 s1 :=
  fun p e s m args below meth c H locs ls C hP hz hS hl => lv_ldc C.1 C.2.1 C.2.2.2.2.2.1 (C.2.2.2.2.2.2.1 _ hw) hd (k p e s m args below meth c H locs ls C hP hz hS hl)
theorem v_ldcw {G : Gx} {M : Mx} {o : Option Value} {μ μ' : Mu} {mc ms c1 s1 pc : Nat} {L : List (Nat × Value)} {S : List Value} {i : Nat} (hd : decode (mC M) pc = .ok (.ldc_w i, 3)) {v : Int32} (hw : Cond.constant (mO M) i v ∈ tG) (k : V G M o μ' mc ms (pc + 3) L (.int v :: S) μ c1 s1) : V G M o μ' mc ms pc L S μ c1 s1 :=
  fun p e s m args below meth c H locs ls C hP hz hS hl => lv_ldcw C.1 C.2.1 C.2.2.2.2.2.1 (C.2.2.2.2.2.2.1 _ hw) hd (k p e s m args below meth c H locs ls C hP hz hS hl)
theorem v_ldc2 {G : Gx} {M : Mx} {o : Option Value} {μ μ' : Mu} {mc ms c1 s1 pc : Nat} {L : List (Nat × Value)} {S : List Value} {i : Nat} (hd : decode (mC M) pc = .ok (.ldc2_w i, 3)) {v : Int64} (hw : Cond.constantLong (mO M) i v ∈ tG) (k : V G M o μ' mc ms (pc + 3) L (.long v :: S) μ c1 s1) : V G M o μ' mc ms pc L S μ c1 s1 :=
  fun p e s m args below meth c H locs ls C hP hz hS hl => lv_ldc2 C.1 C.2.1 C.2.2.2.2.2.1 (C.2.2.2.2.2.2.1 _ hw) hd (k p e s m args below meth c H locs ls C hP hz hS hl)
theorem v_iload_n {G : Gx} {M : Mx} {o : Option Value} {μ μ' : Mu} {mc ms c1 s1 pc : Nat} {L : List (Nat × Value)} {S : List Value} {j : Fin 4} {i : Nat} {x : Int32} (hd : decode (mC M) pc = .ok (.iload_n j, 1)) (q : Nat) (hq : L[q]? = some (i, .int x)) (hi : (j : Nat) = i) (k : V G M o μ' mc ms (pc + 1) L (.int x :: S) μ c1 s1) : V G M o μ' mc ms pc L S μ c1 s1 :=
  fun p e s m args below meth c H locs ls C hP hz hS hl => lv_iload_n C.1 C.2.1 hd hi (lv_at hl q hq) (k p e s m args below meth c H locs ls C hP hz hS hl)
theorem v_iload {G : Gx} {M : Mx} {o : Option Value} {μ μ' : Mu} {mc ms c1 s1 pc : Nat} {L : List (Nat × Value)} {S : List Value} {i : Nat} {x : Int32} (hd : decode (mC M) pc = .ok (.iload i, 2)) (q : Nat) (hq : L[q]? = some (i, .int x)) (k : V G M o μ' mc ms (pc + 2) L (.int x :: S) μ c1 s1) : V G M o μ' mc ms pc L S μ c1 s1 :=
  fun p e s m args below meth c H locs ls C hP hz hS hl => lv_iload C.1 C.2.1 hd (lv_at hl q hq) (k p e s m args below meth c H locs ls C hP hz hS hl)
theorem v_istore_n {G : Gx} {M : Mx} {o : Option Value} {μ μ' : Mu} {mc ms c1 s1 pc : Nat} {L : List (Nat × Value)} {S : List Value} {j : Fin 4} {i : Nat} {x : Int32} {L2 : List (Nat × Value)} (hd : decode (mC M) pc = .ok (.istore_n j, 1)) (ks : List Nat) (hk : lv_pick ((i, Value.int x) :: L.filter (fun q => !(q.1 == i) && !(q.1 + 1 == i && q.2.category == 2))) ks = L2) (hn : i < mL M) (hi : (j : Nat) = i) (k : V G M o μ' mc ms (pc + 1) L2 S μ c1 s1) : V G M o μ' mc ms pc L (.int x :: S) μ c1 s1 :=
  fun p e s m args below meth c H locs ls C hP hz hS hl => lv_istore_n C.1 C.2.1 hd hi hl hn rfl (fun ls2 h2 => k p e s m args below meth c H locs ls2 C hP hz hS (lv_sub h2 ks hk))
theorem v_istore {G : Gx} {M : Mx} {o : Option Value} {μ μ' : Mu} {mc ms c1 s1 pc : Nat} {L : List (Nat × Value)} {S : List Value} {i : Nat} {x : Int32} {L2 : List (Nat × Value)} (hd : decode (mC M) pc = .ok (.istore i, 2)) (ks : List Nat) (hk : lv_pick ((i, Value.int x) :: L.filter (fun q => !(q.1 == i) && !(q.1 + 1 == i && q.2.category == 2))) ks = L2) (hn : i < mL M) (k : V G M o μ' mc ms (pc + 2) L2 S μ c1 s1) : V G M o μ' mc ms pc L (.int x :: S) μ c1 s1 :=
  fun p e s m args below meth c H locs ls C hP hz hS hl => lv_istore C.1 C.2.1 hd hl hn rfl (fun ls2 h2 => k p e s m args below meth c H locs ls2 C hP hz hS (lv_sub h2 ks hk))
theorem v_lload_n {G : Gx} {M : Mx} {o : Option Value} {μ μ' : Mu} {mc ms c1 s1 pc : Nat} {L : List (Nat × Value)} {S : List Value} {j : Fin 4} {i : Nat} {x : Int64} (hd : decode (mC M) pc = .ok (.lload_n j, 1)) (q : Nat) (hq : L[q]? = some (i, .long x)) (hi : (j : Nat) = i) (k : V G M o μ' mc ms (pc + 1) L (.long x :: S) μ c1 s1) : V G M o μ' mc ms pc L S μ c1 s1 :=
  fun p e s m args below meth c H locs ls C hP hz hS hl => lv_lload_n C.1 C.2.1 hd hi (lv_at hl q hq) (k p e s m args below meth c H locs ls C hP hz hS hl)
theorem v_lload {G : Gx} {M : Mx} {o : Option Value} {μ μ' : Mu} {mc ms c1 s1 pc : Nat} {L : List (Nat × Value)} {S : List Value} {i : Nat} {x : Int64} (hd : decode (mC M) pc = .ok (.lload i, 2)) (q : Nat) (hq : L[q]? = some (i, .long x)) (k : V G M o μ' mc ms (pc + 2) L (.long x :: S) μ c1 s1) : V G M o μ' mc ms pc L S μ c1 s1 :=
  fun p e s m args below meth c H locs ls C hP hz hS hl => lv_lload C.1 C.2.1 hd (lv_at hl q hq) (k p e s m args below meth c H locs ls C hP hz hS hl)
theorem v_lstore_n {G : Gx} {M : Mx} {o : Option Value} {μ μ' : Mu} {mc ms c1 s1 pc : Nat} {L : List (Nat × Value)} {S : List Value} {j : Fin 4} {i : Nat} {x : Int64} {L2 : List (Nat × Value)} (hd : decode (mC M) pc = .ok (.lstore_n j, 1)) (ks : List Nat) (hk : lv_pick ((i, Value.long x) :: L.filter (fun q => !(q.1 == i) && (!(q.1 == i + 1) && !(q.1 + 1 == i && q.2.category == 2)))) ks = L2) (hn : i + 1 < mL M) (hi : (j : Nat) = i) (k : V G M o μ' mc ms (pc + 1) L2 S μ c1 s1) : V G M o μ' mc ms pc L (.long x :: S) μ c1 s1 :=
  fun p e s m args below meth c H locs ls C hP hz hS hl => lv_lstore_n C.1 C.2.1 hd hi hl hn rfl (fun ls2 h2 => k p e s m args below meth c H locs ls2 C hP hz hS (lv_sub h2 ks hk))
theorem v_lstore {G : Gx} {M : Mx} {o : Option Value} {μ μ' : Mu} {mc ms c1 s1 pc : Nat} {L : List (Nat × Value)} {S : List Value} {i : Nat} {x : Int64} {L2 : List (Nat × Value)} (hd : decode (mC M) pc = .ok (.lstore i, 2)) (ks : List Nat) (hk : lv_pick ((i, Value.long x) :: L.filter (fun q => !(q.1 == i) && (!(q.1 == i + 1) && !(q.1 + 1 == i && q.2.category == 2)))) ks = L2) (hn : i + 1 < mL M) (k : V G M o μ' mc ms (pc + 2) L2 S μ c1 s1) : V G M o μ' mc ms pc L (.long x :: S) μ c1 s1 :=
  fun p e s m args below meth c H locs ls C hP hz hS hl => lv_lstore C.1 C.2.1 hd hl hn rfl (fun ls2 h2 => k p e s m args below meth c H locs ls2 C hP hz hS (lv_sub h2 ks hk))
theorem v_aload_n {G : Gx} {M : Mx} {o : Option Value} {μ μ' : Mu} {mc ms c1 s1 pc : Nat} {L : List (Nat × Value)} {S : List Value} {j : Fin 4} {i : Nat} {x : Nat} (hd : decode (mC M) pc = .ok (.aload_n j, 1)) (q : Nat) (hq : L[q]? = some (i, .ref x)) (hi : (j : Nat) = i) (k : V G M o μ' mc ms (pc + 1) L (.ref x :: S) μ c1 s1) : V G M o μ' mc ms pc L S μ c1 s1 :=
  fun p e s m args below meth c H locs ls C hP hz hS hl => lv_aload_n C.1 C.2.1 hd hi (lv_at hl q hq) (k p e s m args below meth c H locs ls C hP hz hS hl)
theorem v_aload {G : Gx} {M : Mx} {o : Option Value} {μ μ' : Mu} {mc ms c1 s1 pc : Nat} {L : List (Nat × Value)} {S : List Value} {i : Nat} {x : Nat} (hd : decode (mC M) pc = .ok (.aload i, 2)) (q : Nat) (hq : L[q]? = some (i, .ref x)) (k : V G M o μ' mc ms (pc + 2) L (.ref x :: S) μ c1 s1) : V G M o μ' mc ms pc L S μ c1 s1 :=
  fun p e s m args below meth c H locs ls C hP hz hS hl => lv_aload C.1 C.2.1 hd (lv_at hl q hq) (k p e s m args below meth c H locs ls C hP hz hS hl)
theorem v_astore_n {G : Gx} {M : Mx} {o : Option Value} {μ μ' : Mu} {mc ms c1 s1 pc : Nat} {L : List (Nat × Value)} {S : List Value} {j : Fin 4} {i : Nat} {x : Nat} {L2 : List (Nat × Value)} (hd : decode (mC M) pc = .ok (.astore_n j, 1)) (ks : List Nat) (hk : lv_pick ((i, Value.ref x) :: L.filter (fun q => !(q.1 == i) && !(q.1 + 1 == i && q.2.category == 2))) ks = L2) (hn : i < mL M) (hi : (j : Nat) = i) (k : V G M o μ' mc ms (pc + 1) L2 S μ c1 s1) : V G M o μ' mc ms pc L (.ref x :: S) μ c1 s1 :=
  fun p e s m args below meth c H locs ls C hP hz hS hl => lv_astore_n C.1 C.2.1 hd hi hl hn rfl (fun ls2 h2 => k p e s m args below meth c H locs ls2 C hP hz hS (lv_sub h2 ks hk))
theorem v_astore {G : Gx} {M : Mx} {o : Option Value} {μ μ' : Mu} {mc ms c1 s1 pc : Nat} {L : List (Nat × Value)} {S : List Value} {i : Nat} {x : Nat} {L2 : List (Nat × Value)} (hd : decode (mC M) pc = .ok (.astore i, 2)) (ks : List Nat) (hk : lv_pick ((i, Value.ref x) :: L.filter (fun q => !(q.1 == i) && !(q.1 + 1 == i && q.2.category == 2))) ks = L2) (hn : i < mL M) (k : V G M o μ' mc ms (pc + 2) L2 S μ c1 s1) : V G M o μ' mc ms pc L (.ref x :: S) μ c1 s1 :=
  fun p e s m args below meth c H locs ls C hP hz hS hl => lv_astore C.1 C.2.1 hd hl hn rfl (fun ls2 h2 => k p e s m args below meth c H locs ls2 C hP hz hS (lv_sub h2 ks hk))
theorem v_iinc {G : Gx} {M : Mx} {o : Option Value} {μ μ' : Mu} {mc ms c1 s1 pc : Nat} {L : List (Nat × Value)} {S : List Value} {i : Nat} {n : Int} {x v : Int32} {L2 : List (Nat × Value)} (hd : decode (mC M) pc = .ok (.iinc i n, 3)) (q : Nat) (hq : L[q]? = some (i, .int x)) (hv : x + Int32.ofInt n = v) (ks : List Nat) (hk : lv_pick ((i, Value.int v) :: L.filter (fun q => !(q.1 == i) && !(q.1 + 1 == i && q.2.category == 2))) ks = L2) (hn : i < mL M) (k : V G M o μ' mc ms (pc + 3) L2 S μ c1 s1) : V G M o μ' mc ms pc L S μ c1 s1 :=
  fun p e s m args below meth c H locs ls C hP hz hS hl => lv_iinc C.1 C.2.1 hd hl hq hv hn rfl (fun ls2 h2 => k p e s m args below meth c H locs ls2 C hP hz hS (lv_sub h2 ks hk))
theorem v_iadd {G : Gx} {M : Mx} {o : Option Value} {μ μ' : Mu} {mc ms c1 s1 pc : Nat} {L : List (Nat × Value)} {S : List Value} {x y : Int32} (hd : decode (mC M) pc = .ok (.iadd, 1))  (k : V G M o μ' mc ms (pc + 1) L (.int (x + y) :: S) μ c1 s1) : V G M o μ' mc ms pc L (.int y :: .int x :: S) μ c1 s1 :=
  fun p e s m args below meth c H locs ls C hP hz hS hl => lv_iadd C.1 C.2.1 hd (k p e s m args below meth c H locs ls C hP hz hS hl)
theorem v_isub {G : Gx} {M : Mx} {o : Option Value} {μ μ' : Mu} {mc ms c1 s1 pc : Nat} {L : List (Nat × Value)} {S : List Value} {x y : Int32} (hd : decode (mC M) pc = .ok (.isub, 1))  (k : V G M o μ' mc ms (pc + 1) L (.int (x - y) :: S) μ c1 s1) : V G M o μ' mc ms pc L (.int y :: .int x :: S) μ c1 s1 :=
  fun p e s m args below meth c H locs ls C hP hz hS hl => lv_isub C.1 C.2.1 hd (k p e s m args below meth c H locs ls C hP hz hS hl)
theorem v_imul {G : Gx} {M : Mx} {o : Option Value} {μ μ' : Mu} {mc ms c1 s1 pc : Nat} {L : List (Nat × Value)} {S : List Value} {x y : Int32} (hd : decode (mC M) pc = .ok (.imul, 1))  (k : V G M o μ' mc ms (pc + 1) L (.int (x * y) :: S) μ c1 s1) : V G M o μ' mc ms pc L (.int y :: .int x :: S) μ c1 s1 :=
  fun p e s m args below meth c H locs ls C hP hz hS hl => lv_imul C.1 C.2.1 hd (k p e s m args below meth c H locs ls C hP hz hS hl)
theorem v_iand {G : Gx} {M : Mx} {o : Option Value} {μ μ' : Mu} {mc ms c1 s1 pc : Nat} {L : List (Nat × Value)} {S : List Value} {x y : Int32} (hd : decode (mC M) pc = .ok (.iand, 1))  (k : V G M o μ' mc ms (pc + 1) L (.int (x &&& y) :: S) μ c1 s1) : V G M o μ' mc ms pc L (.int y :: .int x :: S) μ c1 s1 :=
  fun p e s m args below meth c H locs ls C hP hz hS hl => lv_iand C.1 C.2.1 hd (k p e s m args below meth c H locs ls C hP hz hS hl)
theorem v_ior {G : Gx} {M : Mx} {o : Option Value} {μ μ' : Mu} {mc ms c1 s1 pc : Nat} {L : List (Nat × Value)} {S : List Value} {x y : Int32} (hd : decode (mC M) pc = .ok (.ior, 1))  (k : V G M o μ' mc ms (pc + 1) L (.int (x ||| y) :: S) μ c1 s1) : V G M o μ' mc ms pc L (.int y :: .int x :: S) μ c1 s1 :=
  fun p e s m args below meth c H locs ls C hP hz hS hl => lv_ior C.1 C.2.1 hd (k p e s m args below meth c H locs ls C hP hz hS hl)
theorem v_ixor {G : Gx} {M : Mx} {o : Option Value} {μ μ' : Mu} {mc ms c1 s1 pc : Nat} {L : List (Nat × Value)} {S : List Value} {x y : Int32} (hd : decode (mC M) pc = .ok (.ixor, 1))  (k : V G M o μ' mc ms (pc + 1) L (.int (x ^^^ y) :: S) μ c1 s1) : V G M o μ' mc ms pc L (.int y :: .int x :: S) μ c1 s1 :=
  fun p e s m args below meth c H locs ls C hP hz hS hl => lv_ixor C.1 C.2.1 hd (k p e s m args below meth c H locs ls C hP hz hS hl)
theorem v_ishl {G : Gx} {M : Mx} {o : Option Value} {μ μ' : Mu} {mc ms c1 s1 pc : Nat} {L : List (Nat × Value)} {S : List Value} {x y : Int32} (hd : decode (mC M) pc = .ok (.ishl, 1))  (k : V G M o μ' mc ms (pc + 1) L (.int (x <<< (y &&& 31)) :: S) μ c1 s1) : V G M o μ' mc ms pc L (.int y :: .int x :: S) μ c1 s1 :=
  fun p e s m args below meth c H locs ls C hP hz hS hl => lv_ishl C.1 C.2.1 hd (k p e s m args below meth c H locs ls C hP hz hS hl)
theorem v_ishr {G : Gx} {M : Mx} {o : Option Value} {μ μ' : Mu} {mc ms c1 s1 pc : Nat} {L : List (Nat × Value)} {S : List Value} {x y : Int32} (hd : decode (mC M) pc = .ok (.ishr, 1))  (k : V G M o μ' mc ms (pc + 1) L (.int (x >>> (y &&& 31)) :: S) μ c1 s1) : V G M o μ' mc ms pc L (.int y :: .int x :: S) μ c1 s1 :=
  fun p e s m args below meth c H locs ls C hP hz hS hl => lv_ishr C.1 C.2.1 hd (k p e s m args below meth c H locs ls C hP hz hS hl)
theorem v_iushr {G : Gx} {M : Mx} {o : Option Value} {μ μ' : Mu} {mc ms c1 s1 pc : Nat} {L : List (Nat × Value)} {S : List Value} {x y : Int32} (hd : decode (mC M) pc = .ok (.iushr, 1))  (k : V G M o μ' mc ms (pc + 1) L (.int (x.toUInt32 >>> (y.toUInt32 &&& Int32.toUInt32 31)).toInt32 :: S) μ c1 s1) : V G M o μ' mc ms pc L (.int y :: .int x :: S) μ c1 s1 :=
  fun p e s m args below meth c H locs ls C hP hz hS hl => lv_iushr C.1 C.2.1 hd rfl (k p e s m args below meth c H locs ls C hP hz hS hl)
theorem v_idiv {G : Gx} {M : Mx} {o : Option Value} {μ μ' : Mu} {mc ms c1 s1 pc : Nat} {L : List (Nat × Value)} {S : List Value} {x y : Int32} (hd : decode (mC M) pc = .ok (.idiv, 1)) (hn : ¬ y = 0) (k : V G M o μ' mc ms (pc + 1) L (.int (x / y) :: S) μ c1 s1) : V G M o μ' mc ms pc L (.int y :: .int x :: S) μ c1 s1 :=
  fun p e s m args below meth c H locs ls C hP hz hS hl => lv_idiv C.1 C.2.1 hd hn (k p e s m args below meth c H locs ls C hP hz hS hl)
theorem v_irem {G : Gx} {M : Mx} {o : Option Value} {μ μ' : Mu} {mc ms c1 s1 pc : Nat} {L : List (Nat × Value)} {S : List Value} {x y : Int32} (hd : decode (mC M) pc = .ok (.irem, 1)) (hn : ¬ y = 0) (k : V G M o μ' mc ms (pc + 1) L (.int (x - x / y * y) :: S) μ c1 s1) : V G M o μ' mc ms pc L (.int y :: .int x :: S) μ c1 s1 :=
  fun p e s m args below meth c H locs ls C hP hz hS hl => lv_irem C.1 C.2.1 hd hn (k p e s m args below meth c H locs ls C hP hz hS hl)
theorem v_lmul {G : Gx} {M : Mx} {o : Option Value} {μ μ' : Mu} {mc ms c1 s1 pc : Nat} {L : List (Nat × Value)} {S : List Value} {x y : Int64} (hd : decode (mC M) pc = .ok (.lmul, 1))  (k : V G M o μ' mc ms (pc + 1) L (.long (x * y) :: S) μ c1 s1) : V G M o μ' mc ms pc L (.long y :: .long x :: S) μ c1 s1 :=
  fun p e s m args below meth c H locs ls C hP hz hS hl => lv_lmul C.1 C.2.1 hd (k p e s m args below meth c H locs ls C hP hz hS hl)
theorem v_lrem {G : Gx} {M : Mx} {o : Option Value} {μ μ' : Mu} {mc ms c1 s1 pc : Nat} {L : List (Nat × Value)} {S : List Value} {x y : Int64} (hd : decode (mC M) pc = .ok (.lrem, 1)) (hn : ¬ y = 0) (k : V G M o μ' mc ms (pc + 1) L (.long (x - x / y * y) :: S) μ c1 s1) : V G M o μ' mc ms pc L (.long y :: .long x :: S) μ c1 s1 :=
  fun p e s m args below meth c H locs ls C hP hz hS hl => lv_lrem C.1 C.2.1 hd hn (k p e s m args below meth c H locs ls C hP hz hS hl)
theorem v_lcmp {G : Gx} {M : Mx} {o : Option Value} {μ μ' : Mu} {mc ms c1 s1 pc : Nat} {L : List (Nat × Value)} {S : List Value} {x y : Int64} (hd : decode (mC M) pc = .ok (.lcmp, 1))  (k : V G M o μ' mc ms (pc + 1) L (.int (lg_cmp x y) :: S) μ c1 s1) : V G M o μ' mc ms pc L (.long y :: .long x :: S) μ c1 s1 :=
  fun p e s m args below meth c H locs ls C hP hz hS hl => W.lcmp C.1 C.2.1 hd (k p e s m args below meth c H locs ls C hP hz hS hl)
theorem v_ineg {G : Gx} {M : Mx} {o : Option Value} {μ μ' : Mu} {mc ms c1 s1 pc : Nat} {L : List (Nat × Value)} {S : List Value} {x : Int32} (hd : decode (mC M) pc = .ok (.ineg, 1))  (k : V G M o μ' mc ms (pc + 1) L (.int (-x) :: S) μ c1 s1) : V G M o μ' mc ms pc L (.int x :: S) μ c1 s1 :=
  fun p e s m args below meth c H locs ls C hP hz hS hl => lv_ineg C.1 C.2.1 hd (k p e s m args below meth c H locs ls C hP hz hS hl)
theorem v_i2b {G : Gx} {M : Mx} {o : Option Value} {μ μ' : Mu} {mc ms c1 s1 pc : Nat} {L : List (Nat × Value)} {S : List Value} {x : Int32} (hd : decode (mC M) pc = .ok (.i2b, 1))  (k : V G M o μ' mc ms (pc + 1) L (.int (x.toInt8.toInt32) :: S) μ c1 s1) : V G M o μ' mc ms pc L (.int x :: S) μ c1 s1 :=
  fun p e s m args below meth c H locs ls C hP hz hS hl => lv_i2b C.1 C.2.1 hd rfl (k p e s m args below meth c H locs ls C hP hz hS hl)
theorem v_i2s {G : Gx} {M : Mx} {o : Option Value} {μ μ' : Mu} {mc ms c1 s1 pc : Nat} {L : List (Nat × Value)} {S : List Value} {x : Int32} (hd : decode (mC M) pc = .ok (.i2s, 1))  (k : V G M o μ' mc ms (pc + 1) L (.int (x.toInt16.toInt32) :: S) μ c1 s1) : V G M o μ' mc ms pc L (.int x :: S) μ c1 s1 :=
  fun p e s m args below meth c H locs ls C hP hz hS hl => lv_i2s C.1 C.2.1 hd rfl (k p e s m args below meth c H locs ls C hP hz hS hl)
theorem v_i2l {G : Gx} {M : Mx} {o : Option Value} {μ μ' : Mu} {mc ms c1 s1 pc : Nat} {L : List (Nat × Value)} {S : List Value} {x : Int32} (hd : decode (mC M) pc = .ok (.i2l, 1))  (k : V G M o μ' mc ms (pc + 1) L (.long (x.toInt64) :: S) μ c1 s1) : V G M o μ' mc ms pc L (.int x :: S) μ c1 s1 :=
  fun p e s m args below meth c H locs ls C hP hz hS hl => lv_i2l C.1 C.2.1 hd rfl (k p e s m args below meth c H locs ls C hP hz hS hl)
theorem v_l2i {G : Gx} {M : Mx} {o : Option Value} {μ μ' : Mu} {mc ms c1 s1 pc : Nat} {L : List (Nat × Value)} {S : List Value} {x : Int64} (hd : decode (mC M) pc = .ok (.l2i, 1))  (k : V G M o μ' mc ms (pc + 1) L (.int (x.toInt32) :: S) μ c1 s1) : V G M o μ' mc ms pc L (.long x :: S) μ c1 s1 :=
  fun p e s m args below meth c H locs ls C hP hz hS hl => lv_l2i C.1 C.2.1 hd rfl (k p e s m args below meth c H locs ls C hP hz hS hl)
theorem v_dup {G : Gx} {M : Mx} {o : Option Value} {μ μ' : Mu} {mc ms c1 s1 pc : Nat} {L : List (Nat × Value)} {S : List Value} {x : Value} (hd : decode (mC M) pc = .ok (.dup, 1)) (hc : x.category = 1) (k : V G M o μ' mc ms (pc + 1) L (x :: x :: S) μ c1 s1) : V G M o μ' mc ms pc L (x :: S) μ c1 s1 :=
  fun p e s m args below meth c H locs ls C hP hz hS hl => lv_dup C.1 C.2.1 hd hc (k p e s m args below meth c H locs ls C hP hz hS hl)
theorem v_dup2 {G : Gx} {M : Mx} {o : Option Value} {μ μ' : Mu} {mc ms c1 s1 pc : Nat} {L : List (Nat × Value)} {S : List Value} {x y : Value} (hd : decode (mC M) pc = .ok (.dup2, 1)) (hc : x.category = 1) (hc2 : y.category = 1) (k : V G M o μ' mc ms (pc + 1) L (x :: y :: x :: y :: S) μ c1 s1) : V G M o μ' mc ms pc L (x :: y :: S) μ c1 s1 :=
  fun p e s m args below meth c H locs ls C hP hz hS hl => lv_dup2_11 C.1 C.2.1 hd hc hc2 (k p e s m args below meth c H locs ls C hP hz hS hl)
theorem v_pop {G : Gx} {M : Mx} {o : Option Value} {μ μ' : Mu} {mc ms c1 s1 pc : Nat} {L : List (Nat × Value)} {S : List Value} {x : Value} (hd : decode (mC M) pc = .ok (.pop, 1)) (hc : x.category = 1) (k : V G M o μ' mc ms (pc + 1) L S μ c1 s1) : V G M o μ' mc ms pc L (x :: S) μ c1 s1 :=
  fun p e s m args below meth c H locs ls C hP hz hS hl => lv_pop C.1 C.2.1 hd hc (k p e s m args below meth c H locs ls C hP hz hS hl)
theorem v_goto {G : Gx} {M : Mx} {o : Option Value} {μ μ' : Mu} {mc ms c1 s1 pc : Nat} {L : List (Nat × Value)} {S : List Value} {off : Int} {tgt : Nat} (hd : decode (mC M) pc = .ok (.goto off, 3)) (ht : (pc : Int) + off = (tgt : Int)) (k : V G M o μ' mc ms tgt L S μ c1 s1) : V G M o μ' mc ms pc L S μ c1 s1 :=
  fun p e s m args below meth c H locs ls C hP hz hS hl => lv_goto C.1 C.2.1 hd ht (k p e s m args below meth c H locs ls C hP hz hS hl)
theorem v_if_eq {G : Gx} {M : Mx} {o : Option Value} {μ μ' : Mu} {mc ms c1 s1 pc : Nat} {L : List (Nat × Value)} {S : List Value} {x : Int32} {off : Int} {tgt : Nat} (hd : decode (mC M) pc = .ok (.ifCond .eq off, 3)) (ht : (pc : Int) + off = (tgt : Int)) (kt : x = 0 → V G M o μ' mc ms tgt L S μ c1 s1) (kf : ¬ x = 0 → V G M o μ' mc ms (pc + 3) L S μ c1 s1) : V G M o μ' mc ms pc L (.int x :: S) μ c1 s1 :=
  fun p e s m args below meth c H locs ls C hP hz hS hl => lv_if_eq C.1 C.2.1 hd ht (fun h => kt h p e s m args below meth c H locs ls C hP hz hS hl) (fun h => kf h p e s m args below meth c H locs ls C hP hz hS hl)
theorem v_icmp_eq {G : Gx} {M : Mx} {o : Option Value} {μ μ' : Mu} {mc ms c1 s1 pc : Nat} {L : List (Nat × Value)} {S : List Value} {x y : Int32} {off : Int} {tgt : Nat} (hd : decode (mC M) pc = .ok (.if_icmp .eq off, 3)) (ht : (pc : Int) + off = (tgt : Int)) (kt : x = y → V G M o μ' mc ms tgt L S μ c1 s1) (kf : ¬ x = y → V G M o μ' mc ms (pc + 3) L S μ c1 s1) : V G M o μ' mc ms pc L (.int y :: .int x :: S) μ c1 s1 :=
  fun p e s m args below meth c H locs ls C hP hz hS hl => lv_icmp_eq C.1 C.2.1 hd ht (fun h => kt h p e s m args below meth c H locs ls C hP hz hS hl) (fun h => kf h p e s m args below meth c H locs ls C hP hz hS hl)
theorem v_if_ne {G : Gx} {M : Mx} {o : Option Value} {μ μ' : Mu} {mc ms c1 s1 pc : Nat} {L : List (Nat × Value)} {S : List Value} {x : Int32} {off : Int} {tgt : Nat} (hd : decode (mC M) pc = .ok (.ifCond .ne off, 3)) (ht : (pc : Int) + off = (tgt : Int)) (kt : ¬ x = 0 → V G M o μ' mc ms tgt L S μ c1 s1) (kf : x = 0 → V G M o μ' mc ms (pc + 3) L S μ c1 s1) : V G M o μ' mc ms pc L (.int x :: S) μ c1 s1 :=
  fun p e s m args below meth c H locs ls C hP hz hS hl => lv_if_ne C.1 C.2.1 hd ht (fun h => kt h p e s m args below meth c H locs ls C hP hz hS hl) (fun h => kf h p e s m args below meth c H locs ls C hP hz hS hl)
theorem v_icmp_ne {G : Gx} {M : Mx} {o : Option Value} {μ μ' : Mu} {mc ms c1 s1 pc : Nat} {L : List (Nat × Value)} {S : List Value} {x y : Int32} {off : Int} {tgt : Nat} (hd : decode (mC M) pc = .ok (.if_icmp .ne off, 3)) (ht : (pc : Int) + off = (tgt : Int)) (kt : ¬ x = y → V G M o μ' mc ms tgt L S μ c1 s1) (kf : x = y → V G M o μ' mc ms (pc + 3) L S μ c1 s1) : V G M o μ' mc ms pc L (.int y :: .int x :: S) μ c1 s1 :=
  fun p e s m args below meth c H locs ls C hP hz hS hl => lv_icmp_ne C.1 C.2.1 hd ht (fun h => kt h p e s m args below meth c H locs ls C hP hz hS hl) (fun h => kf h p e s m args below meth c H locs ls C hP hz hS hl)
theorem v_if_lt {G : Gx} {M : Mx} {o : Option Value} {μ μ' : Mu} {mc ms c1 s1 pc : Nat} {L : List (Nat × Value)} {S : List Value} {x : Int32} {off : Int} {tgt : Nat} (hd : decode (mC M) pc = .ok (.ifCond .lt off, 3)) (ht : (pc : Int) + off = (tgt : Int)) (kt : x < 0 → V G M o μ' mc ms tgt L S μ c1 s1) (kf : ¬ x < 0 → V G M o μ' mc ms (pc + 3) L S μ c1 s1) : V G M o μ' mc ms pc L (.int x :: S) μ c1 s1 :=
  fun p e s m args below meth c H locs ls C hP hz hS hl => lv_if_lt C.1 C.2.1 hd ht (fun h => kt h p e s m args below meth c H locs ls C hP hz hS hl) (fun h => kf h p e s m args below meth c H locs ls C hP hz hS hl)
theorem v_icmp_lt {G : Gx} {M : Mx} {o : Option Value} {μ μ' : Mu} {mc ms c1 s1 pc : Nat} {L : List (Nat × Value)} {S : List Value} {x y : Int32} {off : Int} {tgt : Nat} (hd : decode (mC M) pc = .ok (.if_icmp .lt off, 3)) (ht : (pc : Int) + off = (tgt : Int)) (kt : x < y → V G M o μ' mc ms tgt L S μ c1 s1) (kf : ¬ x < y → V G M o μ' mc ms (pc + 3) L S μ c1 s1) : V G M o μ' mc ms pc L (.int y :: .int x :: S) μ c1 s1 :=
  fun p e s m args below meth c H locs ls C hP hz hS hl => lv_icmp_lt C.1 C.2.1 hd ht (fun h => kt h p e s m args below meth c H locs ls C hP hz hS hl) (fun h => kf h p e s m args below meth c H locs ls C hP hz hS hl)
theorem v_if_ge {G : Gx} {M : Mx} {o : Option Value} {μ μ' : Mu} {mc ms c1 s1 pc : Nat} {L : List (Nat × Value)} {S : List Value} {x : Int32} {off : Int} {tgt : Nat} (hd : decode (mC M) pc = .ok (.ifCond .ge off, 3)) (ht : (pc : Int) + off = (tgt : Int)) (kt : 0 ≤ x → V G M o μ' mc ms tgt L S μ c1 s1) (kf : ¬ 0 ≤ x → V G M o μ' mc ms (pc + 3) L S μ c1 s1) : V G M o μ' mc ms pc L (.int x :: S) μ c1 s1 :=
  fun p e s m args below meth c H locs ls C hP hz hS hl => lv_if_ge C.1 C.2.1 hd ht (fun h => kt h p e s m args below meth c H locs ls C hP hz hS hl) (fun h => kf h p e s m args below meth c H locs ls C hP hz hS hl)
theorem v_icmp_ge {G : Gx} {M : Mx} {o : Option Value} {μ μ' : Mu} {mc ms c1 s1 pc : Nat} {L : List (Nat × Value)} {S : List Value} {x y : Int32} {off : Int} {tgt : Nat} (hd : decode (mC M) pc = .ok (.if_icmp .ge off, 3)) (ht : (pc : Int) + off = (tgt : Int)) (kt : y ≤ x → V G M o μ' mc ms tgt L S μ c1 s1) (kf : ¬ y ≤ x → V G M o μ' mc ms (pc + 3) L S μ c1 s1) : V G M o μ' mc ms pc L (.int y :: .int x :: S) μ c1 s1 :=
  fun p e s m args below meth c H locs ls C hP hz hS hl => lv_icmp_ge C.1 C.2.1 hd ht (fun h => kt h p e s m args below meth c H locs ls C hP hz hS hl) (fun h => kf h p e s m args below meth c H locs ls C hP hz hS hl)
theorem v_if_gt {G : Gx} {M : Mx} {o : Option Value} {μ μ' : Mu} {mc ms c1 s1 pc : Nat} {L : List (Nat × Value)} {S : List Value} {x : Int32} {off : Int} {tgt : Nat} (hd : decode (mC M) pc = .ok (.ifCond .gt off, 3)) (ht : (pc : Int) + off = (tgt : Int)) (kt : 0 < x → V G M o μ' mc ms tgt L S μ c1 s1) (kf : ¬ 0 < x → V G M o μ' mc ms (pc + 3) L S μ c1 s1) : V G M o μ' mc ms pc L (.int x :: S) μ c1 s1 :=
  fun p e s m args below meth c H locs ls C hP hz hS hl => lv_if_gt C.1 C.2.1 hd ht (fun h => kt h p e s m args below meth c H locs ls C hP hz hS hl) (fun h => kf h p e s m args below meth c H locs ls C hP hz hS hl)
theorem v_icmp_gt {G : Gx} {M : Mx} {o : Option Value} {μ μ' : Mu} {mc ms c1 s1 pc : Nat} {L : List (Nat × Value)} {S : List Value} {x y : Int32} {off : Int} {tgt : Nat} (hd : decode (mC M) pc = .ok (.if_icmp .gt off, 3)) (ht : (pc : Int) + off = (tgt : Int)) (kt : y < x → V G M o μ' mc ms tgt L S μ c1 s1) (kf : ¬ y < x → V G M o μ' mc ms (pc + 3) L S μ c1 s1) : V G M o μ' mc ms pc L (.int y :: .int x :: S) μ c1 s1 :=
  fun p e s m args below meth c H locs ls C hP hz hS hl => lv_icmp_gt C.1 C.2.1 hd ht (fun h => kt h p e s m args below meth c H locs ls C hP hz hS hl) (fun h => kf h p e s m args below meth c H locs ls C hP hz hS hl)
theorem v_if_le {G : Gx} {M : Mx} {o : Option Value} {μ μ' : Mu} {mc ms c1 s1 pc : Nat} {L : List (Nat × Value)} {S : List Value} {x : Int32} {off : Int} {tgt : Nat} (hd : decode (mC M) pc = .ok (.ifCond .le off, 3)) (ht : (pc : Int) + off = (tgt : Int)) (kt : x ≤ 0 → V G M o μ' mc ms tgt L S μ c1 s1) (kf : ¬ x ≤ 0 → V G M o μ' mc ms (pc + 3) L S μ c1 s1) : V G M o μ' mc ms pc L (.int x :: S) μ c1 s1 :=
  fun p e s m args below meth c H locs ls C hP hz hS hl => lv_if_le C.1 C.2.1 hd ht (fun h => kt h p e s m args below meth c H locs ls C hP hz hS hl) (fun h => kf h p e s m args below meth c H locs ls C hP hz hS hl)
theorem v_icmp_le {G : Gx} {M : Mx} {o : Option Value} {μ μ' : Mu} {mc ms c1 s1 pc : Nat} {L : List (Nat × Value)} {S : List Value} {x y : Int32} {off : Int} {tgt : Nat} (hd : decode (mC M) pc = .ok (.if_icmp .le off, 3)) (ht : (pc : Int) + off = (tgt : Int)) (kt : x ≤ y → V G M o μ' mc ms tgt L S μ c1 s1) (kf : ¬ x ≤ y → V G M o μ' mc ms (pc + 3) L S μ c1 s1) : V G M o μ' mc ms pc L (.int y :: .int x :: S) μ c1 s1 :=
  fun p e s m args below meth c H locs ls C hP hz hS hl => lv_icmp_le C.1 C.2.1 hd ht (fun h => kt h p e s m args below meth c H locs ls C hP hz hS hl) (fun h => kf h p e s m args below meth c H locs ls C hP hz hS hl)
theorem v_lookup {G : Gx} {M : Mx} {o : Option Value} {μ μ' : Mu} {mc ms c1 s1 pc : Nat} {L : List (Nat × Value)} {S : List Value} {dflt : Int} {ps : Array (Int × Int)} {len : Nat} {x : Int32} {off : Int} {tgt : Nat} (hd : decode (mC M) pc = .ok (.lookupswitch dflt ps, len)) (hp : (ps.toList.zip (ps.toList.drop 1)).all (fun (a, next) => a.1 < next.1) = true) (ho : Op.lookupswitch.offset ps.toList dflt x.toInt = off) (ht : (pc : Int) + off = (tgt : Int)) (k : V G M o μ' mc ms tgt L S μ c1 s1) : V G M o μ' mc ms pc L (.int x :: S) μ c1 s1 :=
  fun p e s m args below meth c H locs ls C hP hz hS hl => lv_lookup C.1 C.2.1 hd hp ho ht (k p e s m args below meth c H locs ls C hP hz hS hl)
theorem v_tableIn {G : Gx} {M : Mx} {o : Option Value} {μ μ' : Mu} {mc ms c1 s1 pc : Nat} {L : List (Nat × Value)} {S : List Value} {dflt lo hi : Int} {offs : Array Int} {len : Nat} {x : Int32} {off : Int} {tgt : Nat} (hd : decode (mC M) pc = .ok (.tableswitch dflt lo hi offs, len)) (h1 : ¬ x.toInt < lo) (h2 : ¬ hi < x.toInt) (ho : offs[(x.toInt - lo).toNat]? = some off) (ht : (pc : Int) + off = (tgt : Int)) (k : V G M o μ' mc ms tgt L S μ c1 s1) : V G M o μ' mc ms pc L (.int x :: S) μ c1 s1 :=
  fun p e s m args below meth c H locs ls C hP hz hS hl => lv_tableIn C.1 C.2.1 hd h1 h2 ho ht (k p e s m args below meth c H locs ls C hP hz hS hl)
theorem v_tableOut {G : Gx} {M : Mx} {o : Option Value} {μ μ' : Mu} {mc ms c1 s1 pc : Nat} {L : List (Nat × Value)} {S : List Value} {dflt lo hi : Int} {offs : Array Int} {len : Nat} {x : Int32} {tgt : Nat} (hd : decode (mC M) pc = .ok (.tableswitch dflt lo hi offs, len)) (h : x.toInt < lo ∨ hi < x.toInt) (ht : (pc : Int) + dflt = (tgt : Int)) (k : V G M o μ' mc ms tgt L S μ c1 s1) : V G M o μ' mc ms pc L (.int x :: S) μ c1 s1 :=
  fun p e s m args below meth c H locs ls C hP hz hS hl => lv_tableOut C.1 C.2.1 hd h ht (k p e s m args below meth c H locs ls C hP hz hS hl)
end
section
theorem ent_obj {G : Gx} {μ : Mu} {k ci : Nat} (h : (shp k).1 = ci) (hlt : ci < 20) : ent G μ k = .inr (ci, (List.range (nf ci)).map (fv (gb G) μ k)) := by
  unfold ent
  rw [h, if_pos hlt]
theorem ent_arr {G : Gx} {μ : Mu} {k t n : Nat} (h : shp k = (t, n)) (h1 : ¬ t < 20) (h2 : t < 22) : ent G μ k = .inl (gA G (t - 20), n, .inl (μ.2.2 k)) := by
  unfold ent
  rw [h, if_neg h1, if_pos h2]
theorem ent_ref {G : Gx} {μ : Mu} {k t n : Nat} (h : shp k = (t, n)) (h1 : ¬ t < 20) (h2 : ¬ t < 22) : ent G μ k = .inl (gA G (t - 20), n, .inr (.inr (.inr (.inr (fun i => if μ.2.1 k i = true then (rfs k i).map (fun t => gb G + t) else none))))) := by
  unfold ent
  rw [h, if_neg h1, if_neg h2]
theorem fv_cong {b : Nat} {μ μ2 : Mu} {a : Nat} (h1 : μ2.2.1 a = μ.2.1 a) (h2 : μ2.2.2 a = μ.2.2 a) : fv b μ2 a = fv b μ a := by
  funext j
  unfold fv
  rw [h1, h2]
theorem ent_cong {G : Gx} {μ μ2 : Mu} {a : Nat} (h1 : μ2.2.1 a = μ.2.1 a) (h2 : μ2.2.2 a = μ.2.2 a) : ent G μ2 a = ent G μ a := by
  unfold ent
  rw [h1, h2, fv_cong h1 h2]
theorem wr_ne {σ : Sg} {k j a : Nat} {v : Int32} (h : a ≠ k) : wr σ k j v a = σ a := by
  funext b
  unfold wr
  rw [if_neg h]
theorem wr_eq (σ : Sg) (k j : Nat) (v : Int32) : wr σ k j v k = upd (σ k) j v := by
  funext b
  unfold wr upd
  rw [if_pos rfl]
theorem fv_int {b : Nat} {μ : Mu} {k j : Nat} (h : rfs k j = none) : fv b μ k j = .int (μ.2.2 k j) := by
  unfold fv
  rw [h]
theorem fv_ref {b : Nat} {μ : Mu} {k j t : Nat} (h : rfs k j = some t) (hn : μ.2.1 k j = true) : fv b μ k j = .ref (b + t) := by
  unfold fv
  rw [h]
  exact if_pos hn
abbrev mput (μ : Mu) (k j : Nat) (v : Int32) : Mu := (μ.1, μ.2.1, wr μ.2.2 k j v)
section HP
variable {p : Program} {l : Launch} {e : Env} {R : Room} {s : State} {m : MethodId} {args : Array Value} {below : List Frame} {meth : Method} {c : Code} {H : Heap} {locs : List Loc} {cells slots : Nat} {Q : State → Prop}
variable {cc : ByteArray} {pc : Nat} {ls : Array Slot} {rest : List Value} {D : va_G} {cl : List vw_C} {A : Nat → Prop} {a : Nat} {tyl : List (ClassId × FieldType)} {ws : va_W} {H0 : Heap}
theorem vx_put (hexec : p.tables.exec = Jvm.exec) (hb : c.code = cc) {own ref C : String} {T : u_T} {N ci index : Nat} {Ts : List Cond} (hts : ∀ w ∈ Ts, w.before args s = true) (hin : ∀ w ∈ u_ws C T N, w ∈ Ts) (ty0 : Nat → FieldType) (hty : ∀ k, k < N → parseFieldDescriptor (T k).2.2.1 = some (ty0 k)) (hnm : ∀ a, a < N → ∀ b, b < N → a ≠ b → (T a).2.1 ≠ (T b).2.1) (hown : s.vm.findClass own = some m.cls) (hK : va_K D cl tyl s) (hP : va_P D cl ws H) (hD : va_D A ws) (hS0 : va_S A H0 H locs) (q0 : Nat) {fs : List Value} (he : ws[q0]? = some (a, .inr (ci, fs))) (hc : cl[ci]? = some (C, T, N)) (k : Nat) (hk : k < N) (hlink : (Cond.fieldLink own index ref (T k).2.1 (T k).2.2.1).before args s = true) (hsame : ∀ x, s.fieldFound? (T k).1 (T k).2.1 (T k).2.2.1 = some x → s.fieldFound? ref (T k).2.1 (T k).2.2.1 = some x) (hfin : (T k).2.2.2 = false) {ty : FieldType} {v : Value} (hd : parseFieldDescriptor (T k).2.2.1 = some ty) (hn : narrow ty v = v) (hfit : fits ty v = true) (hl : k < fs.length)
    (hdg : decode cc pc = .ok (.putfield index, 3)) (kk : ∀ (H1 : Heap) (locs1 : List Loc), va_P D cl (ws.set q0 (a, .inr (ci, fs.set k v))) H1 → va_S A H0 H1 locs1 → H1.size = H.size → W p l e R s m args below meth c H1 locs1 cells slots Q (F0 m (pc + 3) ls rest)) : W p l e R s m args below meth c H locs cells slots Q (F0 m pc ls (v :: .ref a :: rest)) := by
  have hap := va_apart (own := own) hts hin ty0 hty hnm hK hc
  obtain ⟨r, h1, cell, q1, q2, q3, q4⟩ := hP q0 _ he
  have hr : r = (C, T, N) := Option.some.inj (h1.symm.trans hc)
  subst hr
  obtain ⟨hS, hfc, kC, hkC, hkind⟩ := hK.1 ci _ hc
  obtain ⟨cf, kf, fi, f, hi, hsl⟩ := hS k hk
  have hlay := hts _ (hin _ (u_in_lay hk))
  unfold u_lay at hlay
  rw [if_neg (by rw [hfin]; decide)] at hlay
  have hst := (u_facts hfc hkC (u_lays hts hin hk) hi).1
  have h6 := u_store hfc hkC hkind hlay hi hd hn hfit
  refine W.putK hexec hb (f := f) ⟨hown, hlink, ⟨_, _, _, hsame _ hi⟩, hst⟩ (by rw [q2]; exact h6) q1 q3 (by rw [hsl]; exact k2_hasslot (q4 k hk)) rfl rfl hdg fun H' e1 e2 e3 => ?_
  rw [hsl] at e1 ⊢
  exact kk H' _ (hP.set hD he ⟨_, hc, t_OB.to (V := updV (vp_V fs) k v) ⟨_, e1, q2, q3, t_set q4 hap hk v⟩ (fun j _ => vp_updV_set hl v j)⟩ e3) (hS0.put e2 e3 (hD.2 q0 _ he)) e2
theorem vx_iast (hexec : p.tables.exec = Jvm.exec) (hb : c.code = cc) (hK : va_K D cl tyl s) (hP : va_P D cl ws H) (hD : va_D A ws) (hS : va_S A H0 H locs) (q0 t0 : Nat) {cA : ClassId} {n : Nat} {f : Nat → Int32} (ha : ws[q0]? = some (a, .inl (cA, n, .inl f))) (ht : tyl[t0]? = some (cA, .int)) {i : Int32} {x : Int32} (hin : vp_in i n) (hdg : decode cc pc = .ok (.iastore, 1))
    (kk : ∀ (H1 : Heap) (locs1 : List Loc), va_P D cl (ws.set q0 (a, .inl (cA, n, .inl (upd f i.toNatClampNeg x)))) H1 → va_S A H0 H1 locs1 → H1.size = H.size → W p l e R s m args below meth c H1 locs1 cells slots Q (F0 m (pc + 1) ls rest)) : W p l e R s m args below meth c H locs cells slots Q (F0 m pc ls (.int x :: .int i :: .ref a :: rest)) := by
  refine W.iast hexec hb (hP q0 _ ha) ((hK.2 t0 _ ht).1 n (fun j => .int (f j))) (fun q => by cases q) (by show ¬ (i < 0 ∨ (arrV _ _ _).slots.size ≤ _); rw [arrV_size]; exact hin) rfl rfl hdg fun H1 e z oq => ?_
  refine kk H1 _ (hP.set hD ha ?_ oq) (hS.put z oq (hD.2 q0 _ ha)) z
  show H1[a]? = some (vp_cell _ _)
  rw [e]
  rw [vp_cell_i, vp_cell_i, arrV_store]
  congr 2
  funext q
  by_cases hq : q = i.toNatClampNeg
  · subst hq
    simp [updV, upd]
  · simp [updV, upd, hq]
theorem vx_zast (hexec : p.tables.exec = Jvm.exec) (hb : c.code = cc) (hK : va_K D cl tyl s) (hP : va_P D cl ws H) (hD : va_D A ws) (hS : va_S A H0 H locs) (q0 t0 : Nat) {cA : ClassId} {n : Nat} {f : Nat → Int32} (ha : ws[q0]? = some (a, .inl (cA, n, .inl f))) (ht : tyl[t0]? = some (cA, .boolean)) {i : Int32} {x : Int32} (hin : vp_in i n) (hdg : decode cc pc = .ok (.bastore, 1))
    (kk : ∀ (H1 : Heap) (locs1 : List Loc), va_P D cl (ws.set q0 (a, .inl (cA, n, .inl (upd f i.toNatClampNeg (vp_nar .boolean x))))) H1 → va_S A H0 H1 locs1 → H1.size = H.size → W p l e R s m args below meth c H1 locs1 cells slots Q (F0 m (pc + 1) ls rest)) : W p l e R s m args below meth c H locs cells slots Q (F0 m pc ls (.int x :: .int i :: .ref a :: rest)) := by
  refine W.zast hexec hb (hP q0 _ ha) ((hK.2 t0 _ ht).1 n (fun j => .int (f j))) (fun q => by cases q) (by show ¬ (i < 0 ∨ (arrV _ _ _).slots.size ≤ _); rw [arrV_size]; exact hin) rfl rfl hdg fun H1 e z oq => ?_
  refine kk H1 _ (hP.set hD ha ?_ oq) (hS.put z oq (hD.2 q0 _ ha)) z
  show H1[a]? = some (vp_cell _ _)
  rw [e]
  rw [vp_cell_i, vp_cell_i, arrV_store]
  congr 2
  funext q
  by_cases hq : q = i.toNatClampNeg
  · subst hq
    simp [updV, upd, vp_nar]
    try rfl
  · simp [updV, upd, hq]
end HP
section VH
variable {G : Gx} {M : Mx} {o : Option Value} {μ μ' : Mu} {mc ms c1 s1 pc : Nat} {L : List (Nat × Value)} {S : List Value}
theorem v_get {k idx ci j : Nat} {ty : FieldType} {fin : Bool} {v : Value} (hd : decode (mC M) pc = .ok (.getfield idx, 3)) (fs : Fs (mO M) idx ci j ty fin) (hk : k < μ.1) (hs : (shp k).1 = ci) (hc : ci < 20) (hv : fv (gb G) μ k j = v) (kk : V G M o μ' mc ms (pc + 3) L (v :: S) μ c1 s1) : V G M o μ' mc ms pc L (.ref (gb G + k) :: S) μ c1 s1 := by
  intro p e s m args below meth c H locs ls C hP hz hS hl
  obtain ⟨Cn, T, tyf, ⟨hcl, hin, -, -⟩, hj, hw, -, -, -⟩ := fs
  exact va_get C.1 C.2.1 (Ts := tG) C.2.2.2.2.2.2.1 hin C.2.2.2.2.2.1 C.2.2.2.2.2.2.2.1.1 hP k (by rw [wd_at hk, ent_obj hs hc]) hcl j hj (C.2.2.2.2.2.2.1 _ hw) (fun x h => h) (by rw [List.getElem?_map, List.getElem?_range hj]; exact congrArg some hv) hd (kk p e s m args below meth c H locs ls C hP hz hS hl)
theorem set_fv {b : Nat} {μ : Mu} {k j N : Nat} {x : Int32} (hr : rfs k j = none) : ((List.range N).map (fv b μ k)).set j (.int x) = (List.range N).map (fv b (mput μ k j x) k) := by
  apply List.ext_getElem?
  intro i
  rw [List.getElem?_set]
  by_cases hi : i < N
  · rw [List.getElem?_map, List.getElem?_map, List.getElem?_range hi]
    by_cases hj : j = i
    · subst hj
      rw [if_pos rfl, if_pos (by simp; exact hi)]
      show _ = some (fv b (mput μ k j x) k j)
      rw [fv_int hr]
      show _ = some (Value.int (wr μ.2.2 k j x k j))
      rw [wr_eq]
      simp [upd]
    · rw [if_neg hj]
      show some (fv b μ k i) = some (fv b (mput μ k j x) k i)
      unfold fv
      cases rfs k i with
      | none =>
        show some (Value.int (μ.2.2 k i)) = some (Value.int (wr μ.2.2 k j x k i))
        rw [wr_eq]
        unfold upd
        rw [if_neg (fun q : i = j => hj q.symm)]
      | some t => rfl
  · rw [List.getElem?_eq_none (by simp; omega), List.getElem?_eq_none (by simp; omega)]
    by_cases hj : j = i
    · rw [if_pos hj, if_neg (by simp; omega)]
    · rw [if_neg hj]
theorem v_put {k idx ci j : Nat} {ty : FieldType} {x : Int32} (hd : decode (mC M) pc = .ok (.putfield idx, 3)) (fs : Fs (mO M) idx ci j ty false) (hk : k < μ.1) (hs : (shp k).1 = ci) (hc : ci < 20) (hr : rfs k j = none) (hn : narrow ty (.int x) = .int x) (hf : fits ty (.int x) = true) (kk : V G M o μ' mc ms (pc + 3) L S (mput μ k j x) c1 s1) : V G M o μ' mc ms pc L (.int x :: .ref (gb G + k) :: S) μ c1 s1 := by
  intro p e s m args below meth c H locs ls C hP hz hS hl
  obtain ⟨Cn, T, tyf, ⟨hcl, hin, hty, hnm⟩, hj, hw, ht, hfin, -⟩ := fs
  refine vx_put C.1 C.2.1 (Ts := tG) C.2.2.2.2.2.2.1 hin tyf hty hnm C.2.2.2.2.2.1 C.2.2.2.2.2.2.2.1.1 hP (wd_D G μ) hS k (by rw [wd_at hk, ent_obj hs hc]) hcl j hj (C.2.2.2.2.2.2.1 _ hw) (fun x h => h) hfin (hty j hj) (by rw [ht]; exact hn) (by rw [ht]; exact hf) (by simp; exact hj) hd (fun H1 locs1 hP1 hS1 hz1 => ?_)
  rw [set_fv hr, wd_set (G := G) (μ := μ) (μ' := mput μ k j x) (k := k) rfl (ent_obj hs hc) (fun a ha => ent_cong rfl (wr_ne ha))] at hP1
  exact kk p e s m args below meth c H1 locs1 ls C hP1 (fun h => by rw [hz1]; exact hz h) hS1 hl
theorem v_iald {k n : Nat} {i : Int32} (hd : decode (mC M) pc = .ok (.iaload, 1)) (hk : k < μ.1) (hs : shp k = (20, n)) (hi : vp_in i n) (kk : V G M o μ' mc ms (pc + 1) L (.int (μ.2.2 k (ix i)) :: S) μ c1 s1) : V G M o μ' mc ms pc L (.int i :: .ref (gb G + k) :: S) μ c1 s1 := by
  intro p e s m args below meth c H locs ls C hP hz hS hl
  exact va_iald C.1 C.2.1 C.2.2.2.2.2.2.2.1.1 hP k 0 (by rw [wd_at hk, ent_arr hs (by decide) (by decide)]) rfl hi hd (kk p e s m args below meth c H locs ls C hP hz hS hl)
theorem v_zald {k n : Nat} {i : Int32} (hd : decode (mC M) pc = .ok (.baload, 1)) (hk : k < μ.1) (hs : shp k = (21, n)) (hi : vp_in i n) (kk : V G M o μ' mc ms (pc + 1) L (.int (μ.2.2 k (ix i)) :: S) μ c1 s1) : V G M o μ' mc ms pc L (.int i :: .ref (gb G + k) :: S) μ c1 s1 := by
  intro p e s m args below meth c H locs ls C hP hz hS hl
  exact va_zald C.1 C.2.1 C.2.2.2.2.2.2.2.1.1 hP k 1 (by rw [wd_at hk, ent_arr hs (by decide) (by decide)]) rfl hi hd (kk p e s m args below meth c H locs ls C hP hz hS hl)
theorem v_iast {k n : Nat} {i x : Int32} (hd : decode (mC M) pc = .ok (.iastore, 1)) (hk : k < μ.1) (hs : shp k = (20, n)) (hi : vp_in i n) (kk : V G M o μ' mc ms (pc + 1) L S (mput μ k (ix i) x) c1 s1) : V G M o μ' mc ms pc L (.int x :: .int i :: .ref (gb G + k) :: S) μ c1 s1 := by
  intro p e s m args below meth c H locs ls C hP hz hS hl
  refine vx_iast C.1 C.2.1 C.2.2.2.2.2.2.2.1.1 hP (wd_D G μ) hS k 0 (by rw [wd_at hk, ent_arr hs (by decide) (by decide)]) rfl hi hd (fun H1 locs1 hP1 hS1 hz1 => ?_)
  rw [wd_set (G := G) (μ := μ) (μ' := mput μ k (ix i) x) (k := k) (e := Sum.inl (gA G 0, n, Sum.inl (upd (μ.2.2 k) (ix i) x))) rfl (by rw [ent_arr hs (by decide) (by decide), ← wr_eq]) (fun a ha => ent_cong rfl (wr_ne ha))] at hP1
  exact kk p e s m args below meth c H1 locs1 ls C hP1 (fun h => by rw [hz1]; exact hz h) hS1 hl
theorem v_zast {k n : Nat} {i x : Int32} (hd : decode (mC M) pc = .ok (.bastore, 1)) (hk : k < μ.1) (hs : shp k = (21, n)) (hi : vp_in i n) (hx : vp_nar .boolean x = x) (kk : V G M o μ' mc ms (pc + 1) L S (mput μ k (ix i) x) c1 s1) : V G M o μ' mc ms pc L (.int x :: .int i :: .ref (gb G + k) :: S) μ c1 s1 := by
  intro p e s m args below meth c H locs ls C hP hz hS hl
  refine vx_zast C.1 C.2.1 C.2.2.2.2.2.2.2.1.1 hP (wd_D G μ) hS k 1 (by rw [wd_at hk, ent_arr hs (by decide) (by decide)]) rfl hi hd (fun H1 locs1 hP1 hS1 hz1 => ?_)
  rw [hx, wd_set (G := G) (μ := μ) (μ' := mput μ k (ix i) x) (k := k) (e := Sum.inl (gA G 1, n, Sum.inl (upd (μ.2.2 k) (ix i) x))) rfl (by rw [ent_arr hs (by decide) (by decide), ← wr_eq]) (fun a ha => ent_cong rfl (wr_ne ha))] at hP1
  exact kk p e s m args below meth c H1 locs1 ls C hP1 (fun h => by rw [hz1]; exact hz h) hS1 hl
theorem v_alen {k n : Nat} {v : Int32} (hd : decode (mC M) pc = .ok (.arraylength, 1)) (hk : k < μ.1) (hs : shp k = (20, n)) (hv : Int32.ofNat n = v) (kk : V G M o μ' mc ms (pc + 1) L (.int v :: S) μ c1 s1) : V G M o μ' mc ms pc L (.ref (gb G + k) :: S) μ c1 s1 := by
  intro p e s m args below meth c H locs ls C hP hz hS hl
  exact va_alen C.1 C.2.1 C.2.2.2.2.2.2.2.1.1 hP k 0 (by rw [wd_at hk, ent_arr hs (by decide) (by decide)]) rfl hv hd (kk p e s m args below meth c H locs ls C hP hz hS hl)
theorem v_aald {k n t r : Nat} {i : Int32} (ht : t = 22 ∨ t = 23 ∨ t = 24) (hd : decode (mC M) pc = .ok (.aaload, 1)) (hk : k < μ.1) (hs : shp k = (t, n)) (hi : vp_in i n) (hn : μ.2.1 k (ix i) = true) (hr : rfs k (ix i) = some r) (kk : V G M o μ' mc ms (pc + 1) L (.ref (gb G + r) :: S) μ c1 s1) : V G M o μ' mc ms pc L (.int i :: .ref (gb G + k) :: S) μ c1 s1 := by
  intro p e s m args below meth c H locs ls C hP hz hS hl
  have hq : va_rf (if μ.2.1 k (ix i) = true then (rfs k (ix i)).map (fun t => gb G + t) else none) = .ref (gb G + r) := by
    rw [if_pos hn, hr]
    rfl
  have kk1 := kk p e s m args below meth c H locs ls C hP hz hS hl
  rw [← hq] at kk1
  rcases ht with rfl | rfl | rfl
  · exact va_aldq (C := RX7) C.1 C.2.1 C.2.2.2.2.2.2.2.1.1 hP k 2 (by rw [wd_at hk, ent_ref hs (by decide) (by decide)]) rfl hi hd kk1
  · exact va_aldq (C := RX4) C.1 C.2.1 C.2.2.2.2.2.2.2.1.1 hP k 3 (by rw [wd_at hk, ent_ref hs (by decide) (by decide)]) rfl hi hd kk1
  · exact va_aldq (C := RX6) C.1 C.2.1 C.2.2.2.2.2.2.2.1.1 hP k 4 (by rw [wd_at hk, ent_ref hs (by decide) (by decide)]) rfl hi hd kk1
theorem cpy_ne {σ : Sg} {a sp b dp n k : Nat} (h : k ≠ b) : cpy σ a sp b dp n k = σ k := by
  funext j
  unfold cpy
  rw [if_neg h]
theorem cpy_eq (σ : Sg) (a sp b dp n : Nat) : cpy σ a sp b dp n b = va_cpy (σ a) (σ b) sp dp n := by
  funext j
  unfold cpy va_cpy
  rw [if_pos rfl]
theorem v_copy {a b na nb idx : Nat} {sp dp n : Int32} (hm : mI M = false) (hd : decode (mC M) pc = .ok (.invokestatic idx, 3)) (hlk : Cond.methodLink (mO M) idx arraycopyName ∈ tG) (hka : a < μ.1) (hkb : b < μ.1) (hsa : shp a = (20, na)) (hsb : shp b = (20, nb)) (h1 : ¬ sp < 0) (h2 : ¬ dp < 0) (h3 : ¬ n < 0) (h4 : ix sp + ix n ≤ na) (h5 : ix dp + ix n ≤ nb) (hfr : 1 ≤ (mR M).frames) (hlo : (S.map fun v => v.category).sum + (nativeFrameWords "java/lang/System" "arraycopy" 5 + 11) ≤ (mR M).locals)
    (kk : V G M o μ' mc ms (pc + 3) L S (μ.1, μ.2.1, cpy μ.2.2 a (ix sp) b (ix dp) (ix n)) c1 s1) : V G M o μ' mc ms pc L (.int n :: .int dp :: .ref (gb G + b) :: .int sp :: .ref (gb G + a) :: S) μ c1 s1 := by
  intro p e s m args below meth c H locs ls C hP hz hS hl
  refine va_copyi C.1 C.2.1 (by rw [C.2.2.1, hl.1]) C.2.2.2.2.2.1 (C.2.2.2.2.2.2.1 _ hlk) (C.2.2.2.2.2.2.1 _ tw333) (C.2.2.2.2.2.2.1 _ tw332) (C.2.2.2.2.2.2.1 _ tw54) C.2.2.2.2.2.2.2.1.1 hP (wd_D G μ) hS a b 0 0 (by rw [wd_at hka, ent_arr hsa (by decide) (by decide)]) (by rw [wd_at hkb, ent_arr hsb (by decide) (by decide)]) rfl rfl rfl h1 h2 h3 h4 h5 (fun _ _ => rfl) hfr hlo hd (fun H1 locs1 hP1 _ hS1 => ?_)
  rw [wd_set (G := G) (μ := μ) (μ' := (μ.1, μ.2.1, cpy μ.2.2 a (ix sp) b (ix dp) (ix n))) (k := b) (e := Sum.inl (gA G 0, nb, Sum.inl (va_cpy (μ.2.2 a) (μ.2.2 b) (ix sp) (ix dp) (ix n)))) rfl (by rw [ent_arr hsb (by decide) (by decide), ← cpy_eq]) (fun a ha => ent_cong rfl (cpy_ne ha))] at hP1
  exact kk p e s m args below meth c H1 locs1 ls C hP1 (fun h => by rw [hm] at h; cases h) hS1 hl
theorem v_iret {x : Int32} (hd : decode (mC M) pc = .ok (.ireturn, 1)) (hr : mT M = some .int) (ho : o = some (.int x)) (hu : μ' = μ) (hc : c1 = mc) (hs : s1 = ms) : V G M o μ' mc ms pc L [.int x] μ c1 s1 := by
  intro p e s m args below meth c H locs ls C hP hz hS hl
  subst ho hu hc hs
  exact W.iret C.1 C.2.1 (C.2.2.2.1.trans hr) (fun t ht hW => ⟨rfl, fun h => by rw [ht]; exact hz h, by rw [ht]; exact hP, hS.F ht⟩) hS.2.2 hd C.2.2.2.2.1
theorem v_zret {x : Int32} (hd : decode (mC M) pc = .ok (.ireturn, 1)) (hr : mT M = some .boolean) (hx : x = 0 ∨ x = 1) (ho : o = some (.int x)) (hu : μ' = μ) (hc : c1 = mc) (hs : s1 = ms) : V G M o μ' mc ms pc L [.int x] μ c1 s1 := by
  intro p e s m args below meth c H locs ls C hP hz hS hl
  subst ho hu hc hs
  exact W.zret C.1 C.2.1 (C.2.2.2.1.trans hr) (by rcases hx with rfl | rfl <;> rfl) (fun t ht hW => ⟨rfl, fun h => by rw [ht]; exact hz h, by rw [ht]; exact hP, hS.F ht⟩) hS.2.2 hd C.2.2.2.2.1
theorem v_vret (hd : decode (mC M) pc = .ok (.return_, 1)) (hr : mT M = none) (ho : o = none) (hu : μ' = μ) (hc : c1 = mc) (hs : s1 = ms) : V G M o μ' mc ms pc L [] μ c1 s1 := by
  intro p e s m args below meth c H locs ls C hP hz hS hl
  subst ho hu hc hs
  exact W.vret C.1 C.2.1 (C.2.2.2.1.trans hr) (fun t ht hW => ⟨rfl, fun h => by rw [ht]; exact hz h, by rw [ht]; exact hP, hS.F ht⟩) hS.2.2 hd C.2.2.2.2.1
theorem v_aret {x : Nat} {cn : String} (hd : decode (mC M) pc = .ok (.areturn, 1)) (hr : mT M = some (.object cn)) (ho : o = some (.ref x)) (hu : μ' = μ) (hc : c1 = mc) (hs : s1 = ms) : V G M o μ' mc ms pc L [.ref x] μ c1 s1 := by
  intro p e s m args below meth c H locs ls C hP hz hS hl
  subst ho hu hc hs
  exact W.aret C.1 C.2.1 (C.2.2.2.1.trans hr) (Or.inl ⟨_, rfl⟩) (Or.inr ⟨_, rfl⟩) (fun t ht hW => ⟨rfl, fun h => by rw [ht]; exact hz h, by rw [ht]; exact hP, hS.F ht⟩) hS.2.2 hd C.2.2.2.2.1
end VH
/-! calls -/
section VC
variable {G : Gx} {M M2 : Mx} {o o2 : Option Value} {μ μ2 μ' : Mu} {mc ms c1 s1 mc2 ms2 pc n idx : Nat} {L : List (Nat × Value)} {S S0 As : List Value} {y : MethodName}
abbrev Rok (M M2 : Mx) (mc2 ms2 : Nat) : Prop := (mR M2).cells = mc2 ∧ (mR M2).slots = ms2 ∧ (mR M2).frames + 1 ≤ (mR M).frames ∧ 8 + (mL M2 + 11) + (mR M2).locals ≤ (mR M).locals
/-- behind a call -/
theorem v_back {p : Program} {e : Env} {s : State} {m : MethodId} {args : Array Value} {below : List Frame} {meth : Method} {c : Code} {H : Heap} {locs : List Loc} {ls : Array Slot} {a : Array Value} (C : Cx G M p s m args meth c) (hf : mI M = true → mI M2 = true) (hS : va_S (fun q => gb G ≤ q) s.heap H locs) (hl : lv_has ls (mL M) L)
    (hr : va_Run p (gl G) e (mR M) s m args below meth c H locs c1 s1 mc2 ms2 (F0 m pc ls S0) S (Qcm G (mI M2) o2 μ2 a) (fun q => gb G ≤ q))
    (k : V G M o μ' mc ms (pc + 3) L (o2.toList ++ S) μ2 (c1 + mc2) (s1 + ms2)) : W p (gl G) e (mR M) s m args below meth c H locs c1 s1 (MQ below (Qcm G (mI M) o μ') args s mc ms (fun q => gb G ≤ q)) (F0 m pc ls S0) := by
  intro T hT X
  obtain ⟨v, st₀, t, T', L2, h0, X', hL, e1, e2, ⟨hv, hz1, hP1, hF1, hF2⟩, st⟩ := hr T hT X
  cases hv
  obtain ⟨t2, a1, b1⟩ := k p e s m args below meth c T'.heap (locs ++ L2) ls C (by rw [e1]; exact hP1) (fun h => by rw [e1]; exact hz1 (hf h))
    ⟨by rw [e1]; exact Nat.le_trans hS.1 (by rw [h0] at hF1; exact hF1), fun q h1 h2 => by
      rw [e1]
      rw [h0] at hF2
      rw [hF2 q (Nat.lt_of_lt_of_le h1 hS.1) h2]
      exact hS.2.1 q h1 h2, fun q hq => by
      rcases List.mem_append.mp hq with h | h
      · exact hS.2.2 q h
      · exact hL q h⟩ hl T' rfl X'
  exact ⟨t2, st t2 a1, b1⟩
theorem v_pre {p : Program} {s : State} {m : MethodId} {args : Array Value} {meth : Method} {c : Code} {H : Heap} {locs : List Loc} (C : Cx G M p s m args meth c) (hf : mI M2 = true → mI M = true) (hP : va_P (gD G) vwCl (wd G μ) H) (hz : mI M = true → H.size = gb G + μ.1) (hS : va_S (fun q => gb G ≤ q) s.heap H locs) (av : List Value) : ∀ U : State, U.heap = H → s.WarmedH U.vm → Pcm G (mI M2) av μ av.toArray U :=
  fun U hU hW => ⟨rfl, by rw [hU]; exact Nat.le_trans C.2.2.2.2.2.2.2.2.1 hS.1, fun h => by rw [hU]; exact hz (hf h), by rw [hU]; exact hP, C.2.2.2.2.2.2.2.1.warm hW⟩
theorem v_callB {p : Program} {s : State} {m : MethodId} {args : Array Value} {meth : Method} {c : Code} (C : Cx G M p s m args meth c) (hR : Rok M M2 mc2 ms2) (hy : Yk y M2 n) (hlk : Cond.methodLink (mO M) idx y ∈ tG) : CallB (mR M) s args (mO M) idx y (mC M2) (mL M2) (mT M2) (.code y (mC M2) (mL M2) (mT M2) :: tG) (mR M2) mc2 ms2 n :=
  callB_of n C.2.2.2.2.2.2.1 (tG_good hy.1) rfl hR.1 hR.2.1 (C.2.2.2.2.2.2.1 _ hy.2.1) (C.2.2.2.2.2.2.1 _ hlk) ⟨hy.2.2.1.1, hy.2.2.1.2, hy.2.2.2⟩ ⟨hR.2.2.1, hR.2.2.2⟩
theorem v_callS (hd : decode (mC M) pc = .ok (.invokestatic idx, 3)) (hlk : Cond.methodLink (mO M) idx y ∈ tG) (hst : Cond.static y ∈ tG) (hy : Yk y M2 n) (hn : As.length = n) (hR : Rok M M2 mc2 ms2) (hf : mI M = mI M2) (hS0 : S0 = As.reverse ++ S) (hW : (S.map fun v => v.category).sum ≤ 8) (hcs : c1 + mc2 ≤ (mR M).cells ∧ s1 + ms2 ≤ (mR M).slots) (E : Ev G y M2 As μ o2 μ2 mc2 ms2)
    (k : V G M o μ' mc ms (pc + 3) L (o2.toList ++ S) μ2 (c1 + mc2) (s1 + ms2)) : V G M o μ' mc ms pc L S0 μ c1 s1 := by
  intro p e s m args below meth c H locs ls C hP hz hS hl
  exact v_back (M2 := M2) C (fun h => hf ▸ h) hS hl (va_runS (As := As) (rest := S) (Ts := tG) ⟨C.1, C.2.1, C.2.2.1, C.2.2.2.2.2.1, C.2.2.2.2.2.2.1⟩ E ⟨v_callB C hR hy hlk, C.2.2.2.2.2.2.1 _ hst⟩ ⟨Pcm.blind G _ As μ, v_pre C (fun h => hf ▸ h) hP hz hS As⟩ rfl hn hl.1 hS0 (lv_room hW) hd hcs) k
theorem v_callV {k ci : Nat} {Cn : String} {T : u_T} {ty : Nat → FieldType} (hd : decode (mC M) pc = .ok (.invokevirtual idx, 3)) (hlk : Cond.methodLink (mO M) idx y ∈ tG) (hin : Cond.instanceMethod y ∈ tG) (hse : Cond.selects Cn y y ∈ tG) (hy : Yk y M2 n) (hkk : k < μ.1) (hs : (shp k).1 = ci) (hci : ci < 20) (hcl : ClsOk ci Cn T ty) (hn : As.length = n) (hR : Rok M M2 mc2 ms2) (hf : mI M = mI M2) (hS0 : S0 = As.reverse ++ .ref (gb G + k) :: S) (hW : (S.map fun v => v.category).sum ≤ 8) (hcs : c1 + mc2 ≤ (mR M).cells ∧ s1 + ms2 ≤ (mR M).slots) (E : Ev G y M2 (.ref (gb G + k) :: As) μ o2 μ2 mc2 ms2)
    (kk : V G M o μ' mc ms (pc + 3) L (o2.toList ++ S) μ2 (c1 + mc2) (s1 + ms2)) : V G M o μ' mc ms pc L S0 μ c1 s1 := by
  intro p e s m args below meth c H locs ls C hP hz hS hl
  exact v_back (M2 := M2) C (fun h => hf ▸ h) hS hl (va_runV (As := As) (rest := S) (Ts := tG) (C := Cn) ⟨C.1, C.2.1, C.2.2.1, C.2.2.2.2.2.1, C.2.2.2.2.2.2.1⟩ E ⟨v_callB C hR hy hlk, C.2.2.2.2.2.2.1 _ hin, C.2.2.2.2.2.2.1 _ hse⟩ ⟨Pcm.blind G _ _ μ, va_recv C.2.2.2.2.2.2.2.1.1 hP hcl.1 (q0 := k) (by rw [wd_at hkk, ent_obj hs hci]), v_pre C (fun h => hf ▸ h) hP hz hS _⟩ rfl hn hl.1 hS0 (lv_room hW) hd hcs) kk
end VC
end
section
section VD
variable {G : Gx} {M M2 : Mx} {o o2 : Option Value} {μ μ2 μ' : Mu} {mc ms c1 s1 mc2 ms2 pc n idx : Nat} {L L2 : List (Nat × Value)} {S S0 As : List Value} {x y : MethodName}
theorem v_sub (ks : List Nat) (hk : lv_pick L ks = L2) (k : V G M o μ' mc ms pc L2 S μ c1 s1) : V G M o μ' mc ms pc L S μ c1 s1 :=
  fun p e s m args below meth c H locs ls C hP hz hS hl => k p e s m args below meth c H locs ls C hP hz hS (lv_sub hl ks hk)
theorem v_callU {k ci m0 : Nat} {b0 : ByteArray} {r0 : Option FieldType} {Cn : String} {T : u_T} {ty : Nat → FieldType} (hd : decode (mC M) pc = .ok (.invokevirtual idx, 3)) (hlk : Cond.methodLink (mO M) idx x ∈ tG) (hsm : Cond.sameMethod x.cls x.cls x.name x.desc ∈ tG) (hix : Cond.instanceMethod x ∈ tG) (hcx : Cond.code x b0 m0 r0 ∈ tG) (hse : Cond.selects Cn x y ∈ tG) (hiy : Cond.instanceMethod y ∈ tG) (hy : Yk y M2 n) (hxy : x.desc = y.desc) (hxn : x.cls ≠ "java/lang/invoke/MethodHandle" ∧ x.cls ≠ "java/lang/invoke/VarHandle") (hkk : k < μ.1) (hs : (shp k).1 = ci) (hci : ci < 20) (hcl : ClsOk ci Cn T ty) (hn : As.length = n) (hR : Rok M M2 mc2 ms2) (hf : mI M = mI M2) (hS0 : S0 = As.reverse ++ .ref (gb G + k) :: S) (hW : (S.map fun v => v.category).sum ≤ 8) (hcs : c1 + mc2 ≤ (mR M).cells ∧ s1 + ms2 ≤ (mR M).slots) (E : Ev G y M2 (.ref (gb G + k) :: As) μ o2 μ2 mc2 ms2)
    (kk : V G M o μ' mc ms (pc + 3) L (o2.toList ++ S) μ2 (c1 + mc2) (s1 + ms2)) : V G M o μ' mc ms pc L S0 μ c1 s1 := by
  intro p e s m args below meth c H locs ls C hP hz hS hl
  have hts := C.2.2.2.2.2.2.1
  refine v_back (M2 := M2) C (fun h => hf ▸ h) hS hl (va_runU (x := x) (owner := x.cls) (bytes := mC M2) (maxL := mL M2) (ret := mT M2) (n := n) (As := As) (rest := S) (Ts := tG) (C := Cn) ⟨C.1, C.2.1, C.2.2.1, C.2.2.2.2.2.1, hts⟩ E ?_ ⟨Pcm.blind G _ _ μ, va_recv C.2.2.2.2.2.2.2.1.1 hP hcl.1 (q0 := k) (by rw [wd_at hkk, ent_obj hs hci]), v_pre C (fun h => hf ▸ h) hP hz hS _⟩ rfl hn hl.1 hS0 (lv_room hW) hd hcs) kk
  refine ⟨⟨hR.1, hR.2.1, hR.2.2.1, hR.2.2.2, pay_in hts (tG_good hy.1), List.mem_cons_self⟩, hts _ hy.1, hts _ hy.2.1, hxn, fun sig h => ?_, hts _ hlk, hts _ hsm, va_Decl.of (hts _ hix) (hts _ hcx), hts _ hse, hts _ hiy⟩
  have h2 := hy.2.2.2
  rw [← hxy, h] at h2
  exact (Option.some.inj h2).symm
theorem v_callSU {k ci : Nat} {Cn : String} {T : u_T} {ty : Nat → FieldType} (hd : decode (mC M) pc = .ok (.invokespecial idx, 3)) (hlk : Cond.methodLink (mO M) idx y ∈ tG) (hsm : Cond.sameMethod y.cls y.cls y.name y.desc ∈ tG) (hsu : Cond.superclass (mO M) y.cls ∈ tG) (hiy : Cond.instanceMethod y ∈ tG) (hno : y.name ≠ "<init>") (hy : Yk y M2 n) (hkk : k < μ.1) (hs : (shp k).1 = ci) (hci : ci < 20) (hcl : ClsOk ci Cn T ty) (hn : As.length = n) (hR : Rok M M2 mc2 ms2) (hf : mI M = mI M2) (hS0 : S0 = As.reverse ++ .ref (gb G + k) :: S) (hW : (S.map fun v => v.category).sum ≤ 8) (hcs : c1 + mc2 ≤ (mR M).cells ∧ s1 + ms2 ≤ (mR M).slots) (E : Ev G y M2 (.ref (gb G + k) :: As) μ o2 μ2 mc2 ms2)
    (kk : V G M o μ' mc ms (pc + 3) L (o2.toList ++ S) μ2 (c1 + mc2) (s1 + ms2)) : V G M o μ' mc ms pc L S0 μ c1 s1 := by
  intro p e s m args below meth c H locs ls C hP hz hS hl
  have hts := C.2.2.2.2.2.2.1
  refine v_back (M2 := M2) C (fun h => hf ▸ h) hS hl (va_runSU (bytes := mC M2) (maxL := mL M2) (ret := mT M2) (n := n) (As := As) (rest := S) (Ts := tG) (C := Cn) (C.2.2.2.2.2.2.2.1.1.1 ci _ hcl.1).2 ⟨C.1, C.2.1, C.2.2.1, C.2.2.2.2.2.1, hts⟩ E ?_ ⟨Pcm.blind G _ _ μ, va_recv C.2.2.2.2.2.2.2.1.1 hP hcl.1 (q0 := k) (by rw [wd_at hkk, ent_obj hs hci]), v_pre C (fun h => hf ▸ h) hP hz hS _⟩ rfl hn hl.1 hS0 (lv_room hW) hd hcs) kk
  refine ⟨⟨hR.1, hR.2.1, hR.2.2.1, hR.2.2.2, pay_in hts (tG_good hy.1), List.mem_cons_self⟩, hts _ hlk, hts _ hsm, hts _ hsu, hts _ hiy, hts _ hy.2.1, hts _ hy.1, hno, fun sig h => ?_⟩
  have h2 := hy.2.2.2
  rw [h] at h2
  exact (Option.some.inj h2).symm
theorem v_instY {k ci : Nat} {Cn nm : String} {T : u_T} {ty : Nat → FieldType} (hd : decode (mC M) pc = .ok (.instanceof idx, 3)) (hlk : Cond.classLink (mO M) idx nm ∈ tG) (hc : (Cn, nm) ∈ cyL) (hkk : k < μ.1) (hs : (shp k).1 = ci) (hci : ci < 20) (hcl : ClsOk ci Cn T ty) (kk : V G M o μ' mc ms (pc + 3) L (.int 1 :: S) μ c1 s1) : V G M o μ' mc ms pc L (.ref (gb G + k) :: S) μ c1 s1 := by
  intro p e s m args below meth c H locs ls C hP hz hS hl
  exact va_instY C.1 C.2.1 C.2.2.2.2.2.1 (C.2.2.2.2.2.2.1 _ hlk) (C.2.2.2.2.2.2.2.1.2.2.2.1 _ hc) (va_recv C.2.2.2.2.2.2.2.1.1 hP hcl.1 (q0 := k) (by rw [wd_at hkk, ent_obj hs hci])) hd (kk p e s m args below meth c H locs ls C hP hz hS hl)
theorem v_instS {k ci : Nat} {nm : String} {T : u_T} {ty : Nat → FieldType} (hd : decode (mC M) pc = .ok (.instanceof idx, 3)) (hlk : Cond.classLink (mO M) idx nm ∈ tG) (hkk : k < μ.1) (hs : (shp k).1 = ci) (hci : ci < 20) (hcl : ClsOk ci nm T ty) (kk : V G M o μ' mc ms (pc + 3) L (.int 1 :: S) μ c1 s1) : V G M o μ' mc ms pc L (.ref (gb G + k) :: S) μ c1 s1 := by
  intro p e s m args below meth c H locs ls C hP hz hS hl
  exact va_instS C.1 C.2.1 C.2.2.2.2.2.1 (C.2.2.2.2.2.2.1 _ hlk) (C.2.2.2.2.2.2.2.1.1.1 ci _ hcl.1).2 (va_recv C.2.2.2.2.2.2.2.1.1 hP hcl.1 (q0 := k) (by rw [wd_at hkk, ent_obj hs hci])) hd (kk p e s m args below meth c H locs ls C hP hz hS hl)
theorem v_instN {k ci : Nat} {Cn nm : String} {T : u_T} {ty : Nat → FieldType} (hd : decode (mC M) pc = .ok (.instanceof idx, 3)) (hlk : Cond.classLink (mO M) idx nm ∈ tG) (hc : (Cn, nm) ∈ ncL) (hkk : k < μ.1) (hs : (shp k).1 = ci) (hci : ci < 20) (hcl : ClsOk ci Cn T ty) (kk : V G M o μ' mc ms (pc + 3) L (.int 0 :: S) μ c1 s1) : V G M o μ' mc ms pc L (.ref (gb G + k) :: S) μ c1 s1 := by
  intro p e s m args below meth c H locs ls C hP hz hS hl
  exact va_instNo C.1 C.2.1 C.2.2.2.2.2.1 (C.2.2.2.2.2.2.1 _ hlk) (C.2.2.2.2.2.2.2.1.2.2.2.2 _ hc) (va_recv C.2.2.2.2.2.2.2.1.1 hP hcl.1 (q0 := k) (by rw [wd_at hkk, ent_obj hs hci])) hd (kk p e s m args below meth c H locs ls C hP hz hS hl)
theorem v_tableAt {dflt lo hi : Int} {offs : Array Int} {len : Nat} {x v : Int32} {off : Int} {tgt : Nat} (hd : decode (mC M) pc = .ok (.tableswitch dflt lo hi offs, len)) (hx : x = v) (h1 : ¬ v.toInt < lo) (h2 : ¬ hi < v.toInt) (ho : offs[(v.toInt - lo).toNat]? = some off) (ht : (pc : Int) + off = (tgt : Int)) (k : V G M o μ' mc ms tgt L S μ c1 s1) : V G M o μ' mc ms pc L (.int x :: S) μ c1 s1 := by
  subst hx
  exact v_tableIn hd h1 h2 ho ht k
theorem v_lookAt {dflt : Int} {ps : Array (Int × Int)} {len : Nat} {x v : Int32} {off : Int} {tgt : Nat} (hd : decode (mC M) pc = .ok (.lookupswitch dflt ps, len)) (hx : x = v) (hp : (ps.toList.zip (ps.toList.drop 1)).all (fun (a, next) => a.1 < next.1) = true) (ho : Op.lookupswitch.offset ps.toList dflt v.toInt = off) (ht : (pc : Int) + off = (tgt : Int)) (k : V G M o μ' mc ms tgt L S μ c1 s1) : V G M o μ' mc ms pc L (.int x :: S) μ c1 s1 := by
  subst hx
  exact v_lookup hd hp ho ht k
end VD
theorem ite_t {α : Type} {c : Prop} {i : Decidable c} {a b r : α} (hc : c) (h : (@ite α c i a b) = r) : a = r := by rw [if_pos hc] at h; exact h
theorem ite_f {α : Type} {c : Prop} {i : Decidable c} {a b r : α} (hc : ¬ c) (h : (@ite α c i a b) = r) : b = r := by rw [if_neg hc] at h; exact h
theorem i_ne {x : Int32} {v : Int32} {z : Int} (hz : v.toInt = z) (h : ¬ x = v) : ¬ x.toInt = z := fun q => h (Int32.toInt_inj.mp (q.trans hz.symm))
def isb (x : Int32) : Bool := x == 0 || x == 1
theorem isb_or {x : Int32} (h : isb x = true) : x = 0 ∨ x = 1 := by
  unfold isb at h
  rcases Bool.or_eq_true_iff.mp h with q | q
  · exact Or.inl (eq_of_beq q)
  · exact Or.inr (eq_of_beq q)
def nz (x : Int32) : Bool := !(x == 0)
theorem nz_ne {x : Int32} (h : nz x = true) : ¬ x = 0 := by
  intro q
  subst q
  exact absurd h (by decide)
def nzl (x : Int64) : Bool := !(x == 0)
theorem nzl_ne {x : Int64} (h : nzl x = true) : ¬ x = 0 := by
  intro q
  subst q
  exact absurd h (by decide)
/-- an arraycopy is within both arrays -/
def cin (sp dp n : Int32) (na nb : Nat) : Bool := decide (¬ sp < 0) && decide (¬ dp < 0) && decide (¬ n < 0) && decide (ix sp + ix n ≤ na) && decide (ix dp + ix n ≤ nb)
theorem cin_of {sp dp n : Int32} {na nb : Nat} (h : cin sp dp n na nb = true) : ¬ sp < 0 ∧ ¬ dp < 0 ∧ ¬ n < 0 ∧ ix sp + ix n ≤ na ∧ ix dp + ix n ≤ nb := by
  unfold cin at h
  simp only [Bool.and_eq_true, decide_eq_true_eq] at h
  exact ⟨h.1.1.1.1, h.1.1.1.2, h.1.1.2, h.1.2, h.2⟩
/-! which cells are houses, rows, persons -/
def hsL : List Nat := [4, 10, 188, 194] ++ (List.range 24).map (fun i => 20 + 6 * i)
def isH (h : Nat) : Prop := h ∈ hsL
def rwL : List Nat := (List.range 8).map (fun i => 172 + 2 * i)
def isR (r : Nat) : Prop := r ∈ rwL
def isP (p : Nat) : Prop := p ∈ [165, 166, 167, 168, 169]
theorem isH_s {h : Nat} (hh : isH h) : ((shp h).1 = 4 ∧ shp (h + 1) = (20, 6) ∧ shp (h + 2) = (20, 6) ∧ shp (h + 3) = (20, 6) ∧ shp (h + 4) = (20, 6) ∧ shp (h + 5) = (20, 6)) ∧ h < 213 ∧ h + 1 < 213 ∧ h + 2 < 213 ∧ h + 3 < 213 ∧ h + 4 < 213 ∧ h + 5 < 213 := by
  have k : ∀ h ∈ hsL, ((shp h).1 = 4 ∧ shp (h + 1) = (20, 6) ∧ shp (h + 2) = (20, 6) ∧ shp (h + 3) = (20, 6) ∧ shp (h + 4) = (20, 6) ∧ shp (h + 5) = (20, 6)) ∧ h < 213 ∧ h + 1 < 213 ∧ h + 2 < 213 ∧ h + 3 < 213 ∧ h + 4 < 213 ∧ h + 5 < 213 := by decide +kernel
  exact k h hh
theorem isH_r {h : Nat} (hh : isH h) : (rfs h 0 = some (h + 1) ∧ rfs h 1 = some (h + 2) ∧ rfs h 2 = some (h + 3) ∧ rfs h 3 = some (h + 4) ∧ rfs h 4 = some (h + 5)) ∧ rfs h 5 = none ∧ rfs h 6 = none ∧ rfs h 7 = none ∧ rfs h 8 = none ∧ rfs h 9 = none ∧ rfs h 10 = none ∧ rfs h 11 = none := by
  have k : ∀ h ∈ hsL, (rfs h 0 = some (h + 1) ∧ rfs h 1 = some (h + 2) ∧ rfs h 2 = some (h + 3) ∧ rfs h 3 = some (h + 4) ∧ rfs h 4 = some (h + 5)) ∧ rfs h 5 = none ∧ rfs h 6 = none ∧ rfs h 7 = none ∧ rfs h 8 = none ∧ rfs h 9 = none ∧ rfs h 10 = none ∧ rfs h 11 = none := by decide +kernel
  exact k h hh
theorem isR_s {r : Nat} (hr : isR r) : ((shp r).1 = 6 ∧ shp (r + 1) = (20, 40)) ∧ r < 213 ∧ r + 1 < 213 ∧ rfs r 0 = some (r + 1) ∧ rfs r 1 = none ∧ rfs r 2 = none := by
  have k : ∀ r ∈ rwL, ((shp r).1 = 6 ∧ shp (r + 1) = (20, 40)) ∧ r < 213 ∧ r + 1 < 213 ∧ rfs r 0 = some (r + 1) ∧ rfs r 1 = none ∧ rfs r 2 = none := by decide +kernel
  exact k r hr
theorem inb_lt {i : Int32} {n : Nat} (h : inb i n = true) : ix i < n := Nat.not_le.mp fun q => inb_in h (Or.inr q)
theorem isR_of {i : Int32} (h : inb i 8 = true) : isR (172 + 2 * ix i) := by
  have k : ∀ j, j < 8 → isR (172 + 2 * j) := by unfold isR; decide +kernel
  exact k _ (inb_lt h)
theorem isH_im {i : Int32} (h : inb i 2 = true) : isH (188 + 6 * ix i) := by
  have k : ∀ j, j < 2 → isH (188 + 6 * j) := by unfold isH; decide +kernel
  exact k _ (inb_lt h)
theorem isH_bf {i : Int32} (h : inb i 24 = true) : isH (20 + 6 * ix i) := by
  have k : ∀ j, j < 24 → isH (20 + 6 * j) := by unfold isH; decide +kernel
  exact k _ (inb_lt h)
theorem isP_of {i : Int32} (h : inb i 5 = true) : isP (165 + ix i) := by
  have k : ∀ j, j < 5 → isP (165 + j) := by unfold isP; decide +kernel
  exact k _ (inb_lt h)
theorem isH_4 : isH 4 := by unfold isH; decide +kernel
theorem isH_10 : isH 10 := by unfold isH; decide +kernel
abbrev Vm (G : Gx) (M : Mx) (o : Option Value) (σ' : Sg) (pc : Nat) (L : List (Nat × Value)) (S : List Value) (σ : Sg) : Prop := V G M o (full σ') 0 0 pc L S (full σ) 0 0
section VM
variable {G : Gx} {M M2 : Mx} {o : Option Value} {σ σ' : Sg} {pc idx : Nat} {L : List (Nat × Value)} {S : List Value}
theorem vm_getI {k ci j : Nat} {ty : FieldType} {fin : Bool} (hd : decode (mC M) pc = .ok (.getfield idx, 3)) (fs : Fs (mO M) idx ci j ty fin) (hk : k < 213) (hs : (shp k).1 = ci) (hc : ci < 20) (hr : rfs k j = none) (kk : Vm G M o σ' (pc + 3) L (.int (σ k j) :: S) σ) : Vm G M o σ' pc L (.ref (gb G + k) :: S) σ := v_get hd fs hk hs hc (fv_int hr) kk
theorem vm_getR {k ci j t : Nat} {ty : FieldType} {fin : Bool} (hd : decode (mC M) pc = .ok (.getfield idx, 3)) (fs : Fs (mO M) idx ci j ty fin) (hk : k < 213) (hs : (shp k).1 = ci) (hc : ci < 20) (hr : rfs k j = some t) (kk : Vm G M o σ' (pc + 3) L (.ref (gb G + t) :: S) σ) : Vm G M o σ' pc L (.ref (gb G + k) :: S) σ := v_get hd fs hk hs hc (fv_ref hr rfl) kk
theorem vm_put {k ci j : Nat} {x : Int32} (hd : decode (mC M) pc = .ok (.putfield idx, 3)) (fs : Fs (mO M) idx ci j .int false) (hk : k < 213) (hs : (shp k).1 = ci) (hc : ci < 20) (hr : rfs k j = none) (kk : Vm G M o σ' (pc + 3) L S (wr σ k j x)) : Vm G M o σ' pc L (.int x :: .ref (gb G + k) :: S) σ := v_put hd fs hk hs hc hr (vp_nar_int x) rfl kk
theorem vm_putZ {k ci j : Nat} {x : Int32} (hd : decode (mC M) pc = .ok (.putfield idx, 3)) (fs : Fs (mO M) idx ci j .boolean false) (hk : k < 213) (hs : (shp k).1 = ci) (hc : ci < 20) (hr : rfs k j = none) (hx : x = 0 ∨ x = 1) (kk : Vm G M o σ' (pc + 3) L S (wr σ k j x)) : Vm G M o σ' pc L (.int x :: .ref (gb G + k) :: S) σ := v_put hd fs hk hs hc hr (by rcases hx with rfl | rfl <;> rfl) (by rcases hx with rfl | rfl <;> rfl) kk
theorem vm_iald {k n : Nat} {i : Int32} (hd : decode (mC M) pc = .ok (.iaload, 1)) (hk : k < 213) (hs : shp k = (20, n)) (hi : inb i n = true) (kk : Vm G M o σ' (pc + 1) L (.int (σ k (ix i)) :: S) σ) : Vm G M o σ' pc L (.int i :: .ref (gb G + k) :: S) σ := v_iald hd hk hs (inb_in hi) kk
theorem vm_zald {k n : Nat} {i : Int32} (hd : decode (mC M) pc = .ok (.baload, 1)) (hk : k < 213) (hs : shp k = (21, n)) (hi : inb i n = true) (kk : Vm G M o σ' (pc + 1) L (.int (σ k (ix i)) :: S) σ) : Vm G M o σ' pc L (.int i :: .ref (gb G + k) :: S) σ := v_zald hd hk hs (inb_in hi) kk
theorem vm_iast {k n : Nat} {i x : Int32} (hd : decode (mC M) pc = .ok (.iastore, 1)) (hk : k < 213) (hs : shp k = (20, n)) (hi : inb i n = true) (kk : Vm G M o σ' (pc + 1) L S (wr σ k (ix i) x)) : Vm G M o σ' pc L (.int x :: .int i :: .ref (gb G + k) :: S) σ := v_iast hd hk hs (inb_in hi) kk
theorem vm_zast {k n : Nat} {i x : Int32} (hd : decode (mC M) pc = .ok (.bastore, 1)) (hk : k < 213) (hs : shp k = (21, n)) (hi : inb i n = true) (hx : x = 0 ∨ x = 1) (kk : Vm G M o σ' (pc + 1) L S (wr σ k (ix i) x)) : Vm G M o σ' pc L (.int x :: .int i :: .ref (gb G + k) :: S) σ := v_zast hd hk hs (inb_in hi) (by rcases hx with rfl | rfl <;> rfl) kk
theorem vm_aald {k n t r : Nat} {i : Int32} (ht : t = 22 ∨ t = 23 ∨ t = 24) (hd : decode (mC M) pc = .ok (.aaload, 1)) (hk : k < 213) (hs : shp k = (t, n)) (hi : inb i n = true) (hr : rfs k (ix i) = some r) (kk : Vm G M o σ' (pc + 1) L (.ref (gb G + r) :: S) σ) : Vm G M o σ' pc L (.int i :: .ref (gb G + k) :: S) σ := v_aald ht hd hk hs (inb_in hi) rfl hr kk
theorem vm_alen {k n : Nat} {v : Int32} (hd : decode (mC M) pc = .ok (.arraylength, 1)) (hk : k < 213) (hs : shp k = (20, n)) (hv : Int32.ofNat n = v) (kk : Vm G M o σ' (pc + 1) L (.int v :: S) σ) : Vm G M o σ' pc L (.ref (gb G + k) :: S) σ := v_alen hd hk hs hv kk
theorem vm_copy {a b na nb : Nat} {sp dp n : Int32} (hm : mI M = false) (hd : decode (mC M) pc = .ok (.invokestatic idx, 3)) (hlk : Cond.methodLink (mO M) idx arraycopyName ∈ tG) (hka : a < 213) (hkb : b < 213) (hsa : shp a = (20, na)) (hsb : shp b = (20, nb)) (hi : cin sp dp n na nb = true) (hfr : 1 ≤ (mR M).frames) (hlo : (S.map fun v => v.category).sum + (nativeFrameWords "java/lang/System" "arraycopy" 5 + 11) ≤ (mR M).locals)
    (kk : Vm G M o σ' (pc + 3) L S (cpy σ a (ix sp) b (ix dp) (ix n))) : Vm G M o σ' pc L (.int n :: .int dp :: .ref (gb G + b) :: .int sp :: .ref (gb G + a) :: S) σ :=
  v_copy hm hd hlk hka hkb hsa hsb (cin_of hi).1 (cin_of hi).2.1 (cin_of hi).2.2.1 (cin_of hi).2.2.2.1 (cin_of hi).2.2.2.2 hfr hlo kk
end VM
abbrev Evm (G : Gx) (y : MethodName) (M : Mx) (av : List Value) (σ : Sg) (o : Option Value) (σ' : Sg) : Prop := Ev G y M av (full σ) o (full σ') 0 0
end
