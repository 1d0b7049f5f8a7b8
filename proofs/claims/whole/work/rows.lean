section
/-- a private method of a class that the tables say can be made, by its rows of tables_1 -/
def lw_okq (q : MethodName × Nat) : Prop := (q.1.cls ≠ "java/lang/invoke/MethodHandle" ∧ q.1.cls ≠ "java/lang/invoke/VarHandle") ∧ Cond.instantiable q.1.cls q.2 ∈ tables_1 ∧ Cond.privateMethod q.1 ∈ tables_1 ∧ Cond.instanceMethod q.1 ∈ tables_1
theorem lw_p0 : lw_okq (⟨"AirWatch", "isHearing", "(IIII)Z"⟩, 9) := ⟨⟨by decide +kernel, by decide +kernel⟩, List.mem_of_getElem? (i := 19) (by decide +kernel), List.mem_of_getElem? (i := 332) (by decide +kernel), List.mem_of_getElem? (i := 333) (by decide +kernel)⟩
theorem lw_p1 : lw_okq (⟨"AirWatch$Spans", "openBehind", "(III)I"⟩, 5) := ⟨⟨by decide +kernel, by decide +kernel⟩, List.mem_of_getElem? (i := 47) (by decide +kernel), List.mem_of_getElem? (i := 351) (by decide +kernel), List.mem_of_getElem? (i := 352) (by decide +kernel)⟩
theorem lw_p2 : lw_okq (⟨"AirWatch$Groups", "unite", "(II)V"⟩, 5) := ⟨⟨by decide +kernel, by decide +kernel⟩, List.mem_of_getElem? (i := 119) (by decide +kernel), List.mem_of_getElem? (i := 371) (by decide +kernel), List.mem_of_getElem? (i := 372) (by decide +kernel)⟩
theorem lw_p3 : lw_okq (⟨"AirWatch$Groups", "giveNumbers", "(I)V"⟩, 5) := ⟨⟨by decide +kernel, by decide +kernel⟩, List.mem_of_getElem? (i := 119) (by decide +kernel), List.mem_of_getElem? (i := 379) (by decide +kernel), List.mem_of_getElem? (i := 380) (by decide +kernel)⟩
theorem lw_p4 : lw_okq (⟨"AirWatch$Sketch", "add", "(LAirWatch$Marks;I)V"⟩, 9) := ⟨⟨by decide +kernel, by decide +kernel⟩, List.mem_of_getElem? (i := 145) (by decide +kernel), List.mem_of_getElem? (i := 418) (by decide +kernel), List.mem_of_getElem? (i := 419) (by decide +kernel)⟩
theorem lw_p5 : lw_okq (⟨"AirWatch$Sketch", "has", "(I)Z"⟩, 9) := ⟨⟨by decide +kernel, by decide +kernel⟩, List.mem_of_getElem? (i := 145) (by decide +kernel), List.mem_of_getElem? (i := 443) (by decide +kernel), List.mem_of_getElem? (i := 444) (by decide +kernel)⟩
theorem lw_p6 : lw_okq (⟨"AirWatch", "changeBehind", "(III)I"⟩, 9) := ⟨⟨by decide +kernel, by decide +kernel⟩, List.mem_of_getElem? (i := 19) (by decide +kernel), List.mem_of_getElem? (i := 459) (by decide +kernel), List.mem_of_getElem? (i := 460) (by decide +kernel)⟩
theorem lw_p7 : lw_okq (⟨"AirWatch", "stateAt", "(II)I"⟩, 9) := ⟨⟨by decide +kernel, by decide +kernel⟩, List.mem_of_getElem? (i := 19) (by decide +kernel), List.mem_of_getElem? (i := 468) (by decide +kernel), List.mem_of_getElem? (i := 469) (by decide +kernel)⟩
theorem lw_p8 : lw_okq (⟨"AirWatch$Reader", "readClause", "(LAirWatch$Tape;)V"⟩, 4) := ⟨⟨by decide +kernel, by decide +kernel⟩, List.mem_of_getElem? (i := 218) (by decide +kernel), List.mem_of_getElem? (i := 514) (by decide +kernel), List.mem_of_getElem? (i := 515) (by decide +kernel)⟩
theorem lw_p9 : lw_okq (⟨"AirWatch$Reader", "blame", "(LAirWatch$Tape;I)V"⟩, 4) := ⟨⟨by decide +kernel, by decide +kernel⟩, List.mem_of_getElem? (i := 218) (by decide +kernel), List.mem_of_getElem? (i := 577) (by decide +kernel), List.mem_of_getElem? (i := 578) (by decide +kernel)⟩
theorem lw_p10 : lw_okq (⟨"AirWatch$Reader", "readRange", "(LAirWatch$Tape;I)V"⟩, 4) := ⟨⟨by decide +kernel, by decide +kernel⟩, List.mem_of_getElem? (i := 218) (by decide +kernel), List.mem_of_getElem? (i := 582) (by decide +kernel), List.mem_of_getElem? (i := 583) (by decide +kernel)⟩
theorem lw_p11 : lw_okq (⟨"AirWatch$Reader", "readNumber", "(LAirWatch$Tape;III)V"⟩, 4) := ⟨⟨by decide +kernel, by decide +kernel⟩, List.mem_of_getElem? (i := 218) (by decide +kernel), List.mem_of_getElem? (i := 586) (by decide +kernel), List.mem_of_getElem? (i := 587) (by decide +kernel)⟩
theorem lw_p12 : lw_okq (⟨"AirWatch$Reader", "readSign", "(LAirWatch$Tape;I)V"⟩, 4) := ⟨⟨by decide +kernel, by decide +kernel⟩, List.mem_of_getElem? (i := 218) (by decide +kernel), List.mem_of_getElem? (i := 595) (by decide +kernel), List.mem_of_getElem? (i := 596) (by decide +kernel)⟩
theorem lw_p13 : lw_okq (⟨"AirWatch$Licences", "allows", "(IIII)Z"⟩, 2) := ⟨⟨by decide +kernel, by decide +kernel⟩, List.mem_of_getElem? (i := 240) (by decide +kernel), List.mem_of_getElem? (i := 616) (by decide +kernel), List.mem_of_getElem? (i := 617) (by decide +kernel)⟩
theorem lw_p14 : lw_okq (⟨"AirWatch$Licences", "allowsTime", "(III)Z"⟩, 2) := ⟨⟨by decide +kernel, by decide +kernel⟩, List.mem_of_getElem? (i := 240) (by decide +kernel), List.mem_of_getElem? (i := 620) (by decide +kernel), List.mem_of_getElem? (i := 621) (by decide +kernel)⟩
theorem lw_p15 : lw_okq (⟨"AirWatch$Licences", "judgeFields", "(I[I)I"⟩, 2) := ⟨⟨by decide +kernel, by decide +kernel⟩, List.mem_of_getElem? (i := 240) (by decide +kernel), List.mem_of_getElem? (i := 627) (by decide +kernel), List.mem_of_getElem? (i := 628) (by decide +kernel)⟩
def lw_privs_1 : List (MethodName × Nat) := [(⟨"AirWatch", "isHearing", "(IIII)Z"⟩, 9), (⟨"AirWatch$Spans", "openBehind", "(III)I"⟩, 5), (⟨"AirWatch$Groups", "unite", "(II)V"⟩, 5), (⟨"AirWatch$Groups", "giveNumbers", "(I)V"⟩, 5), (⟨"AirWatch$Sketch", "add", "(LAirWatch$Marks;I)V"⟩, 9), (⟨"AirWatch$Sketch", "has", "(I)Z"⟩, 9), (⟨"AirWatch", "changeBehind", "(III)I"⟩, 9), (⟨"AirWatch", "stateAt", "(II)I"⟩, 9), (⟨"AirWatch$Reader", "readClause", "(LAirWatch$Tape;)V"⟩, 4), (⟨"AirWatch$Reader", "blame", "(LAirWatch$Tape;I)V"⟩, 4), (⟨"AirWatch$Reader", "readRange", "(LAirWatch$Tape;I)V"⟩, 4), (⟨"AirWatch$Reader", "readNumber", "(LAirWatch$Tape;III)V"⟩, 4), (⟨"AirWatch$Reader", "readSign", "(LAirWatch$Tape;I)V"⟩, 4), (⟨"AirWatch$Licences", "allows", "(IIII)Z"⟩, 2), (⟨"AirWatch$Licences", "allowsTime", "(III)Z"⟩, 2), (⟨"AirWatch$Licences", "judgeFields", "(I[I)I"⟩, 2)]
theorem lw_r1 : ∀ q ∈ lw_privs_1, lw_okq q := List.forall_mem_cons.mpr ⟨lw_p0, List.forall_mem_cons.mpr ⟨lw_p1, List.forall_mem_cons.mpr ⟨lw_p2, List.forall_mem_cons.mpr ⟨lw_p3, List.forall_mem_cons.mpr ⟨lw_p4, List.forall_mem_cons.mpr ⟨lw_p5, List.forall_mem_cons.mpr ⟨lw_p6, List.forall_mem_cons.mpr ⟨lw_p7, List.forall_mem_cons.mpr ⟨lw_p8, List.forall_mem_cons.mpr ⟨lw_p9, List.forall_mem_cons.mpr ⟨lw_p10, List.forall_mem_cons.mpr ⟨lw_p11, List.forall_mem_cons.mpr ⟨lw_p12, List.forall_mem_cons.mpr ⟨lw_p13, List.forall_mem_cons.mpr ⟨lw_p14, List.forall_mem_cons.mpr ⟨lw_p15, fun _ h => absurd h List.not_mem_nil⟩⟩⟩⟩⟩⟩⟩⟩⟩⟩⟩⟩⟩⟩⟩⟩
theorem lw_p16 : lw_okq (⟨"AirWatch$Plan", "isOneOfOldest", "(III)Z"⟩, 8) := ⟨⟨by decide +kernel, by decide +kernel⟩, List.mem_of_getElem? (i := 255) (by decide +kernel), List.mem_of_getElem? (i := 662) (by decide +kernel), List.mem_of_getElem? (i := 663) (by decide +kernel)⟩
theorem lw_p17 : lw_okq (⟨"AirWatch$Plan", "choose", "(I)V"⟩, 8) := ⟨⟨by decide +kernel, by decide +kernel⟩, List.mem_of_getElem? (i := 255) (by decide +kernel), List.mem_of_getElem? (i := 670) (by decide +kernel), List.mem_of_getElem? (i := 671) (by decide +kernel)⟩
theorem lw_p18 : lw_okq (⟨"AirWatch$Plan", "worthOfChosen", "()I"⟩, 8) := ⟨⟨by decide +kernel, by decide +kernel⟩, List.mem_of_getElem? (i := 255) (by decide +kernel), List.mem_of_getElem? (i := 674) (by decide +kernel), List.mem_of_getElem? (i := 675) (by decide +kernel)⟩
theorem lw_p19 : lw_okq (⟨"AirWatch$Plan", "keepChosen", "()V"⟩, 8) := ⟨⟨by decide +kernel, by decide +kernel⟩, List.mem_of_getElem? (i := 255) (by decide +kernel), List.mem_of_getElem? (i := 679) (by decide +kernel), List.mem_of_getElem? (i := 680) (by decide +kernel)⟩
theorem lw_p20 : lw_okq (⟨"AirWatchModel", "isPost", "(I)Z"⟩, 36) := ⟨⟨by decide +kernel, by decide +kernel⟩, List.mem_of_getElem? (i := 691) (by decide +kernel), List.mem_of_getElem? (i := 817) (by decide +kernel), List.mem_of_getElem? (i := 818) (by decide +kernel)⟩
theorem lw_p21 : lw_okq (⟨"AirWatchModel", "wasListened", "(III)Z"⟩, 36) := ⟨⟨by decide +kernel, by decide +kernel⟩, List.mem_of_getElem? (i := 691) (by decide +kernel), List.mem_of_getElem? (i := 828) (by decide +kernel), List.mem_of_getElem? (i := 829) (by decide +kernel)⟩
theorem lw_p22 : lw_okq (⟨"AirWatchModel", "join", "()V"⟩, 36) := ⟨⟨by decide +kernel, by decide +kernel⟩, List.mem_of_getElem? (i := 691) (by decide +kernel), List.mem_of_getElem? (i := 847) (by decide +kernel), List.mem_of_getElem? (i := 848) (by decide +kernel)⟩
theorem lw_p23 : lw_okq (⟨"AirWatchModel", "spreads", "(I)Z"⟩, 36) := ⟨⟨by decide +kernel, by decide +kernel⟩, List.mem_of_getElem? (i := 691) (by decide +kernel), List.mem_of_getElem? (i := 851) (by decide +kernel), List.mem_of_getElem? (i := 852) (by decide +kernel)⟩
theorem lw_p24 : lw_okq (⟨"AirWatchModel", "isJoin", "(II)Z"⟩, 36) := ⟨⟨by decide +kernel, by decide +kernel⟩, List.mem_of_getElem? (i := 691) (by decide +kernel), List.mem_of_getElem? (i := 855) (by decide +kernel), List.mem_of_getElem? (i := 856) (by decide +kernel)⟩
theorem lw_p25 : lw_okq (⟨"AirWatchModel", "isSender", "(I)Z"⟩, 36) := ⟨⟨by decide +kernel, by decide +kernel⟩, List.mem_of_getElem? (i := 691) (by decide +kernel), List.mem_of_getElem? (i := 867) (by decide +kernel), List.mem_of_getElem? (i := 868) (by decide +kernel)⟩
theorem lw_p26 : lw_okq (⟨"AirWatchModel", "isPlace", "(II)Z"⟩, 36) := ⟨⟨by decide +kernel, by decide +kernel⟩, List.mem_of_getElem? (i := 691) (by decide +kernel), List.mem_of_getElem? (i := 871) (by decide +kernel), List.mem_of_getElem? (i := 872) (by decide +kernel)⟩
theorem lw_p27 : lw_okq (⟨"AirWatchModel", "liesIn", "(III)Z"⟩, 36) := ⟨⟨by decide +kernel, by decide +kernel⟩, List.mem_of_getElem? (i := 691) (by decide +kernel), List.mem_of_getElem? (i := 875) (by decide +kernel), List.mem_of_getElem? (i := 876) (by decide +kernel)⟩
theorem lw_p28 : lw_okq (⟨"AirWatchModel", "sortOf", "(II)I"⟩, 36) := ⟨⟨by decide +kernel, by decide +kernel⟩, List.mem_of_getElem? (i := 691) (by decide +kernel), List.mem_of_getElem? (i := 891) (by decide +kernel), List.mem_of_getElem? (i := 892) (by decide +kernel)⟩
theorem lw_p29 : lw_okq (⟨"AirWatchModel", "four", "(I)V"⟩, 36) := ⟨⟨by decide +kernel, by decide +kernel⟩, List.mem_of_getElem? (i := 691) (by decide +kernel), List.mem_of_getElem? (i := 903) (by decide +kernel), List.mem_of_getElem? (i := 904) (by decide +kernel)⟩
theorem lw_p30 : lw_okq (⟨"AirWatchModel", "read", "()I"⟩, 36) := ⟨⟨by decide +kernel, by decide +kernel⟩, List.mem_of_getElem? (i := 691) (by decide +kernel), List.mem_of_getElem? (i := 915) (by decide +kernel), List.mem_of_getElem? (i := 916) (by decide +kernel)⟩
theorem lw_p31 : lw_okq (⟨"AirWatchModel", "nextToken", "()V"⟩, 36) := ⟨⟨by decide +kernel, by decide +kernel⟩, List.mem_of_getElem? (i := 691) (by decide +kernel), List.mem_of_getElem? (i := 919) (by decide +kernel), List.mem_of_getElem? (i := 920) (by decide +kernel)⟩
def lw_privs_2 : List (MethodName × Nat) := [(⟨"AirWatch$Plan", "isOneOfOldest", "(III)Z"⟩, 8), (⟨"AirWatch$Plan", "choose", "(I)V"⟩, 8), (⟨"AirWatch$Plan", "worthOfChosen", "()I"⟩, 8), (⟨"AirWatch$Plan", "keepChosen", "()V"⟩, 8), (⟨"AirWatchModel", "isPost", "(I)Z"⟩, 36), (⟨"AirWatchModel", "wasListened", "(III)Z"⟩, 36), (⟨"AirWatchModel", "join", "()V"⟩, 36), (⟨"AirWatchModel", "spreads", "(I)Z"⟩, 36), (⟨"AirWatchModel", "isJoin", "(II)Z"⟩, 36), (⟨"AirWatchModel", "isSender", "(I)Z"⟩, 36), (⟨"AirWatchModel", "isPlace", "(II)Z"⟩, 36), (⟨"AirWatchModel", "liesIn", "(III)Z"⟩, 36), (⟨"AirWatchModel", "sortOf", "(II)I"⟩, 36), (⟨"AirWatchModel", "four", "(I)V"⟩, 36), (⟨"AirWatchModel", "read", "()I"⟩, 36), (⟨"AirWatchModel", "nextToken", "()V"⟩, 36)]
theorem lw_r2 : ∀ q ∈ lw_privs_2, lw_okq q := List.forall_mem_cons.mpr ⟨lw_p16, List.forall_mem_cons.mpr ⟨lw_p17, List.forall_mem_cons.mpr ⟨lw_p18, List.forall_mem_cons.mpr ⟨lw_p19, List.forall_mem_cons.mpr ⟨lw_p20, List.forall_mem_cons.mpr ⟨lw_p21, List.forall_mem_cons.mpr ⟨lw_p22, List.forall_mem_cons.mpr ⟨lw_p23, List.forall_mem_cons.mpr ⟨lw_p24, List.forall_mem_cons.mpr ⟨lw_p25, List.forall_mem_cons.mpr ⟨lw_p26, List.forall_mem_cons.mpr ⟨lw_p27, List.forall_mem_cons.mpr ⟨lw_p28, List.forall_mem_cons.mpr ⟨lw_p29, List.forall_mem_cons.mpr ⟨lw_p30, List.forall_mem_cons.mpr ⟨lw_p31, fun _ h => absurd h List.not_mem_nil⟩⟩⟩⟩⟩⟩⟩⟩⟩⟩⟩⟩⟩⟩⟩⟩
theorem lw_p32 : lw_okq (⟨"AirWatchModel", "see", "(I)I"⟩, 36) := ⟨⟨by decide +kernel, by decide +kernel⟩, List.mem_of_getElem? (i := 691) (by decide +kernel), List.mem_of_getElem? (i := 923) (by decide +kernel), List.mem_of_getElem? (i := 924) (by decide +kernel)⟩
theorem lw_p33 : lw_okq (⟨"AirWatchModel", "clause", "(I)I"⟩, 36) := ⟨⟨by decide +kernel, by decide +kernel⟩, List.mem_of_getElem? (i := 691) (by decide +kernel), List.mem_of_getElem? (i := 940) (by decide +kernel), List.mem_of_getElem? (i := 941) (by decide +kernel)⟩
theorem lw_p34 : lw_okq (⟨"AirWatchModel", "span", "(IIZ)I"⟩, 36) := ⟨⟨by decide +kernel, by decide +kernel⟩, List.mem_of_getElem? (i := 691) (by decide +kernel), List.mem_of_getElem? (i := 944) (by decide +kernel), List.mem_of_getElem? (i := 945) (by decide +kernel)⟩
theorem lw_p35 : lw_okq (⟨"AirWatchModel", "answer", "(II)I"⟩, 36) := ⟨⟨by decide +kernel, by decide +kernel⟩, List.mem_of_getElem? (i := 691) (by decide +kernel), List.mem_of_getElem? (i := 956) (by decide +kernel), List.mem_of_getElem? (i := 957) (by decide +kernel)⟩
theorem lw_p36 : lw_okq (⟨"AirWatchModel", "isTime", "(II)Z"⟩, 36) := ⟨⟨by decide +kernel, by decide +kernel⟩, List.mem_of_getElem? (i := 691) (by decide +kernel), List.mem_of_getElem? (i := 960) (by decide +kernel), List.mem_of_getElem? (i := 961) (by decide +kernel)⟩
theorem lw_p37 : lw_okq (⟨"AirWatchModel", "bestOf", "(I)I"⟩, 36) := ⟨⟨by decide +kernel, by decide +kernel⟩, List.mem_of_getElem? (i := 691) (by decide +kernel), List.mem_of_getElem? (i := 968) (by decide +kernel), List.mem_of_getElem? (i := 969) (by decide +kernel)⟩
theorem lw_p38 : lw_okq (⟨"AirWatchModel", "latestAhead", "(II)I"⟩, 36) := ⟨⟨by decide +kernel, by decide +kernel⟩, List.mem_of_getElem? (i := 691) (by decide +kernel), List.mem_of_getElem? (i := 984) (by decide +kernel), List.mem_of_getElem? (i := 985) (by decide +kernel)⟩
theorem lw_p39 : lw_okq (⟨"AirWatchModel", "worth", "(III)I"⟩, 36) := ⟨⟨by decide +kernel, by decide +kernel⟩, List.mem_of_getElem? (i := 691) (by decide +kernel), List.mem_of_getElem? (i := 988) (by decide +kernel), List.mem_of_getElem? (i := 989) (by decide +kernel)⟩
def lw_privs_3 : List (MethodName × Nat) := [(⟨"AirWatchModel", "see", "(I)I"⟩, 36), (⟨"AirWatchModel", "clause", "(I)I"⟩, 36), (⟨"AirWatchModel", "span", "(IIZ)I"⟩, 36), (⟨"AirWatchModel", "answer", "(II)I"⟩, 36), (⟨"AirWatchModel", "isTime", "(II)Z"⟩, 36), (⟨"AirWatchModel", "bestOf", "(I)I"⟩, 36), (⟨"AirWatchModel", "latestAhead", "(II)I"⟩, 36), (⟨"AirWatchModel", "worth", "(III)I"⟩, 36)]
theorem lw_r3 : ∀ q ∈ lw_privs_3, lw_okq q := List.forall_mem_cons.mpr ⟨lw_p32, List.forall_mem_cons.mpr ⟨lw_p33, List.forall_mem_cons.mpr ⟨lw_p34, List.forall_mem_cons.mpr ⟨lw_p35, List.forall_mem_cons.mpr ⟨lw_p36, List.forall_mem_cons.mpr ⟨lw_p37, List.forall_mem_cons.mpr ⟨lw_p38, List.forall_mem_cons.mpr ⟨lw_p39, fun _ h => absurd h List.not_mem_nil⟩⟩⟩⟩⟩⟩⟩⟩
def lw_privs : List (MethodName × Nat) := lw_privs_1 ++ (lw_privs_2 ++ (lw_privs_3))
def lw_tbl : List Cond := k2_sels lw_privs ++ tables_1
theorem lw_privs_ok : ∀ q ∈ lw_privs, lw_okq q := by
  show ∀ q ∈ lw_privs_1 ++ (lw_privs_2 ++ (lw_privs_3)), lw_okq q
  exact List.forall_mem_append.mpr ⟨lw_r1, List.forall_mem_append.mpr ⟨lw_r2, lw_r3⟩⟩
end
section
def RX0 : String := "AirWatch$Groups"
def TX0 : u_T := fun k => match k with
  | 0 => ("AirWatch$Groups", "least", "[I", true)
  | 1 => ("AirWatch$Groups", "number", "[I", true)
  | 2 => ("AirWatch$Groups", "sharp", "I", false)
  | 3 => ("AirWatch$Groups", "gap", "I", false)
  | _ => ("AirWatch$Groups", "count", "I", false)
def tyX0 : Nat → FieldType := fun k => match k with
  | 0 => .array .int
  | 1 => .array .int
  | 2 => .int
  | 3 => .int
  | _ => .int
abbrev wsX00 : List Cond := u_ws RX0 TX0 5
theorem nmX0 : ∀ a, a < 5 → ∀ b, b < 5 → a ≠ b → (TX0 a).2.1 ≠ (TX0 b).2.1 := by decide +kernel
theorem tyX0_ok : ∀ k, k < 5 → parseFieldDescriptor (TX0 k).2.2.1 = some (tyX0 k) := by decide +kernel
abbrev cX0_init : ByteArray := prog_2_method_1_code
def yX0_init : MethodName := ⟨RX0, "<init>", "()V"⟩
abbrev cX0_gather : ByteArray := prog_2_method_2_code
def yX0_gather : MethodName := ⟨RX0, "gather", "(LAirWatch$Marks;)V"⟩
abbrev cX0_unite : ByteArray := prog_2_method_3_code
def yX0_unite : MethodName := ⟨RX0, "unite", "(II)V"⟩
abbrev cX0_giveNumbers : ByteArray := prog_2_method_4_code
def yX0_giveNumbers : MethodName := ⟨RX0, "giveNumbers", "(I)V"⟩
def RX1 : String := "AirWatch$Licences"
def TX1 : u_T := fun k => match k with
  | 0 => ("AirWatch$Licences", "bounds", "[[I", true)
  | _ => ("AirWatch$Licences", "count", "I", false)
def tyX1 : Nat → FieldType := fun k => match k with
  | 0 => .array (.array .int)
  | _ => .int
abbrev wsX10 : List Cond := u_ws RX1 TX1 2
theorem nmX1 : ∀ a, a < 2 → ∀ b, b < 2 → a ≠ b → (TX1 a).2.1 ≠ (TX1 b).2.1 := by decide +kernel
theorem tyX1_ok : ∀ k, k < 2 → parseFieldDescriptor (TX1 k).2.2.1 = some (tyX1 k) := by decide +kernel
abbrev cX1_init : ByteArray := prog_3_method_1_code
def yX1_init : MethodName := ⟨RX1, "<init>", "()V"⟩
abbrev cX1_add : ByteArray := prog_3_method_2_code
def yX1_add : MethodName := ⟨RX1, "add", "([I)I"⟩
abbrev cX1_judge : ByteArray := prog_3_method_3_code
def yX1_judge : MethodName := ⟨RX1, "judge", "(ILAirWatch$Sketch;LAirWatch$Spans;)I"⟩
abbrev cX1_allows : ByteArray := prog_3_method_4_code
def yX1_allows : MethodName := ⟨RX1, "allows", "(IIII)Z"⟩
abbrev cX1_allowsTime : ByteArray := prog_3_method_5_code
def yX1_allowsTime : MethodName := ⟨RX1, "allowsTime", "(III)Z"⟩
abbrev cX1_judgeFields : ByteArray := prog_3_method_6_code
def yX1_judgeFields : MethodName := ⟨RX1, "judgeFields", "(I[I)I"⟩
abbrev cX1_choose : ByteArray := prog_3_method_7_code
def yX1_choose : MethodName := ⟨RX1, "choose", "(LAirWatch$Sketch;LAirWatch$Spans;)I"⟩
def RX2 : String := "AirWatch$Marks"
def TX2 : u_T := fun k => match k with
  | 0 => ("AirWatch$Marks", "spans", "LAirWatch$Spans;", true)
  | 1 => ("AirWatch$Marks", "tone", "[I", true)
  | 2 => ("AirWatch$Marks", "wedged", "[Z", true)
  | 3 => ("AirWatch$Marks", "fields", "[[I", true)
  | _ => ("AirWatch$Marks", "wedges", "I", false)
def tyX2 : Nat → FieldType := fun k => match k with
  | 0 => .object "AirWatch$Spans"
  | 1 => .array .int
  | 2 => .array .boolean
  | 3 => .array (.array .int)
  | _ => .int
abbrev wsX20 : List Cond := u_ws RX2 TX2 5
theorem nmX2 : ∀ a, a < 5 → ∀ b, b < 5 → a ≠ b → (TX2 a).2.1 ≠ (TX2 b).2.1 := by decide +kernel
theorem tyX2_ok : ∀ k, k < 5 → parseFieldDescriptor (TX2 k).2.2.1 = some (tyX2 k) := by decide +kernel
abbrev cX2_init : ByteArray := prog_4_method_1_code
def yX2_init : MethodName := ⟨RX2, "<init>", "()V"⟩
abbrev cX2_add : ByteArray := prog_4_method_2_code
def yX2_add : MethodName := ⟨RX2, "add", "(IIIII)I"⟩
abbrev cX2_clearFields : ByteArray := prog_4_method_3_code
def yX2_clearFields : MethodName := ⟨RX2, "clearFields", "(I)V"⟩
abbrev cX2_addField : ByteArray := prog_4_method_4_code
def yX2_addField : MethodName := ⟨RX2, "addField", "(II)V"⟩
abbrev cX2_areJoined : ByteArray := prog_4_method_5_code
def yX2_areJoined : MethodName := ⟨RX2, "areJoined", "(IIII)Z"⟩
def RX3 : String := "AirWatch$Plan"
def TX3 : u_T := fun k => match k with
  | 0 => ("AirWatch$Plan", "begin", "[I", true)
  | 1 => ("AirWatch$Plan", "latest", "[[I", true)
  | 2 => ("AirWatch$Plan", "tries", "[[I", true)
  | 3 => ("AirWatch$Plan", "chosen", "[I", true)
  | 4 => ("AirWatch$Plan", "best", "[I", true)
  | 5 => ("AirWatch$Plan", "slots", "I", false)
  | 6 => ("AirWatch$Plan", "length", "I", false)
  | _ => ("AirWatch$Plan", "choices", "I", false)
def tyX3 : Nat → FieldType := fun k => match k with
  | 0 => .array .int
  | 1 => .array (.array .int)
  | 2 => .array (.array .int)
  | 3 => .array .int
  | 4 => .array .int
  | 5 => .int
  | 6 => .int
  | _ => .int
abbrev wsX30 : List Cond := u_ws RX3 TX3 8
theorem nmX3 : ∀ a, a < 8 → ∀ b, b < 8 → a ≠ b → (TX3 a).2.1 ≠ (TX3 b).2.1 := by decide +kernel
theorem tyX3_ok : ∀ k, k < 8 → parseFieldDescriptor (TX3 k).2.2.1 = some (tyX3 k) := by decide +kernel
abbrev cX3_init : ByteArray := prog_5_method_1_code
def yX3_init : MethodName := ⟨RX3, "<init>", "()V"⟩
abbrev cX3_lay : ByteArray := prog_5_method_2_code
def yX3_lay : MethodName := ⟨RX3, "lay", "(III)V"⟩
abbrev cX3_look : ByteArray := prog_5_method_3_code
def yX3_look : MethodName := ⟨RX3, "look", "(LAirWatch$Spans;I)V"⟩
abbrev cX3_isOneOfOldest : ByteArray := prog_5_method_4_code
def yX3_isOneOfOldest : MethodName := ⟨RX3, "isOneOfOldest", "(III)Z"⟩
abbrev cX3_search : ByteArray := prog_5_method_5_code
def yX3_search : MethodName := ⟨RX3, "search", "()I"⟩
abbrev cX3_choose : ByteArray := prog_5_method_6_code
def yX3_choose : MethodName := ⟨RX3, "choose", "(I)V"⟩
abbrev cX3_worthOfChosen : ByteArray := prog_5_method_7_code
def yX3_worthOfChosen : MethodName := ⟨RX3, "worthOfChosen", "()I"⟩
abbrev cX3_keepChosen : ByteArray := prog_5_method_8_code
def yX3_keepChosen : MethodName := ⟨RX3, "keepChosen", "()V"⟩
def RX4 : String := "AirWatch$Posts"
def TX4 : u_T := fun k => match k with
  | 0 => ("AirWatch$Posts", "x", "[I", true)
  | 1 => ("AirWatch$Posts", "y", "[I", true)
  | _ => ("AirWatch$Posts", "count", "I", false)
def tyX4 : Nat → FieldType := fun k => match k with
  | 0 => .array .int
  | 1 => .array .int
  | _ => .int
abbrev wsX40 : List Cond := u_ws RX4 TX4 3
theorem nmX4 : ∀ a, a < 3 → ∀ b, b < 3 → a ≠ b → (TX4 a).2.1 ≠ (TX4 b).2.1 := by decide +kernel
theorem tyX4_ok : ∀ k, k < 3 → parseFieldDescriptor (TX4 k).2.2.1 = some (tyX4 k) := by decide +kernel
abbrev cX4_init : ByteArray := prog_6_method_1_code
def yX4_init : MethodName := ⟨RX4, "<init>", "()V"⟩
abbrev cX4_add : ByteArray := prog_6_method_2_code
def yX4_add : MethodName := ⟨RX4, "add", "(II)I"⟩
def RX5 : String := "AirWatch$Reader"
def TX5 : u_T := fun k => match k with
  | 0 => ("AirWatch$Reader", "bounds", "[I", true)
  | 1 => ("AirWatch$Reader", "seen", "I", false)
  | 2 => ("AirWatch$Reader", "fault", "I", false)
  | _ => ("AirWatch$Reader", "place", "I", false)
def tyX5 : Nat → FieldType := fun k => match k with
  | 0 => .array .int
  | 1 => .int
  | 2 => .int
  | _ => .int
abbrev wsX50 : List Cond := u_ws RX5 TX5 4
theorem nmX5 : ∀ a, a < 4 → ∀ b, b < 4 → a ≠ b → (TX5 a).2.1 ≠ (TX5 b).2.1 := by decide +kernel
theorem tyX5_ok : ∀ k, k < 4 → parseFieldDescriptor (TX5 k).2.2.1 = some (tyX5 k) := by decide +kernel
abbrev cX5_init : ByteArray := prog_7_method_1_code
def yX5_init : MethodName := ⟨RX5, "<init>", "()V"⟩
abbrev cX5_read : ByteArray := prog_7_method_2_code
def yX5_read : MethodName := ⟨RX5, "read", "(LAirWatch$Tape;)V"⟩
abbrev cX5_readClause : ByteArray := prog_7_method_3_code
def yX5_readClause : MethodName := ⟨RX5, "readClause", "(LAirWatch$Tape;)V"⟩
abbrev cX5_wordOf : ByteArray := prog_7_method_4_code
def yX5_wordOf : MethodName := ⟨RX5, "wordOf", "(LAirWatch$Tape;)I"⟩
abbrev cX5_readRange : ByteArray := prog_7_method_5_code
def yX5_readRange : MethodName := ⟨RX5, "readRange", "(LAirWatch$Tape;I)V"⟩
abbrev cX5_readNumber : ByteArray := prog_7_method_6_code
def yX5_readNumber : MethodName := ⟨RX5, "readNumber", "(LAirWatch$Tape;III)V"⟩
abbrev cX5_readSign : ByteArray := prog_7_method_7_code
def yX5_readSign : MethodName := ⟨RX5, "readSign", "(LAirWatch$Tape;I)V"⟩
abbrev cX5_blame : ByteArray := prog_7_method_8_code
def yX5_blame : MethodName := ⟨RX5, "blame", "(LAirWatch$Tape;I)V"⟩
def RX6 : String := "AirWatch$Sketch"
def TX6 : u_T := fun k => match k with
  | 0 => ("AirWatch$Sketch", "own", "[I", true)
  | 1 => ("AirWatch$Sketch", "fields", "[I", true)
  | 2 => ("AirWatch$Sketch", "count", "I", false)
  | 3 => ("AirWatch$Sketch", "channel", "I", false)
  | 4 => ("AirWatch$Sketch", "first", "I", false)
  | 5 => ("AirWatch$Sketch", "last", "I", false)
  | 6 => ("AirWatch$Sketch", "leastTone", "I", false)
  | 7 => ("AirWatch$Sketch", "greatestTone", "I", false)
  | _ => ("AirWatch$Sketch", "posts", "I", false)
def tyX6 : Nat → FieldType := fun k => match k with
  | 0 => .array .int
  | 1 => .array .int
  | 2 => .int
  | 3 => .int
  | 4 => .int
  | 5 => .int
  | 6 => .int
  | 7 => .int
  | _ => .int
abbrev wsX60 : List Cond := u_ws RX6 TX6 9
theorem nmX6 : ∀ a, a < 9 → ∀ b, b < 9 → a ≠ b → (TX6 a).2.1 ≠ (TX6 b).2.1 := by decide +kernel
theorem tyX6_ok : ∀ k, k < 9 → parseFieldDescriptor (TX6 k).2.2.1 = some (tyX6 k) := by decide +kernel
abbrev cX6_init : ByteArray := prog_8_method_1_code
def yX6_init : MethodName := ⟨RX6, "<init>", "()V"⟩
abbrev cX6_draw : ByteArray := prog_8_method_2_code
def yX6_draw : MethodName := ⟨RX6, "draw", "(LAirWatch$Marks;[II)V"⟩
abbrev cX6_add : ByteArray := prog_8_method_3_code
def yX6_add : MethodName := ⟨RX6, "add", "(LAirWatch$Marks;I)V"⟩
abbrev cX6_has : ByteArray := prog_8_method_4_code
def yX6_has : MethodName := ⟨RX6, "has", "(I)Z"⟩
abbrev cX6_countFields : ByteArray := prog_8_method_5_code
def yX6_countFields : MethodName := ⟨RX6, "countFields", "()I"⟩
abbrev cX6_fieldAt : ByteArray := prog_8_method_6_code
def yX6_fieldAt : MethodName := ⟨RX6, "fieldAt", "(I)I"⟩
abbrev cX6_edge : ByteArray := prog_8_method_7_code
def yX6_edge : MethodName := ⟨RX6, "edge", "(ZZ)I"⟩
def RX7 : String := "AirWatch$Spans"
def TX7 : u_T := fun k => match k with
  | 0 => ("AirWatch$Spans", "post", "[I", true)
  | 1 => ("AirWatch$Spans", "channel", "[I", true)
  | 2 => ("AirWatch$Spans", "from", "[I", true)
  | 3 => ("AirWatch$Spans", "to", "[I", true)
  | _ => ("AirWatch$Spans", "count", "I", false)
def tyX7 : Nat → FieldType := fun k => match k with
  | 0 => .array .int
  | 1 => .array .int
  | 2 => .array .int
  | 3 => .array .int
  | _ => .int
abbrev wsX70 : List Cond := u_ws RX7 TX7 5
theorem nmX7 : ∀ a, a < 5 → ∀ b, b < 5 → a ≠ b → (TX7 a).2.1 ≠ (TX7 b).2.1 := by decide +kernel
theorem tyX7_ok : ∀ k, k < 5 → parseFieldDescriptor (TX7 k).2.2.1 = some (tyX7 k) := by decide +kernel
abbrev cX7_init : ByteArray := prog_9_method_1_code
def yX7_init : MethodName := ⟨RX7, "<init>", "(I)V"⟩
abbrev cX7_add : ByteArray := prog_9_method_2_code
def yX7_add : MethodName := ⟨RX7, "add", "(IIII)I"⟩
abbrev cX7_holds : ByteArray := prog_9_method_3_code
def yX7_holds : MethodName := ⟨RX7, "holds", "(II)Z"⟩
abbrev cX7_changeBehind : ByteArray := prog_9_method_4_code
def yX7_changeBehind : MethodName := ⟨RX7, "changeBehind", "(III)I"⟩
abbrev cX7_holdsEach : ByteArray := prog_9_method_5_code
def yX7_holdsEach : MethodName := ⟨RX7, "holdsEach", "(IIII)Z"⟩
abbrev cX7_openBehind : ByteArray := prog_9_method_6_code
def yX7_openBehind : MethodName := ⟨RX7, "openBehind", "(III)I"⟩
abbrev cX7_latestAhead : ByteArray := prog_9_method_7_code
def yX7_latestAhead : MethodName := ⟨RX7, "latestAhead", "(II)I"⟩
def RX8 : String := "AirWatch$Tape"
def TX8 : u_T := fun k => match k with
  | 0 => ("AirWatch$Tape", "bytes", "[I", true)
  | 1 => ("AirWatch$Tape", "length", "I", false)
  | 2 => ("AirWatch$Tape", "start", "I", false)
  | 3 => ("AirWatch$Tape", "behind", "I", false)
  | _ => ("AirWatch$Tape", "kind", "I", false)
def tyX8 : Nat → FieldType := fun k => match k with
  | 0 => .array .int
  | 1 => .int
  | 2 => .int
  | 3 => .int
  | _ => .int
abbrev wsX80 : List Cond := u_ws RX8 TX8 5
theorem nmX8 : ∀ a, a < 5 → ∀ b, b < 5 → a ≠ b → (TX8 a).2.1 ≠ (TX8 b).2.1 := by decide +kernel
theorem tyX8_ok : ∀ k, k < 5 → parseFieldDescriptor (TX8 k).2.2.1 = some (tyX8 k) := by decide +kernel
abbrev cX8_init : ByteArray := prog_10_method_1_code
def yX8_init : MethodName := ⟨RX8, "<init>", "()V"⟩
abbrev cX8_add : ByteArray := prog_10_method_2_code
def yX8_add : MethodName := ⟨RX8, "add", "(I)V"⟩
abbrev cX8_rewind : ByteArray := prog_10_method_3_code
def yX8_rewind : MethodName := ⟨RX8, "rewind", "()V"⟩
abbrev cX8_step : ByteArray := prog_10_method_4_code
def yX8_step : MethodName := ⟨RX8, "step", "()V"⟩
abbrev cX8_kindOf : ByteArray := prog_10_method_5_code
def yX8_kindOf : MethodName := ⟨RX8, "kindOf", "(I)I"⟩
abbrev cX8_spells : ByteArray := prog_10_method_6_code
def yX8_spells : MethodName := ⟨RX8, "spells", "(Ljava/lang/String;)Z"⟩
abbrev cX8_value : ByteArray := prog_10_method_7_code
def yX8_value : MethodName := ⟨RX8, "value", "()I"⟩
def RX9 : String := "AirWatch"
def TX9 : u_T := fun k => match k with
  | 0 => ("AirWatch", "posts", "LAirWatch$Posts;", true)
  | 1 => ("AirWatch", "listening", "LAirWatch$Spans;", true)
  | 2 => ("AirWatch", "marks", "LAirWatch$Marks;", true)
  | 3 => ("AirWatch", "groups", "LAirWatch$Groups;", true)
  | 4 => ("AirWatch", "sketch", "LAirWatch$Sketch;", true)
  | 5 => ("AirWatch", "tape", "LAirWatch$Tape;", true)
  | 6 => ("AirWatch", "reader", "LAirWatch$Reader;", true)
  | 7 => ("AirWatch", "licences", "LAirWatch$Licences;", true)
  | _ => ("AirWatch", "plan", "LAirWatch$Plan;", true)
def tyX9 : Nat → FieldType := fun k => match k with
  | 0 => .object "AirWatch$Posts"
  | 1 => .object "AirWatch$Spans"
  | 2 => .object "AirWatch$Marks"
  | 3 => .object "AirWatch$Groups"
  | 4 => .object "AirWatch$Sketch"
  | 5 => .object "AirWatch$Tape"
  | 6 => .object "AirWatch$Reader"
  | 7 => .object "AirWatch$Licences"
  | _ => .object "AirWatch$Plan"
abbrev wsX90 : List Cond := u_ws RX9 TX9 9
theorem nmX9 : ∀ a, a < 9 → ∀ b, b < 9 → a ≠ b → (TX9 a).2.1 ≠ (TX9 b).2.1 := by decide +kernel
theorem tyX9_ok : ∀ k, k < 9 → parseFieldDescriptor (TX9 k).2.2.1 = some (tyX9 k) := by decide +kernel
abbrev cX9_init : ByteArray := prog_1_method_1_code
def yX9_init : MethodName := ⟨RX9, "<init>", "()V"⟩
abbrev cX9_post : ByteArray := prog_1_method_2_code
def yX9_post : MethodName := ⟨RX9, "post", "(II)I"⟩
abbrev cX9_listened : ByteArray := prog_1_method_3_code
def yX9_listened : MethodName := ⟨RX9, "listened", "(IIII)I"⟩
abbrev cX9_mark : ByteArray := prog_1_method_4_code
def yX9_mark : MethodName := ⟨RX9, "mark", "(IIIII)I"⟩
abbrev cX9_wedge : ByteArray := prog_1_method_5_code
def yX9_wedge : MethodName := ⟨RX9, "wedge", "(IIIII)Z"⟩
abbrev cX9_joins : ByteArray := prog_1_method_6_code
def yX9_joins : MethodName := ⟨RX9, "joins", "(II)Z"⟩
abbrev cX9_senders : ByteArray := prog_1_method_7_code
def yX9_senders : MethodName := ⟨RX9, "senders", "()I"⟩
abbrev cX9_senderOf : ByteArray := prog_1_method_8_code
def yX9_senderOf : MethodName := ⟨RX9, "senderOf", "(I)I"⟩
abbrev cX9_sender : ByteArray := prog_1_method_9_code
def yX9_sender : MethodName := ⟨RX9, "sender", "(II)I"⟩
abbrev cX9_place : ByteArray := prog_1_method_10_code
def yX9_place : MethodName := ⟨RX9, "place", "(II)I"⟩
abbrev cX9_box : ByteArray := prog_1_method_11_code
def yX9_box : MethodName := ⟨RX9, "box", "(II)I"⟩
abbrev cX9_minutes : ByteArray := prog_1_method_12_code
def yX9_minutes : MethodName := ⟨RX9, "minutes", "(IIII)I"⟩
abbrev cX9_blind : ByteArray := prog_1_method_13_code
def yX9_blind : MethodName := ⟨RX9, "blind", "(III)I"⟩
abbrev cX9_feed : ByteArray := prog_1_method_14_code
def yX9_feed : MethodName := ⟨RX9, "feed", "(IIIII)I"⟩
abbrev cX9_end : ByteArray := prog_1_method_15_code
def yX9_end : MethodName := ⟨RX9, "end", "(I)I"⟩
abbrev cX9_licence : ByteArray := prog_1_method_16_code
def yX9_licence : MethodName := ⟨RX9, "licence", "()I"⟩
abbrev cX9_fault : ByteArray := prog_1_method_17_code
def yX9_fault : MethodName := ⟨RX9, "fault", "(I)I"⟩
abbrev cX9_fits : ByteArray := prog_1_method_18_code
def yX9_fits : MethodName := ⟨RX9, "fits", "(II)I"⟩
abbrev cX9_best : ByteArray := prog_1_method_19_code
def yX9_best : MethodName := ⟨RX9, "best", "(II)I"⟩
abbrev cX9_wanderers : ByteArray := prog_1_method_20_code
def yX9_wanderers : MethodName := ⟨RX9, "wanderers", "()I"⟩
abbrev cX9_sweep : ByteArray := prog_1_method_21_code
def yX9_sweep : MethodName := ⟨RX9, "sweep", "(IIII)I"⟩
abbrev cX9_slot : ByteArray := prog_1_method_22_code
def yX9_slot : MethodName := ⟨RX9, "slot", "(I)I"⟩
abbrev cX9_about : ByteArray := prog_1_method_23_code
def yX9_about : MethodName := ⟨RX9, "about", "(I)I"⟩
abbrev cX9_isBelow : ByteArray := prog_1_method_24_code
def yX9_isBelow : MethodName := ⟨RX9, "isBelow", "(II)Z"⟩
abbrev cX9_isSide : ByteArray := prog_1_method_25_code
def yX9_isSide : MethodName := ⟨RX9, "isSide", "(I)Z"⟩
abbrev cX9_isStretch : ByteArray := prog_1_method_26_code
def yX9_isStretch : MethodName := ⟨RX9, "isStretch", "(II)Z"⟩
abbrev cX9_isHearing : ByteArray := prog_1_method_27_code
def yX9_isHearing : MethodName := ⟨RX9, "isHearing", "(IIII)Z"⟩
abbrev cX9_stateAt : ByteArray := prog_1_method_28_code
def yX9_stateAt : MethodName := ⟨RX9, "stateAt", "(II)I"⟩
abbrev cX9_changeBehind : ByteArray := prog_1_method_29_code
def yX9_changeBehind : MethodName := ⟨RX9, "changeBehind", "(III)I"⟩
def RX10 : String := "AirWatchModel"
def TX10 : u_T := fun k => match k with
  | 0 => ("AirWatchModel", "posts", "I", false)
  | 1 => ("AirWatchModel", "postX", "[I", true)
  | 2 => ("AirWatchModel", "postY", "[I", true)
  | 3 => ("AirWatchModel", "listens", "I", false)
  | 4 => ("AirWatchModel", "listenPost", "[I", true)
  | 5 => ("AirWatchModel", "listenChannel", "[I", true)
  | 6 => ("AirWatchModel", "listenFrom", "[I", true)
  | 7 => ("AirWatchModel", "listenTo", "[I", true)
  | 8 => ("AirWatchModel", "marks", "I", false)
  | 9 => ("AirWatchModel", "markPost", "[I", true)
  | 10 => ("AirWatchModel", "channel", "[I", true)
  | 11 => ("AirWatchModel", "from", "[I", true)
  | 12 => ("AirWatchModel", "to", "[I", true)
  | 13 => ("AirWatchModel", "tone", "[I", true)
  | 14 => ("AirWatchModel", "hasWedge", "[Z", true)
  | 15 => ("AirWatchModel", "wedge", "[I", true)
  | 16 => ("AirWatchModel", "sharp", "I", false)
  | 17 => ("AirWatchModel", "gap", "I", false)
  | 18 => ("AirWatchModel", "senders", "I", false)
  | 19 => ("AirWatchModel", "senderOf", "[I", true)
  | 20 => ("AirWatchModel", "least", "[I", true)
  | 21 => ("AirWatchModel", "tape", "[I", true)
  | 22 => ("AirWatchModel", "taped", "I", false)
  | 23 => ("AirWatchModel", "licences", "I", false)
  | 24 => ("AirWatchModel", "says", "[I", true)
  | 25 => ("AirWatchModel", "fault", "I", false)
  | 26 => ("AirWatchModel", "faultPlace", "I", false)
  | 27 => ("AirWatchModel", "at", "I", false)
  | 28 => ("AirWatchModel", "place", "I", false)
  | 29 => ("AirWatchModel", "token", "I", false)
  | 30 => ("AirWatchModel", "number", "I", false)
  | 31 => ("AirWatchModel", "slots", "I", false)
  | 32 => ("AirWatchModel", "slot", "[I", true)
  | 33 => ("AirWatchModel", "wheel", "[I", true)
  | 34 => ("AirWatchModel", "latest", "[I", true)
  | _ => ("AirWatchModel", "asked", "[I", true)
def tyX10 : Nat → FieldType := fun k => match k with
  | 0 => .int
  | 1 => .array .int
  | 2 => .array .int
  | 3 => .int
  | 4 => .array .int
  | 5 => .array .int
  | 6 => .array .int
  | 7 => .array .int
  | 8 => .int
  | 9 => .array .int
  | 10 => .array .int
  | 11 => .array .int
  | 12 => .array .int
  | 13 => .array .int
  | 14 => .array .boolean
  | 15 => .array .int
  | 16 => .int
  | 17 => .int
  | 18 => .int
  | 19 => .array .int
  | 20 => .array .int
  | 21 => .array .int
  | 22 => .int
  | 23 => .int
  | 24 => .array .int
  | 25 => .int
  | 26 => .int
  | 27 => .int
  | 28 => .int
  | 29 => .int
  | 30 => .int
  | 31 => .int
  | 32 => .array .int
  | 33 => .array .int
  | 34 => .array .int
  | _ => .array .int
abbrev wsX100 : List Cond := u_ws RX10 TX10 36
theorem nmX10 : ∀ a, a < 36 → ∀ b, b < 36 → a ≠ b → (TX10 a).2.1 ≠ (TX10 b).2.1 := by decide +kernel
theorem tyX10_ok : ∀ k, k < 36 → parseFieldDescriptor (TX10 k).2.2.1 = some (tyX10 k) := by decide +kernel
abbrev cX10_init : ByteArray := prog_12_method_1_code
def yX10_init : MethodName := ⟨RX10, "<init>", "()V"⟩
abbrev cX10_isIn : ByteArray := prog_12_method_2_code
def yX10_isIn : MethodName := ⟨RX10, "isIn", "(III)Z"⟩
abbrev cX10_post : ByteArray := prog_12_method_3_code
def yX10_post : MethodName := ⟨RX10, "post", "(II)I"⟩
abbrev cX10_isPost : ByteArray := prog_12_method_4_code
def yX10_isPost : MethodName := ⟨RX10, "isPost", "(I)Z"⟩
abbrev cX10_isSpan : ByteArray := prog_12_method_5_code
def yX10_isSpan : MethodName := ⟨RX10, "isSpan", "(II)Z"⟩
abbrev cX10_listened : ByteArray := prog_12_method_6_code
def yX10_listened : MethodName := ⟨RX10, "listened", "(IIII)I"⟩
abbrev cX10_wasListened : ByteArray := prog_12_method_7_code
def yX10_wasListened : MethodName := ⟨RX10, "wasListened", "(III)Z"⟩
abbrev cX10_mark : ByteArray := prog_12_method_8_code
def yX10_mark : MethodName := ⟨RX10, "mark", "(IIIII)I"⟩
abbrev cX10_isWay : ByteArray := prog_12_method_9_code
def yX10_isWay : MethodName := ⟨RX10, "isWay", "(II)Z"⟩
abbrev cX10_wedge : ByteArray := prog_12_method_10_code
def yX10_wedge : MethodName := ⟨RX10, "wedge", "(IIIII)Z"⟩
abbrev cX10_joins : ByteArray := prog_12_method_11_code
def yX10_joins : MethodName := ⟨RX10, "joins", "(II)Z"⟩
abbrev cX10_isJoin : ByteArray := prog_12_method_12_code
def yX10_isJoin : MethodName := ⟨RX10, "isJoin", "(II)Z"⟩
abbrev cX10_join : ByteArray := prog_12_method_13_code
def yX10_join : MethodName := ⟨RX10, "join", "()V"⟩
abbrev cX10_spreads : ByteArray := prog_12_method_14_code
def yX10_spreads : MethodName := ⟨RX10, "spreads", "(I)Z"⟩
abbrev cX10_senders : ByteArray := prog_12_method_15_code
def yX10_senders : MethodName := ⟨RX10, "senders", "()I"⟩
abbrev cX10_senderOf : ByteArray := prog_12_method_16_code
def yX10_senderOf : MethodName := ⟨RX10, "senderOf", "(I)I"⟩
abbrev cX10_isSender : ByteArray := prog_12_method_17_code
def yX10_isSender : MethodName := ⟨RX10, "isSender", "(I)Z"⟩
abbrev cX10_liesIn : ByteArray := prog_12_method_18_code
def yX10_liesIn : MethodName := ⟨RX10, "liesIn", "(III)Z"⟩
abbrev cX10_isPlace : ByteArray := prog_12_method_19_code
def yX10_isPlace : MethodName := ⟨RX10, "isPlace", "(II)Z"⟩
abbrev cX10_sender : ByteArray := prog_12_method_20_code
def yX10_sender : MethodName := ⟨RX10, "sender", "(II)I"⟩
abbrev cX10_place : ByteArray := prog_12_method_21_code
def yX10_place : MethodName := ⟨RX10, "place", "(II)I"⟩
abbrev cX10_box : ByteArray := prog_12_method_22_code
def yX10_box : MethodName := ⟨RX10, "box", "(II)I"⟩
abbrev cX10_sortOf : ByteArray := prog_12_method_23_code
def yX10_sortOf : MethodName := ⟨RX10, "sortOf", "(II)I"⟩
abbrev cX10_minutes : ByteArray := prog_12_method_24_code
def yX10_minutes : MethodName := ⟨RX10, "minutes", "(IIII)I"⟩
abbrev cX10_blind : ByteArray := prog_12_method_25_code
def yX10_blind : MethodName := ⟨RX10, "blind", "(III)I"⟩
abbrev cX10_four : ByteArray := prog_12_method_26_code
def yX10_four : MethodName := ⟨RX10, "four", "(I)V"⟩
abbrev cX10_feed : ByteArray := prog_12_method_27_code
def yX10_feed : MethodName := ⟨RX10, "feed", "(IIIII)I"⟩
abbrev cX10_end : ByteArray := prog_12_method_28_code
def yX10_end : MethodName := ⟨RX10, "end", "(I)I"⟩
abbrev cX10_see : ByteArray := prog_12_method_29_code
def yX10_see : MethodName := ⟨RX10, "see", "(I)I"⟩
abbrev cX10_isLetter : ByteArray := prog_12_method_30_code
def yX10_isLetter : MethodName := ⟨RX10, "isLetter", "(I)Z"⟩
abbrev cX10_isDigit : ByteArray := prog_12_method_31_code
def yX10_isDigit : MethodName := ⟨RX10, "isDigit", "(I)Z"⟩
abbrev cX10_pack : ByteArray := prog_12_method_32_code
def yX10_pack : MethodName := ⟨RX10, "pack", "(IIII)I"⟩
abbrev cX10_wordOf : ByteArray := prog_12_method_33_code
def yX10_wordOf : MethodName := ⟨RX10, "wordOf", "(I)I"⟩
abbrev cX10_nextToken : ByteArray := prog_12_method_34_code
def yX10_nextToken : MethodName := ⟨RX10, "nextToken", "()V"⟩
abbrev cX10_span : ByteArray := prog_12_method_35_code
def yX10_span : MethodName := ⟨RX10, "span", "(IIZ)I"⟩
abbrev cX10_clause : ByteArray := prog_12_method_36_code
def yX10_clause : MethodName := ⟨RX10, "clause", "(I)I"⟩
abbrev cX10_read : ByteArray := prog_12_method_37_code
def yX10_read : MethodName := ⟨RX10, "read", "()I"⟩
abbrev cX10_licence : ByteArray := prog_12_method_38_code
def yX10_licence : MethodName := ⟨RX10, "licence", "()I"⟩
abbrev cX10_fault : ByteArray := prog_12_method_39_code
def yX10_fault : MethodName := ⟨RX10, "fault", "(I)I"⟩
abbrev cX10_isTime : ByteArray := prog_12_method_40_code
def yX10_isTime : MethodName := ⟨RX10, "isTime", "(II)Z"⟩
abbrev cX10_answer : ByteArray := prog_12_method_41_code
def yX10_answer : MethodName := ⟨RX10, "answer", "(II)I"⟩
abbrev cX10_fits : ByteArray := prog_12_method_42_code
def yX10_fits : MethodName := ⟨RX10, "fits", "(II)I"⟩
abbrev cX10_rankOf : ByteArray := prog_12_method_43_code
def yX10_rankOf : MethodName := ⟨RX10, "rankOf", "(I)I"⟩
abbrev cX10_bestOf : ByteArray := prog_12_method_44_code
def yX10_bestOf : MethodName := ⟨RX10, "bestOf", "(I)I"⟩
abbrev cX10_best : ByteArray := prog_12_method_45_code
def yX10_best : MethodName := ⟨RX10, "best", "(II)I"⟩
abbrev cX10_wanderers : ByteArray := prog_12_method_46_code
def yX10_wanderers : MethodName := ⟨RX10, "wanderers", "()I"⟩
abbrev cX10_worth : ByteArray := prog_12_method_47_code
def yX10_worth : MethodName := ⟨RX10, "worth", "(III)I"⟩
abbrev cX10_sweep : ByteArray := prog_12_method_48_code
def yX10_sweep : MethodName := ⟨RX10, "sweep", "(IIII)I"⟩
abbrev cX10_latestAhead : ByteArray := prog_12_method_49_code
def yX10_latestAhead : MethodName := ⟨RX10, "latestAhead", "(II)I"⟩
abbrev cX10_slot : ByteArray := prog_12_method_50_code
def yX10_slot : MethodName := ⟨RX10, "slot", "(I)I"⟩
abbrev cX10_about : ByteArray := prog_12_method_51_code
def yX10_about : MethodName := ⟨RX10, "about", "(I)I"⟩
def RJ6 : String := "java/lang/Integer"
def TJ6 : u_T := fun k => match k with
  | _ => ("", "", "", false)
def tyJ6 : Nat → FieldType := fun k => match k with
  | _ => .int
abbrev wsJ60 : List Cond := u_ws RJ6 TJ6 0
theorem nmJ6 : ∀ a, a < 0 → ∀ b, b < 0 → a ≠ b → (TJ6 a).2.1 ≠ (TJ6 b).2.1 := by decide +kernel
theorem tyJ6_ok : ∀ k, k < 0 → parseFieldDescriptor (TJ6 k).2.2.1 = some (tyJ6 k) := by decide +kernel
abbrev cJ6_bitCount_0f7a4 : ByteArray := prog_13_method_49_code
def yJ6_bitCount_0f7a4 : MethodName := ⟨RJ6, "bitCount", "(I)I"⟩
def RJ9 : String := "java/lang/Math"
def TJ9 : u_T := fun k => match k with
  | _ => ("", "", "", false)
def tyJ9 : Nat → FieldType := fun k => match k with
  | _ => .int
abbrev wsJ90 : List Cond := u_ws RJ9 TJ9 0
theorem nmJ9 : ∀ a, a < 0 → ∀ b, b < 0 → a ≠ b → (TJ9 a).2.1 ≠ (TJ9 b).2.1 := by decide +kernel
theorem tyJ9_ok : ∀ k, k < 0 → parseFieldDescriptor (TJ9 k).2.2.1 = some (tyJ9 k) := by decide +kernel
abbrev cJ9_floorMod_7cf53 : ByteArray := prog_14_method_50_code
def yJ9_floorMod_7cf53 : MethodName := ⟨RJ9, "floorMod", "(II)I"⟩
abbrev cJ9_abs_0f7a4 : ByteArray := prog_14_method_59_code
def yJ9_abs_0f7a4 : MethodName := ⟨RJ9, "abs", "(I)I"⟩
abbrev cJ9_max_7cf53 : ByteArray := prog_14_method_65_code
def yJ9_max_7cf53 : MethodName := ⟨RJ9, "max", "(II)I"⟩
abbrev cJ9_min_7cf53 : ByteArray := prog_14_method_69_code
def yJ9_min_7cf53 : MethodName := ⟨RJ9, "min", "(II)I"⟩
def RJ0 : String := "java/lang/String"
def TJ0 : u_T := fun k => match k with
  | _ => ("", "", "", false)
def tyJ0 : Nat → FieldType := fun k => match k with
  | _ => .int
abbrev wsJ00 : List Cond := u_ws RJ0 TJ0 0
theorem nmJ0 : ∀ a, a < 0 → ∀ b, b < 0 → a ≠ b → (TJ0 a).2.1 ≠ (TJ0 b).2.1 := by decide +kernel
theorem tyJ0_ok : ∀ k, k < 0 → parseFieldDescriptor (TJ0 k).2.2.1 = some (tyJ0 k) := by decide +kernel
abbrev cJ0_length_8abf5 : ByteArray := prog_15_method_54_code
def yJ0_length_8abf5 : MethodName := ⟨RJ0, "length", "()I"⟩
abbrev cJ0_charAt_5068e : ByteArray := prog_15_method_56_code
def yJ0_charAt_5068e : MethodName := ⟨RJ0, "charAt", "(I)C"⟩
abbrev cJ0_coder_7d493 : ByteArray := prog_15_method_152_code
def yJ0_coder_7d493 : MethodName := ⟨RJ0, "coder", "()B"⟩
abbrev cJ0_isLatin1_aae02 : ByteArray := prog_15_method_154_code
def yJ0_isLatin1_aae02 : MethodName := ⟨RJ0, "isLatin1", "()Z"⟩
abbrev cJ0_checkIndex_df160 : ByteArray := prog_15_method_155_code
def yJ0_checkIndex_df160 : MethodName := ⟨RJ0, "checkIndex", "(II)V"⟩
def RJ1 : String := "java/lang/StringLatin1"
def TJ1 : u_T := fun k => match k with
  | _ => ("", "", "", false)
def tyJ1 : Nat → FieldType := fun k => match k with
  | _ => .int
abbrev wsJ10 : List Cond := u_ws RJ1 TJ1 0
theorem nmJ1 : ∀ a, a < 0 → ∀ b, b < 0 → a ≠ b → (TJ1 a).2.1 ≠ (TJ1 b).2.1 := by decide +kernel
theorem tyJ1_ok : ∀ k, k < 0 → parseFieldDescriptor (TJ1 k).2.2.1 = some (tyJ1 k) := by decide +kernel
abbrev cJ1_charAt_3b067 : ByteArray := prog_16_method_2_code
def yJ1_charAt_3b067 : MethodName := ⟨RJ1, "charAt", "([BI)C"⟩
def RJ2 : String := "java/lang/StringUTF16"
def TJ2 : u_T := fun k => match k with
  | _ => ("", "", "", false)
def tyJ2 : Nat → FieldType := fun k => match k with
  | _ => .int
abbrev wsJ20 : List Cond := u_ws RJ2 TJ2 0
theorem nmJ2 : ∀ a, a < 0 → ∀ b, b < 0 → a ≠ b → (TJ2 a).2.1 ≠ (TJ2 b).2.1 := by decide +kernel
theorem tyJ2_ok : ∀ k, k < 0 → parseFieldDescriptor (TJ2 k).2.2.1 = some (tyJ2 k) := by decide +kernel
abbrev cJ2_getChar_3b067 : ByteArray := prog_17_method_5_code
def yJ2_getChar_3b067 : MethodName := ⟨RJ2, "getChar", "([BI)C"⟩
abbrev cJ2_length_9d52b : ByteArray := prog_17_method_6_code
def yJ2_length_9d52b : MethodName := ⟨RJ2, "length", "([B)I"⟩
abbrev cJ2_charAt_3b067 : ByteArray := prog_17_method_83_code
def yJ2_charAt_3b067 : MethodName := ⟨RJ2, "charAt", "([BI)C"⟩
abbrev cJ2_checkIndex_2214a : ByteArray := prog_17_method_91_code
def yJ2_checkIndex_2214a : MethodName := ⟨RJ2, "checkIndex", "(I[B)V"⟩
def RJ3 : String := "jdk/internal/util/Preconditions"
def TJ3 : u_T := fun k => match k with
  | _ => ("", "", "", false)
def tyJ3 : Nat → FieldType := fun k => match k with
  | _ => .int
abbrev wsJ30 : List Cond := u_ws RJ3 TJ3 0
theorem nmJ3 : ∀ a, a < 0 → ∀ b, b < 0 → a ≠ b → (TJ3 a).2.1 ≠ (TJ3 b).2.1 := by decide +kernel
theorem tyJ3_ok : ∀ k, k < 0 → parseFieldDescriptor (TJ3 k).2.2.1 = some (tyJ3 k) := by decide +kernel
abbrev cJ3_checkIndex_8e157 : ByteArray := prog_18_method_11_code
def yJ3_checkIndex_8e157 : MethodName := ⟨RJ3, "checkIndex", "(IILjava/util/function/BiFunction;)I"⟩
def RL : String := "AirWatchLaw"
abbrev cL_law : ByteArray := code
def yL_law : MethodName := ⟨RL, "law", "([I)Z"⟩
theorem inX0 : ∀ w ∈ wsX00, w ∈ lw_tbl := by decide +kernel
theorem inX1 : ∀ w ∈ wsX10, w ∈ lw_tbl := by decide +kernel
theorem inX2 : ∀ w ∈ wsX20, w ∈ lw_tbl := by decide +kernel
theorem inX3 : ∀ w ∈ wsX30, w ∈ lw_tbl := by decide +kernel
theorem inX4 : ∀ w ∈ wsX40, w ∈ lw_tbl := by decide +kernel
theorem inX5 : ∀ w ∈ wsX50, w ∈ lw_tbl := by decide +kernel
theorem inX6 : ∀ w ∈ wsX60, w ∈ lw_tbl := by decide +kernel
theorem inX7 : ∀ w ∈ wsX70, w ∈ lw_tbl := by decide +kernel
theorem inX8 : ∀ w ∈ wsX80, w ∈ lw_tbl := by decide +kernel
theorem inX9 : ∀ w ∈ wsX90, w ∈ lw_tbl := by decide +kernel
theorem inX10 : ∀ w ∈ wsX100, w ∈ lw_tbl := by decide +kernel
end
section
theorem dL_law_0 : decode cL_law 0 = .ok (.new 7, 3) := by decide +kernel
theorem dL_law_3 : decode cL_law 3 = .ok (.dup, 1) := by decide +kernel
theorem dL_law_4 : decode cL_law 4 = .ok (.invokespecial 9, 3) := by decide +kernel
theorem dL_law_7 : decode cL_law 7 = .ok (.astore_n 1, 1) := by decide +kernel
theorem dL_law_8 : decode cL_law 8 = .ok (.new 10, 3) := by decide +kernel
theorem dL_law_11 : decode cL_law 11 = .ok (.dup, 1) := by decide +kernel
theorem dL_law_12 : decode cL_law 12 = .ok (.invokespecial 12, 3) := by decide +kernel
theorem dL_law_15 : decode cL_law 15 = .ok (.astore_n 2, 1) := by decide +kernel
theorem dL_law_16 : decode cL_law 16 = .ok (.iconst 0, 1) := by decide +kernel
theorem dL_law_17 : decode cL_law 17 = .ok (.istore_n 3, 1) := by decide +kernel
theorem dL_law_18 : decode cL_law 18 = .ok (.iload_n 3, 1) := by decide +kernel
theorem dL_law_19 : decode cL_law 19 = .ok (.aload_n 0, 1) := by decide +kernel
theorem dL_law_20 : decode cL_law 20 = .ok (.arraylength, 1) := by decide +kernel
theorem dL_law_21 : decode cL_law 21 = .ok (.bipush 6, 2) := by decide +kernel
theorem dL_law_23 : decode cL_law 23 = .ok (.isub, 1) := by decide +kernel
theorem dL_law_24 : decode cL_law 24 = .ok (.if_icmp .gt 894, 3) := by decide +kernel
theorem dL_law_27 : decode cL_law 27 = .ok (.aload_n 0, 1) := by decide +kernel
theorem dL_law_28 : decode cL_law 28 = .ok (.iload_n 3, 1) := by decide +kernel
theorem dL_law_29 : decode cL_law 29 = .ok (.iaload, 1) := by decide +kernel
theorem dL_law_30 : decode cL_law 30 = .ok (.bipush 31, 2) := by decide +kernel
theorem dL_law_32 : decode cL_law 32 = .ok (.iand, 1) := by decide +kernel
theorem dL_law_33 : decode cL_law 33 = .ok (.tableswitch 879 0 21 #[103, 136, 189, 252, 315, 348, 361, 384, 417, 450, 483, 536, 579, 642, 665, 678, 701, 734, 767, 780, 833, 856], 103) := by decide +kernel
theorem dL_law_136 : decode cL_law 136 = .ok (.aload_n 1, 1) := by decide +kernel
theorem dL_law_137 : decode cL_law 137 = .ok (.aload_n 0, 1) := by decide +kernel
theorem dL_law_138 : decode cL_law 138 = .ok (.iload_n 3, 1) := by decide +kernel
theorem dL_law_139 : decode cL_law 139 = .ok (.iconst 1, 1) := by decide +kernel
theorem dL_law_140 : decode cL_law 140 = .ok (.iadd, 1) := by decide +kernel
theorem dL_law_141 : decode cL_law 141 = .ok (.iaload, 1) := by decide +kernel
theorem dL_law_142 : decode cL_law 142 = .ok (.aload_n 0, 1) := by decide +kernel
theorem dL_law_143 : decode cL_law 143 = .ok (.iload_n 3, 1) := by decide +kernel
theorem dL_law_144 : decode cL_law 144 = .ok (.iconst 2, 1) := by decide +kernel
theorem dL_law_145 : decode cL_law 145 = .ok (.iadd, 1) := by decide +kernel
theorem dL_law_146 : decode cL_law 146 = .ok (.iaload, 1) := by decide +kernel
theorem dL_law_147 : decode cL_law 147 = .ok (.invokevirtual 13, 3) := by decide +kernel
theorem dL_law_150 : decode cL_law 150 = .ok (.aload_n 2, 1) := by decide +kernel
theorem dL_law_151 : decode cL_law 151 = .ok (.aload_n 0, 1) := by decide +kernel
theorem dL_law_152 : decode cL_law 152 = .ok (.iload_n 3, 1) := by decide +kernel
theorem dL_law_153 : decode cL_law 153 = .ok (.iconst 1, 1) := by decide +kernel
theorem dL_law_154 : decode cL_law 154 = .ok (.iadd, 1) := by decide +kernel
theorem dL_law_155 : decode cL_law 155 = .ok (.iaload, 1) := by decide +kernel
theorem dL_law_156 : decode cL_law 156 = .ok (.aload_n 0, 1) := by decide +kernel
theorem dL_law_157 : decode cL_law 157 = .ok (.iload_n 3, 1) := by decide +kernel
theorem dL_law_158 : decode cL_law 158 = .ok (.iconst 2, 1) := by decide +kernel
theorem dL_law_159 : decode cL_law 159 = .ok (.iadd, 1) := by decide +kernel
theorem dL_law_160 : decode cL_law 160 = .ok (.iaload, 1) := by decide +kernel
theorem dL_law_161 : decode cL_law 161 = .ok (.invokevirtual 17, 3) := by decide +kernel
theorem dL_law_164 : decode cL_law 164 = .ok (.if_icmp .eq 748, 3) := by decide +kernel
theorem dL_law_167 : decode cL_law 167 = .ok (.iconst 0, 1) := by decide +kernel
theorem dL_law_168 : decode cL_law 168 = .ok (.ireturn, 1) := by decide +kernel
theorem dL_law_169 : decode cL_law 169 = .ok (.aload_n 1, 1) := by decide +kernel
theorem dL_law_170 : decode cL_law 170 = .ok (.aload_n 0, 1) := by decide +kernel
theorem dL_law_171 : decode cL_law 171 = .ok (.iload_n 3, 1) := by decide +kernel
theorem dL_law_172 : decode cL_law 172 = .ok (.iconst 1, 1) := by decide +kernel
theorem dL_law_173 : decode cL_law 173 = .ok (.iadd, 1) := by decide +kernel
theorem dL_law_174 : decode cL_law 174 = .ok (.iaload, 1) := by decide +kernel
theorem dL_law_175 : decode cL_law 175 = .ok (.aload_n 0, 1) := by decide +kernel
theorem dL_law_176 : decode cL_law 176 = .ok (.iload_n 3, 1) := by decide +kernel
theorem dL_law_177 : decode cL_law 177 = .ok (.iconst 2, 1) := by decide +kernel
theorem dL_law_178 : decode cL_law 178 = .ok (.iadd, 1) := by decide +kernel
theorem dL_law_179 : decode cL_law 179 = .ok (.iaload, 1) := by decide +kernel
theorem dL_law_180 : decode cL_law 180 = .ok (.aload_n 0, 1) := by decide +kernel
theorem dL_law_181 : decode cL_law 181 = .ok (.iload_n 3, 1) := by decide +kernel
theorem dL_law_182 : decode cL_law 182 = .ok (.iconst 3, 1) := by decide +kernel
theorem dL_law_183 : decode cL_law 183 = .ok (.iadd, 1) := by decide +kernel
theorem dL_law_184 : decode cL_law 184 = .ok (.iaload, 1) := by decide +kernel
theorem dL_law_185 : decode cL_law 185 = .ok (.aload_n 0, 1) := by decide +kernel
theorem dL_law_186 : decode cL_law 186 = .ok (.iload_n 3, 1) := by decide +kernel
theorem dL_law_187 : decode cL_law 187 = .ok (.iconst 4, 1) := by decide +kernel
theorem dL_law_188 : decode cL_law 188 = .ok (.iadd, 1) := by decide +kernel
theorem dL_law_189 : decode cL_law 189 = .ok (.iaload, 1) := by decide +kernel
theorem dL_law_190 : decode cL_law 190 = .ok (.invokevirtual 18, 3) := by decide +kernel
theorem dL_law_193 : decode cL_law 193 = .ok (.aload_n 2, 1) := by decide +kernel
theorem dL_law_194 : decode cL_law 194 = .ok (.aload_n 0, 1) := by decide +kernel
theorem dL_law_195 : decode cL_law 195 = .ok (.iload_n 3, 1) := by decide +kernel
theorem dL_law_196 : decode cL_law 196 = .ok (.iconst 1, 1) := by decide +kernel
theorem dL_law_197 : decode cL_law 197 = .ok (.iadd, 1) := by decide +kernel
theorem dL_law_198 : decode cL_law 198 = .ok (.iaload, 1) := by decide +kernel
theorem dL_law_199 : decode cL_law 199 = .ok (.aload_n 0, 1) := by decide +kernel
theorem dL_law_200 : decode cL_law 200 = .ok (.iload_n 3, 1) := by decide +kernel
theorem dL_law_201 : decode cL_law 201 = .ok (.iconst 2, 1) := by decide +kernel
theorem dL_law_202 : decode cL_law 202 = .ok (.iadd, 1) := by decide +kernel
theorem dL_law_203 : decode cL_law 203 = .ok (.iaload, 1) := by decide +kernel
theorem dL_law_204 : decode cL_law 204 = .ok (.aload_n 0, 1) := by decide +kernel
theorem dL_law_205 : decode cL_law 205 = .ok (.iload_n 3, 1) := by decide +kernel
theorem dL_law_206 : decode cL_law 206 = .ok (.iconst 3, 1) := by decide +kernel
theorem dL_law_207 : decode cL_law 207 = .ok (.iadd, 1) := by decide +kernel
theorem dL_law_208 : decode cL_law 208 = .ok (.iaload, 1) := by decide +kernel
theorem dL_law_209 : decode cL_law 209 = .ok (.aload_n 0, 1) := by decide +kernel
theorem dL_law_210 : decode cL_law 210 = .ok (.iload_n 3, 1) := by decide +kernel
theorem dL_law_211 : decode cL_law 211 = .ok (.iconst 4, 1) := by decide +kernel
theorem dL_law_212 : decode cL_law 212 = .ok (.iadd, 1) := by decide +kernel
theorem dL_law_213 : decode cL_law 213 = .ok (.iaload, 1) := by decide +kernel
theorem dL_law_214 : decode cL_law 214 = .ok (.invokevirtual 22, 3) := by decide +kernel
theorem dL_law_217 : decode cL_law 217 = .ok (.if_icmp .eq 695, 3) := by decide +kernel
theorem dL_law_220 : decode cL_law 220 = .ok (.iconst 0, 1) := by decide +kernel
theorem dL_law_221 : decode cL_law 221 = .ok (.ireturn, 1) := by decide +kernel
theorem dL_law_222 : decode cL_law 222 = .ok (.aload_n 1, 1) := by decide +kernel
theorem dL_law_223 : decode cL_law 223 = .ok (.aload_n 0, 1) := by decide +kernel
theorem dL_law_224 : decode cL_law 224 = .ok (.iload_n 3, 1) := by decide +kernel
theorem dL_law_225 : decode cL_law 225 = .ok (.iconst 1, 1) := by decide +kernel
theorem dL_law_226 : decode cL_law 226 = .ok (.iadd, 1) := by decide +kernel
theorem dL_law_227 : decode cL_law 227 = .ok (.iaload, 1) := by decide +kernel
theorem dL_law_228 : decode cL_law 228 = .ok (.aload_n 0, 1) := by decide +kernel
theorem dL_law_229 : decode cL_law 229 = .ok (.iload_n 3, 1) := by decide +kernel
theorem dL_law_230 : decode cL_law 230 = .ok (.iconst 2, 1) := by decide +kernel
theorem dL_law_231 : decode cL_law 231 = .ok (.iadd, 1) := by decide +kernel
theorem dL_law_232 : decode cL_law 232 = .ok (.iaload, 1) := by decide +kernel
theorem dL_law_233 : decode cL_law 233 = .ok (.aload_n 0, 1) := by decide +kernel
theorem dL_law_234 : decode cL_law 234 = .ok (.iload_n 3, 1) := by decide +kernel
theorem dL_law_235 : decode cL_law 235 = .ok (.iconst 3, 1) := by decide +kernel
theorem dL_law_236 : decode cL_law 236 = .ok (.iadd, 1) := by decide +kernel
theorem dL_law_237 : decode cL_law 237 = .ok (.iaload, 1) := by decide +kernel
theorem dL_law_238 : decode cL_law 238 = .ok (.aload_n 0, 1) := by decide +kernel
theorem dL_law_239 : decode cL_law 239 = .ok (.iload_n 3, 1) := by decide +kernel
theorem dL_law_240 : decode cL_law 240 = .ok (.iconst 4, 1) := by decide +kernel
theorem dL_law_241 : decode cL_law 241 = .ok (.iadd, 1) := by decide +kernel
theorem dL_law_242 : decode cL_law 242 = .ok (.iaload, 1) := by decide +kernel
theorem dL_law_243 : decode cL_law 243 = .ok (.aload_n 0, 1) := by decide +kernel
theorem dL_law_244 : decode cL_law 244 = .ok (.iload_n 3, 1) := by decide +kernel
theorem dL_law_245 : decode cL_law 245 = .ok (.iconst 5, 1) := by decide +kernel
theorem dL_law_246 : decode cL_law 246 = .ok (.iadd, 1) := by decide +kernel
theorem dL_law_247 : decode cL_law 247 = .ok (.iaload, 1) := by decide +kernel
theorem dL_law_248 : decode cL_law 248 = .ok (.invokevirtual 23, 3) := by decide +kernel
theorem dL_law_251 : decode cL_law 251 = .ok (.aload_n 2, 1) := by decide +kernel
theorem dL_law_252 : decode cL_law 252 = .ok (.aload_n 0, 1) := by decide +kernel
theorem dL_law_253 : decode cL_law 253 = .ok (.iload_n 3, 1) := by decide +kernel
theorem dL_law_254 : decode cL_law 254 = .ok (.iconst 1, 1) := by decide +kernel
theorem dL_law_255 : decode cL_law 255 = .ok (.iadd, 1) := by decide +kernel
theorem dL_law_256 : decode cL_law 256 = .ok (.iaload, 1) := by decide +kernel
theorem dL_law_257 : decode cL_law 257 = .ok (.aload_n 0, 1) := by decide +kernel
theorem dL_law_258 : decode cL_law 258 = .ok (.iload_n 3, 1) := by decide +kernel
theorem dL_law_259 : decode cL_law 259 = .ok (.iconst 2, 1) := by decide +kernel
theorem dL_law_260 : decode cL_law 260 = .ok (.iadd, 1) := by decide +kernel
theorem dL_law_261 : decode cL_law 261 = .ok (.iaload, 1) := by decide +kernel
theorem dL_law_262 : decode cL_law 262 = .ok (.aload_n 0, 1) := by decide +kernel
theorem dL_law_263 : decode cL_law 263 = .ok (.iload_n 3, 1) := by decide +kernel
theorem dL_law_264 : decode cL_law 264 = .ok (.iconst 3, 1) := by decide +kernel
theorem dL_law_265 : decode cL_law 265 = .ok (.iadd, 1) := by decide +kernel
theorem dL_law_266 : decode cL_law 266 = .ok (.iaload, 1) := by decide +kernel
theorem dL_law_267 : decode cL_law 267 = .ok (.aload_n 0, 1) := by decide +kernel
theorem dL_law_268 : decode cL_law 268 = .ok (.iload_n 3, 1) := by decide +kernel
theorem dL_law_269 : decode cL_law 269 = .ok (.iconst 4, 1) := by decide +kernel
theorem dL_law_270 : decode cL_law 270 = .ok (.iadd, 1) := by decide +kernel
theorem dL_law_271 : decode cL_law 271 = .ok (.iaload, 1) := by decide +kernel
theorem dL_law_272 : decode cL_law 272 = .ok (.aload_n 0, 1) := by decide +kernel
theorem dL_law_273 : decode cL_law 273 = .ok (.iload_n 3, 1) := by decide +kernel
theorem dL_law_274 : decode cL_law 274 = .ok (.iconst 5, 1) := by decide +kernel
theorem dL_law_275 : decode cL_law 275 = .ok (.iadd, 1) := by decide +kernel
theorem dL_law_276 : decode cL_law 276 = .ok (.iaload, 1) := by decide +kernel
theorem dL_law_277 : decode cL_law 277 = .ok (.invokevirtual 27, 3) := by decide +kernel
theorem dL_law_280 : decode cL_law 280 = .ok (.if_icmp .eq 632, 3) := by decide +kernel
theorem dL_law_283 : decode cL_law 283 = .ok (.iconst 0, 1) := by decide +kernel
theorem dL_law_284 : decode cL_law 284 = .ok (.ireturn, 1) := by decide +kernel
theorem dL_law_285 : decode cL_law 285 = .ok (.aload_n 1, 1) := by decide +kernel
theorem dL_law_286 : decode cL_law 286 = .ok (.aload_n 0, 1) := by decide +kernel
theorem dL_law_287 : decode cL_law 287 = .ok (.iload_n 3, 1) := by decide +kernel
theorem dL_law_288 : decode cL_law 288 = .ok (.iconst 1, 1) := by decide +kernel
theorem dL_law_289 : decode cL_law 289 = .ok (.iadd, 1) := by decide +kernel
theorem dL_law_290 : decode cL_law 290 = .ok (.iaload, 1) := by decide +kernel
theorem dL_law_291 : decode cL_law 291 = .ok (.aload_n 0, 1) := by decide +kernel
theorem dL_law_292 : decode cL_law 292 = .ok (.iload_n 3, 1) := by decide +kernel
theorem dL_law_293 : decode cL_law 293 = .ok (.iconst 2, 1) := by decide +kernel
theorem dL_law_294 : decode cL_law 294 = .ok (.iadd, 1) := by decide +kernel
theorem dL_law_295 : decode cL_law 295 = .ok (.iaload, 1) := by decide +kernel
theorem dL_law_296 : decode cL_law 296 = .ok (.aload_n 0, 1) := by decide +kernel
theorem dL_law_297 : decode cL_law 297 = .ok (.iload_n 3, 1) := by decide +kernel
theorem dL_law_298 : decode cL_law 298 = .ok (.iconst 3, 1) := by decide +kernel
theorem dL_law_299 : decode cL_law 299 = .ok (.iadd, 1) := by decide +kernel
theorem dL_law_300 : decode cL_law 300 = .ok (.iaload, 1) := by decide +kernel
theorem dL_law_301 : decode cL_law 301 = .ok (.aload_n 0, 1) := by decide +kernel
theorem dL_law_302 : decode cL_law 302 = .ok (.iload_n 3, 1) := by decide +kernel
theorem dL_law_303 : decode cL_law 303 = .ok (.iconst 4, 1) := by decide +kernel
theorem dL_law_304 : decode cL_law 304 = .ok (.iadd, 1) := by decide +kernel
theorem dL_law_305 : decode cL_law 305 = .ok (.iaload, 1) := by decide +kernel
theorem dL_law_306 : decode cL_law 306 = .ok (.aload_n 0, 1) := by decide +kernel
theorem dL_law_307 : decode cL_law 307 = .ok (.iload_n 3, 1) := by decide +kernel
theorem dL_law_308 : decode cL_law 308 = .ok (.iconst 5, 1) := by decide +kernel
theorem dL_law_309 : decode cL_law 309 = .ok (.iadd, 1) := by decide +kernel
theorem dL_law_310 : decode cL_law 310 = .ok (.iaload, 1) := by decide +kernel
theorem dL_law_311 : decode cL_law 311 = .ok (.invokevirtual 28, 3) := by decide +kernel
theorem dL_law_314 : decode cL_law 314 = .ok (.aload_n 2, 1) := by decide +kernel
theorem dL_law_315 : decode cL_law 315 = .ok (.aload_n 0, 1) := by decide +kernel
theorem dL_law_316 : decode cL_law 316 = .ok (.iload_n 3, 1) := by decide +kernel
theorem dL_law_317 : decode cL_law 317 = .ok (.iconst 1, 1) := by decide +kernel
theorem dL_law_318 : decode cL_law 318 = .ok (.iadd, 1) := by decide +kernel
theorem dL_law_319 : decode cL_law 319 = .ok (.iaload, 1) := by decide +kernel
theorem dL_law_320 : decode cL_law 320 = .ok (.aload_n 0, 1) := by decide +kernel
theorem dL_law_321 : decode cL_law 321 = .ok (.iload_n 3, 1) := by decide +kernel
theorem dL_law_322 : decode cL_law 322 = .ok (.iconst 2, 1) := by decide +kernel
theorem dL_law_323 : decode cL_law 323 = .ok (.iadd, 1) := by decide +kernel
theorem dL_law_324 : decode cL_law 324 = .ok (.iaload, 1) := by decide +kernel
theorem dL_law_325 : decode cL_law 325 = .ok (.aload_n 0, 1) := by decide +kernel
theorem dL_law_326 : decode cL_law 326 = .ok (.iload_n 3, 1) := by decide +kernel
theorem dL_law_327 : decode cL_law 327 = .ok (.iconst 3, 1) := by decide +kernel
theorem dL_law_328 : decode cL_law 328 = .ok (.iadd, 1) := by decide +kernel
theorem dL_law_329 : decode cL_law 329 = .ok (.iaload, 1) := by decide +kernel
theorem dL_law_330 : decode cL_law 330 = .ok (.aload_n 0, 1) := by decide +kernel
theorem dL_law_331 : decode cL_law 331 = .ok (.iload_n 3, 1) := by decide +kernel
theorem dL_law_332 : decode cL_law 332 = .ok (.iconst 4, 1) := by decide +kernel
theorem dL_law_333 : decode cL_law 333 = .ok (.iadd, 1) := by decide +kernel
theorem dL_law_334 : decode cL_law 334 = .ok (.iaload, 1) := by decide +kernel
theorem dL_law_335 : decode cL_law 335 = .ok (.aload_n 0, 1) := by decide +kernel
theorem dL_law_336 : decode cL_law 336 = .ok (.iload_n 3, 1) := by decide +kernel
theorem dL_law_337 : decode cL_law 337 = .ok (.iconst 5, 1) := by decide +kernel
theorem dL_law_338 : decode cL_law 338 = .ok (.iadd, 1) := by decide +kernel
theorem dL_law_339 : decode cL_law 339 = .ok (.iaload, 1) := by decide +kernel
theorem dL_law_340 : decode cL_law 340 = .ok (.invokevirtual 32, 3) := by decide +kernel
theorem dL_law_343 : decode cL_law 343 = .ok (.if_icmp .eq 569, 3) := by decide +kernel
theorem dL_law_346 : decode cL_law 346 = .ok (.iconst 0, 1) := by decide +kernel
theorem dL_law_347 : decode cL_law 347 = .ok (.ireturn, 1) := by decide +kernel
theorem dL_law_348 : decode cL_law 348 = .ok (.aload_n 1, 1) := by decide +kernel
theorem dL_law_349 : decode cL_law 349 = .ok (.aload_n 0, 1) := by decide +kernel
theorem dL_law_350 : decode cL_law 350 = .ok (.iload_n 3, 1) := by decide +kernel
theorem dL_law_351 : decode cL_law 351 = .ok (.iconst 1, 1) := by decide +kernel
theorem dL_law_352 : decode cL_law 352 = .ok (.iadd, 1) := by decide +kernel
theorem dL_law_353 : decode cL_law 353 = .ok (.iaload, 1) := by decide +kernel
theorem dL_law_354 : decode cL_law 354 = .ok (.aload_n 0, 1) := by decide +kernel
theorem dL_law_355 : decode cL_law 355 = .ok (.iload_n 3, 1) := by decide +kernel
theorem dL_law_356 : decode cL_law 356 = .ok (.iconst 2, 1) := by decide +kernel
theorem dL_law_357 : decode cL_law 357 = .ok (.iadd, 1) := by decide +kernel
theorem dL_law_358 : decode cL_law 358 = .ok (.iaload, 1) := by decide +kernel
theorem dL_law_359 : decode cL_law 359 = .ok (.invokevirtual 33, 3) := by decide +kernel
theorem dL_law_362 : decode cL_law 362 = .ok (.aload_n 2, 1) := by decide +kernel
theorem dL_law_363 : decode cL_law 363 = .ok (.aload_n 0, 1) := by decide +kernel
theorem dL_law_364 : decode cL_law 364 = .ok (.iload_n 3, 1) := by decide +kernel
theorem dL_law_365 : decode cL_law 365 = .ok (.iconst 1, 1) := by decide +kernel
theorem dL_law_366 : decode cL_law 366 = .ok (.iadd, 1) := by decide +kernel
theorem dL_law_367 : decode cL_law 367 = .ok (.iaload, 1) := by decide +kernel
theorem dL_law_368 : decode cL_law 368 = .ok (.aload_n 0, 1) := by decide +kernel
theorem dL_law_369 : decode cL_law 369 = .ok (.iload_n 3, 1) := by decide +kernel
theorem dL_law_370 : decode cL_law 370 = .ok (.iconst 2, 1) := by decide +kernel
theorem dL_law_371 : decode cL_law 371 = .ok (.iadd, 1) := by decide +kernel
theorem dL_law_372 : decode cL_law 372 = .ok (.iaload, 1) := by decide +kernel
theorem dL_law_373 : decode cL_law 373 = .ok (.invokevirtual 37, 3) := by decide +kernel
theorem dL_law_376 : decode cL_law 376 = .ok (.if_icmp .eq 536, 3) := by decide +kernel
theorem dL_law_379 : decode cL_law 379 = .ok (.iconst 0, 1) := by decide +kernel
theorem dL_law_380 : decode cL_law 380 = .ok (.ireturn, 1) := by decide +kernel
theorem dL_law_381 : decode cL_law 381 = .ok (.aload_n 1, 1) := by decide +kernel
theorem dL_law_382 : decode cL_law 382 = .ok (.invokevirtual 38, 3) := by decide +kernel
theorem dL_law_385 : decode cL_law 385 = .ok (.aload_n 2, 1) := by decide +kernel
theorem dL_law_386 : decode cL_law 386 = .ok (.invokevirtual 42, 3) := by decide +kernel
theorem dL_law_389 : decode cL_law 389 = .ok (.if_icmp .eq 523, 3) := by decide +kernel
theorem dL_law_392 : decode cL_law 392 = .ok (.iconst 0, 1) := by decide +kernel
theorem dL_law_393 : decode cL_law 393 = .ok (.ireturn, 1) := by decide +kernel
theorem dL_law_394 : decode cL_law 394 = .ok (.aload_n 1, 1) := by decide +kernel
theorem dL_law_395 : decode cL_law 395 = .ok (.aload_n 0, 1) := by decide +kernel
theorem dL_law_396 : decode cL_law 396 = .ok (.iload_n 3, 1) := by decide +kernel
theorem dL_law_397 : decode cL_law 397 = .ok (.iconst 1, 1) := by decide +kernel
theorem dL_law_398 : decode cL_law 398 = .ok (.iadd, 1) := by decide +kernel
theorem dL_law_399 : decode cL_law 399 = .ok (.iaload, 1) := by decide +kernel
theorem dL_law_400 : decode cL_law 400 = .ok (.invokevirtual 43, 3) := by decide +kernel
theorem dL_law_403 : decode cL_law 403 = .ok (.aload_n 2, 1) := by decide +kernel
theorem dL_law_404 : decode cL_law 404 = .ok (.aload_n 0, 1) := by decide +kernel
theorem dL_law_405 : decode cL_law 405 = .ok (.iload_n 3, 1) := by decide +kernel
theorem dL_law_406 : decode cL_law 406 = .ok (.iconst 1, 1) := by decide +kernel
theorem dL_law_407 : decode cL_law 407 = .ok (.iadd, 1) := by decide +kernel
theorem dL_law_408 : decode cL_law 408 = .ok (.iaload, 1) := by decide +kernel
theorem dL_law_409 : decode cL_law 409 = .ok (.invokevirtual 47, 3) := by decide +kernel
theorem dL_law_412 : decode cL_law 412 = .ok (.if_icmp .eq 500, 3) := by decide +kernel
theorem dL_law_415 : decode cL_law 415 = .ok (.iconst 0, 1) := by decide +kernel
theorem dL_law_416 : decode cL_law 416 = .ok (.ireturn, 1) := by decide +kernel
theorem dL_law_417 : decode cL_law 417 = .ok (.aload_n 1, 1) := by decide +kernel
theorem dL_law_418 : decode cL_law 418 = .ok (.aload_n 0, 1) := by decide +kernel
theorem dL_law_419 : decode cL_law 419 = .ok (.iload_n 3, 1) := by decide +kernel
theorem dL_law_420 : decode cL_law 420 = .ok (.iconst 1, 1) := by decide +kernel
theorem dL_law_421 : decode cL_law 421 = .ok (.iadd, 1) := by decide +kernel
theorem dL_law_422 : decode cL_law 422 = .ok (.iaload, 1) := by decide +kernel
theorem dL_law_423 : decode cL_law 423 = .ok (.aload_n 0, 1) := by decide +kernel
theorem dL_law_424 : decode cL_law 424 = .ok (.iload_n 3, 1) := by decide +kernel
theorem dL_law_425 : decode cL_law 425 = .ok (.iconst 2, 1) := by decide +kernel
theorem dL_law_426 : decode cL_law 426 = .ok (.iadd, 1) := by decide +kernel
theorem dL_law_427 : decode cL_law 427 = .ok (.iaload, 1) := by decide +kernel
theorem dL_law_428 : decode cL_law 428 = .ok (.invokevirtual 48, 3) := by decide +kernel
theorem dL_law_431 : decode cL_law 431 = .ok (.aload_n 2, 1) := by decide +kernel
theorem dL_law_432 : decode cL_law 432 = .ok (.aload_n 0, 1) := by decide +kernel
theorem dL_law_433 : decode cL_law 433 = .ok (.iload_n 3, 1) := by decide +kernel
theorem dL_law_434 : decode cL_law 434 = .ok (.iconst 1, 1) := by decide +kernel
theorem dL_law_435 : decode cL_law 435 = .ok (.iadd, 1) := by decide +kernel
theorem dL_law_436 : decode cL_law 436 = .ok (.iaload, 1) := by decide +kernel
theorem dL_law_437 : decode cL_law 437 = .ok (.aload_n 0, 1) := by decide +kernel
theorem dL_law_438 : decode cL_law 438 = .ok (.iload_n 3, 1) := by decide +kernel
theorem dL_law_439 : decode cL_law 439 = .ok (.iconst 2, 1) := by decide +kernel
theorem dL_law_440 : decode cL_law 440 = .ok (.iadd, 1) := by decide +kernel
theorem dL_law_441 : decode cL_law 441 = .ok (.iaload, 1) := by decide +kernel
theorem dL_law_442 : decode cL_law 442 = .ok (.invokevirtual 51, 3) := by decide +kernel
theorem dL_law_445 : decode cL_law 445 = .ok (.if_icmp .eq 467, 3) := by decide +kernel
theorem dL_law_448 : decode cL_law 448 = .ok (.iconst 0, 1) := by decide +kernel
theorem dL_law_449 : decode cL_law 449 = .ok (.ireturn, 1) := by decide +kernel
theorem dL_law_450 : decode cL_law 450 = .ok (.aload_n 1, 1) := by decide +kernel
theorem dL_law_451 : decode cL_law 451 = .ok (.aload_n 0, 1) := by decide +kernel
theorem dL_law_452 : decode cL_law 452 = .ok (.iload_n 3, 1) := by decide +kernel
theorem dL_law_453 : decode cL_law 453 = .ok (.iconst 1, 1) := by decide +kernel
theorem dL_law_454 : decode cL_law 454 = .ok (.iadd, 1) := by decide +kernel
theorem dL_law_455 : decode cL_law 455 = .ok (.iaload, 1) := by decide +kernel
theorem dL_law_456 : decode cL_law 456 = .ok (.aload_n 0, 1) := by decide +kernel
theorem dL_law_457 : decode cL_law 457 = .ok (.iload_n 3, 1) := by decide +kernel
theorem dL_law_458 : decode cL_law 458 = .ok (.iconst 2, 1) := by decide +kernel
theorem dL_law_459 : decode cL_law 459 = .ok (.iadd, 1) := by decide +kernel
theorem dL_law_460 : decode cL_law 460 = .ok (.iaload, 1) := by decide +kernel
theorem dL_law_461 : decode cL_law 461 = .ok (.invokevirtual 52, 3) := by decide +kernel
theorem dL_law_464 : decode cL_law 464 = .ok (.aload_n 2, 1) := by decide +kernel
theorem dL_law_465 : decode cL_law 465 = .ok (.aload_n 0, 1) := by decide +kernel
theorem dL_law_466 : decode cL_law 466 = .ok (.iload_n 3, 1) := by decide +kernel
theorem dL_law_467 : decode cL_law 467 = .ok (.iconst 1, 1) := by decide +kernel
theorem dL_law_468 : decode cL_law 468 = .ok (.iadd, 1) := by decide +kernel
theorem dL_law_469 : decode cL_law 469 = .ok (.iaload, 1) := by decide +kernel
theorem dL_law_470 : decode cL_law 470 = .ok (.aload_n 0, 1) := by decide +kernel
theorem dL_law_471 : decode cL_law 471 = .ok (.iload_n 3, 1) := by decide +kernel
theorem dL_law_472 : decode cL_law 472 = .ok (.iconst 2, 1) := by decide +kernel
theorem dL_law_473 : decode cL_law 473 = .ok (.iadd, 1) := by decide +kernel
theorem dL_law_474 : decode cL_law 474 = .ok (.iaload, 1) := by decide +kernel
theorem dL_law_475 : decode cL_law 475 = .ok (.invokevirtual 55, 3) := by decide +kernel
theorem dL_law_478 : decode cL_law 478 = .ok (.if_icmp .eq 434, 3) := by decide +kernel
theorem dL_law_481 : decode cL_law 481 = .ok (.iconst 0, 1) := by decide +kernel
theorem dL_law_482 : decode cL_law 482 = .ok (.ireturn, 1) := by decide +kernel
theorem dL_law_483 : decode cL_law 483 = .ok (.aload_n 1, 1) := by decide +kernel
theorem dL_law_484 : decode cL_law 484 = .ok (.aload_n 0, 1) := by decide +kernel
theorem dL_law_485 : decode cL_law 485 = .ok (.iload_n 3, 1) := by decide +kernel
theorem dL_law_486 : decode cL_law 486 = .ok (.iconst 1, 1) := by decide +kernel
theorem dL_law_487 : decode cL_law 487 = .ok (.iadd, 1) := by decide +kernel
theorem dL_law_488 : decode cL_law 488 = .ok (.iaload, 1) := by decide +kernel
theorem dL_law_489 : decode cL_law 489 = .ok (.aload_n 0, 1) := by decide +kernel
theorem dL_law_490 : decode cL_law 490 = .ok (.iload_n 3, 1) := by decide +kernel
theorem dL_law_491 : decode cL_law 491 = .ok (.iconst 2, 1) := by decide +kernel
theorem dL_law_492 : decode cL_law 492 = .ok (.iadd, 1) := by decide +kernel
theorem dL_law_493 : decode cL_law 493 = .ok (.iaload, 1) := by decide +kernel
theorem dL_law_494 : decode cL_law 494 = .ok (.invokevirtual 56, 3) := by decide +kernel
theorem dL_law_497 : decode cL_law 497 = .ok (.aload_n 2, 1) := by decide +kernel
theorem dL_law_498 : decode cL_law 498 = .ok (.aload_n 0, 1) := by decide +kernel
theorem dL_law_499 : decode cL_law 499 = .ok (.iload_n 3, 1) := by decide +kernel
theorem dL_law_500 : decode cL_law 500 = .ok (.iconst 1, 1) := by decide +kernel
theorem dL_law_501 : decode cL_law 501 = .ok (.iadd, 1) := by decide +kernel
theorem dL_law_502 : decode cL_law 502 = .ok (.iaload, 1) := by decide +kernel
theorem dL_law_503 : decode cL_law 503 = .ok (.aload_n 0, 1) := by decide +kernel
theorem dL_law_504 : decode cL_law 504 = .ok (.iload_n 3, 1) := by decide +kernel
theorem dL_law_505 : decode cL_law 505 = .ok (.iconst 2, 1) := by decide +kernel
theorem dL_law_506 : decode cL_law 506 = .ok (.iadd, 1) := by decide +kernel
theorem dL_law_507 : decode cL_law 507 = .ok (.iaload, 1) := by decide +kernel
theorem dL_law_508 : decode cL_law 508 = .ok (.invokevirtual 59, 3) := by decide +kernel
theorem dL_law_511 : decode cL_law 511 = .ok (.if_icmp .eq 401, 3) := by decide +kernel
theorem dL_law_514 : decode cL_law 514 = .ok (.iconst 0, 1) := by decide +kernel
theorem dL_law_515 : decode cL_law 515 = .ok (.ireturn, 1) := by decide +kernel
theorem dL_law_516 : decode cL_law 516 = .ok (.aload_n 1, 1) := by decide +kernel
theorem dL_law_517 : decode cL_law 517 = .ok (.aload_n 0, 1) := by decide +kernel
theorem dL_law_518 : decode cL_law 518 = .ok (.iload_n 3, 1) := by decide +kernel
theorem dL_law_519 : decode cL_law 519 = .ok (.iconst 1, 1) := by decide +kernel
theorem dL_law_520 : decode cL_law 520 = .ok (.iadd, 1) := by decide +kernel
theorem dL_law_521 : decode cL_law 521 = .ok (.iaload, 1) := by decide +kernel
theorem dL_law_522 : decode cL_law 522 = .ok (.aload_n 0, 1) := by decide +kernel
theorem dL_law_523 : decode cL_law 523 = .ok (.iload_n 3, 1) := by decide +kernel
theorem dL_law_524 : decode cL_law 524 = .ok (.iconst 2, 1) := by decide +kernel
theorem dL_law_525 : decode cL_law 525 = .ok (.iadd, 1) := by decide +kernel
theorem dL_law_526 : decode cL_law 526 = .ok (.iaload, 1) := by decide +kernel
theorem dL_law_527 : decode cL_law 527 = .ok (.aload_n 0, 1) := by decide +kernel
theorem dL_law_528 : decode cL_law 528 = .ok (.iload_n 3, 1) := by decide +kernel
theorem dL_law_529 : decode cL_law 529 = .ok (.iconst 3, 1) := by decide +kernel
theorem dL_law_530 : decode cL_law 530 = .ok (.iadd, 1) := by decide +kernel
theorem dL_law_531 : decode cL_law 531 = .ok (.iaload, 1) := by decide +kernel
theorem dL_law_532 : decode cL_law 532 = .ok (.aload_n 0, 1) := by decide +kernel
theorem dL_law_533 : decode cL_law 533 = .ok (.iload_n 3, 1) := by decide +kernel
theorem dL_law_534 : decode cL_law 534 = .ok (.iconst 4, 1) := by decide +kernel
theorem dL_law_535 : decode cL_law 535 = .ok (.iadd, 1) := by decide +kernel
theorem dL_law_536 : decode cL_law 536 = .ok (.iaload, 1) := by decide +kernel
theorem dL_law_537 : decode cL_law 537 = .ok (.invokevirtual 60, 3) := by decide +kernel
theorem dL_law_540 : decode cL_law 540 = .ok (.aload_n 2, 1) := by decide +kernel
theorem dL_law_541 : decode cL_law 541 = .ok (.aload_n 0, 1) := by decide +kernel
theorem dL_law_542 : decode cL_law 542 = .ok (.iload_n 3, 1) := by decide +kernel
theorem dL_law_543 : decode cL_law 543 = .ok (.iconst 1, 1) := by decide +kernel
theorem dL_law_544 : decode cL_law 544 = .ok (.iadd, 1) := by decide +kernel
theorem dL_law_545 : decode cL_law 545 = .ok (.iaload, 1) := by decide +kernel
theorem dL_law_546 : decode cL_law 546 = .ok (.aload_n 0, 1) := by decide +kernel
theorem dL_law_547 : decode cL_law 547 = .ok (.iload_n 3, 1) := by decide +kernel
theorem dL_law_548 : decode cL_law 548 = .ok (.iconst 2, 1) := by decide +kernel
theorem dL_law_549 : decode cL_law 549 = .ok (.iadd, 1) := by decide +kernel
theorem dL_law_550 : decode cL_law 550 = .ok (.iaload, 1) := by decide +kernel
theorem dL_law_551 : decode cL_law 551 = .ok (.aload_n 0, 1) := by decide +kernel
theorem dL_law_552 : decode cL_law 552 = .ok (.iload_n 3, 1) := by decide +kernel
theorem dL_law_553 : decode cL_law 553 = .ok (.iconst 3, 1) := by decide +kernel
theorem dL_law_554 : decode cL_law 554 = .ok (.iadd, 1) := by decide +kernel
theorem dL_law_555 : decode cL_law 555 = .ok (.iaload, 1) := by decide +kernel
theorem dL_law_556 : decode cL_law 556 = .ok (.aload_n 0, 1) := by decide +kernel
theorem dL_law_557 : decode cL_law 557 = .ok (.iload_n 3, 1) := by decide +kernel
theorem dL_law_558 : decode cL_law 558 = .ok (.iconst 4, 1) := by decide +kernel
theorem dL_law_559 : decode cL_law 559 = .ok (.iadd, 1) := by decide +kernel
theorem dL_law_560 : decode cL_law 560 = .ok (.iaload, 1) := by decide +kernel
theorem dL_law_561 : decode cL_law 561 = .ok (.invokevirtual 63, 3) := by decide +kernel
theorem dL_law_564 : decode cL_law 564 = .ok (.if_icmp .eq 348, 3) := by decide +kernel
theorem dL_law_567 : decode cL_law 567 = .ok (.iconst 0, 1) := by decide +kernel
theorem dL_law_568 : decode cL_law 568 = .ok (.ireturn, 1) := by decide +kernel
theorem dL_law_569 : decode cL_law 569 = .ok (.aload_n 1, 1) := by decide +kernel
theorem dL_law_570 : decode cL_law 570 = .ok (.aload_n 0, 1) := by decide +kernel
theorem dL_law_571 : decode cL_law 571 = .ok (.iload_n 3, 1) := by decide +kernel
theorem dL_law_572 : decode cL_law 572 = .ok (.iconst 1, 1) := by decide +kernel
theorem dL_law_573 : decode cL_law 573 = .ok (.iadd, 1) := by decide +kernel
theorem dL_law_574 : decode cL_law 574 = .ok (.iaload, 1) := by decide +kernel
theorem dL_law_575 : decode cL_law 575 = .ok (.aload_n 0, 1) := by decide +kernel
theorem dL_law_576 : decode cL_law 576 = .ok (.iload_n 3, 1) := by decide +kernel
theorem dL_law_577 : decode cL_law 577 = .ok (.iconst 2, 1) := by decide +kernel
theorem dL_law_578 : decode cL_law 578 = .ok (.iadd, 1) := by decide +kernel
theorem dL_law_579 : decode cL_law 579 = .ok (.iaload, 1) := by decide +kernel
theorem dL_law_580 : decode cL_law 580 = .ok (.aload_n 0, 1) := by decide +kernel
theorem dL_law_581 : decode cL_law 581 = .ok (.iload_n 3, 1) := by decide +kernel
theorem dL_law_582 : decode cL_law 582 = .ok (.iconst 3, 1) := by decide +kernel
theorem dL_law_583 : decode cL_law 583 = .ok (.iadd, 1) := by decide +kernel
theorem dL_law_584 : decode cL_law 584 = .ok (.iaload, 1) := by decide +kernel
theorem dL_law_585 : decode cL_law 585 = .ok (.invokevirtual 64, 3) := by decide +kernel
theorem dL_law_588 : decode cL_law 588 = .ok (.aload_n 2, 1) := by decide +kernel
theorem dL_law_589 : decode cL_law 589 = .ok (.aload_n 0, 1) := by decide +kernel
theorem dL_law_590 : decode cL_law 590 = .ok (.iload_n 3, 1) := by decide +kernel
theorem dL_law_591 : decode cL_law 591 = .ok (.iconst 1, 1) := by decide +kernel
theorem dL_law_592 : decode cL_law 592 = .ok (.iadd, 1) := by decide +kernel
theorem dL_law_593 : decode cL_law 593 = .ok (.iaload, 1) := by decide +kernel
theorem dL_law_594 : decode cL_law 594 = .ok (.aload_n 0, 1) := by decide +kernel
theorem dL_law_595 : decode cL_law 595 = .ok (.iload_n 3, 1) := by decide +kernel
theorem dL_law_596 : decode cL_law 596 = .ok (.iconst 2, 1) := by decide +kernel
theorem dL_law_597 : decode cL_law 597 = .ok (.iadd, 1) := by decide +kernel
theorem dL_law_598 : decode cL_law 598 = .ok (.iaload, 1) := by decide +kernel
theorem dL_law_599 : decode cL_law 599 = .ok (.aload_n 0, 1) := by decide +kernel
theorem dL_law_600 : decode cL_law 600 = .ok (.iload_n 3, 1) := by decide +kernel
theorem dL_law_601 : decode cL_law 601 = .ok (.iconst 3, 1) := by decide +kernel
theorem dL_law_602 : decode cL_law 602 = .ok (.iadd, 1) := by decide +kernel
theorem dL_law_603 : decode cL_law 603 = .ok (.iaload, 1) := by decide +kernel
theorem dL_law_604 : decode cL_law 604 = .ok (.invokevirtual 68, 3) := by decide +kernel
theorem dL_law_607 : decode cL_law 607 = .ok (.if_icmp .eq 305, 3) := by decide +kernel
theorem dL_law_610 : decode cL_law 610 = .ok (.iconst 0, 1) := by decide +kernel
theorem dL_law_611 : decode cL_law 611 = .ok (.ireturn, 1) := by decide +kernel
theorem dL_law_612 : decode cL_law 612 = .ok (.aload_n 1, 1) := by decide +kernel
theorem dL_law_613 : decode cL_law 613 = .ok (.aload_n 0, 1) := by decide +kernel
theorem dL_law_614 : decode cL_law 614 = .ok (.iload_n 3, 1) := by decide +kernel
theorem dL_law_615 : decode cL_law 615 = .ok (.iconst 1, 1) := by decide +kernel
theorem dL_law_616 : decode cL_law 616 = .ok (.iadd, 1) := by decide +kernel
theorem dL_law_617 : decode cL_law 617 = .ok (.iaload, 1) := by decide +kernel
theorem dL_law_618 : decode cL_law 618 = .ok (.aload_n 0, 1) := by decide +kernel
theorem dL_law_619 : decode cL_law 619 = .ok (.iload_n 3, 1) := by decide +kernel
theorem dL_law_620 : decode cL_law 620 = .ok (.iconst 2, 1) := by decide +kernel
theorem dL_law_621 : decode cL_law 621 = .ok (.iadd, 1) := by decide +kernel
theorem dL_law_622 : decode cL_law 622 = .ok (.iaload, 1) := by decide +kernel
theorem dL_law_623 : decode cL_law 623 = .ok (.aload_n 0, 1) := by decide +kernel
theorem dL_law_624 : decode cL_law 624 = .ok (.iload_n 3, 1) := by decide +kernel
theorem dL_law_625 : decode cL_law 625 = .ok (.iconst 3, 1) := by decide +kernel
theorem dL_law_626 : decode cL_law 626 = .ok (.iadd, 1) := by decide +kernel
theorem dL_law_627 : decode cL_law 627 = .ok (.iaload, 1) := by decide +kernel
theorem dL_law_628 : decode cL_law 628 = .ok (.aload_n 0, 1) := by decide +kernel
theorem dL_law_629 : decode cL_law 629 = .ok (.iload_n 3, 1) := by decide +kernel
theorem dL_law_630 : decode cL_law 630 = .ok (.iconst 4, 1) := by decide +kernel
theorem dL_law_631 : decode cL_law 631 = .ok (.iadd, 1) := by decide +kernel
theorem dL_law_632 : decode cL_law 632 = .ok (.iaload, 1) := by decide +kernel
theorem dL_law_633 : decode cL_law 633 = .ok (.aload_n 0, 1) := by decide +kernel
theorem dL_law_634 : decode cL_law 634 = .ok (.iload_n 3, 1) := by decide +kernel
theorem dL_law_635 : decode cL_law 635 = .ok (.iconst 5, 1) := by decide +kernel
theorem dL_law_636 : decode cL_law 636 = .ok (.iadd, 1) := by decide +kernel
theorem dL_law_637 : decode cL_law 637 = .ok (.iaload, 1) := by decide +kernel
theorem dL_law_638 : decode cL_law 638 = .ok (.invokevirtual 69, 3) := by decide +kernel
theorem dL_law_641 : decode cL_law 641 = .ok (.aload_n 2, 1) := by decide +kernel
theorem dL_law_642 : decode cL_law 642 = .ok (.aload_n 0, 1) := by decide +kernel
theorem dL_law_643 : decode cL_law 643 = .ok (.iload_n 3, 1) := by decide +kernel
theorem dL_law_644 : decode cL_law 644 = .ok (.iconst 1, 1) := by decide +kernel
theorem dL_law_645 : decode cL_law 645 = .ok (.iadd, 1) := by decide +kernel
theorem dL_law_646 : decode cL_law 646 = .ok (.iaload, 1) := by decide +kernel
theorem dL_law_647 : decode cL_law 647 = .ok (.aload_n 0, 1) := by decide +kernel
theorem dL_law_648 : decode cL_law 648 = .ok (.iload_n 3, 1) := by decide +kernel
theorem dL_law_649 : decode cL_law 649 = .ok (.iconst 2, 1) := by decide +kernel
theorem dL_law_650 : decode cL_law 650 = .ok (.iadd, 1) := by decide +kernel
theorem dL_law_651 : decode cL_law 651 = .ok (.iaload, 1) := by decide +kernel
theorem dL_law_652 : decode cL_law 652 = .ok (.aload_n 0, 1) := by decide +kernel
theorem dL_law_653 : decode cL_law 653 = .ok (.iload_n 3, 1) := by decide +kernel
theorem dL_law_654 : decode cL_law 654 = .ok (.iconst 3, 1) := by decide +kernel
theorem dL_law_655 : decode cL_law 655 = .ok (.iadd, 1) := by decide +kernel
theorem dL_law_656 : decode cL_law 656 = .ok (.iaload, 1) := by decide +kernel
theorem dL_law_657 : decode cL_law 657 = .ok (.aload_n 0, 1) := by decide +kernel
theorem dL_law_658 : decode cL_law 658 = .ok (.iload_n 3, 1) := by decide +kernel
theorem dL_law_659 : decode cL_law 659 = .ok (.iconst 4, 1) := by decide +kernel
theorem dL_law_660 : decode cL_law 660 = .ok (.iadd, 1) := by decide +kernel
theorem dL_law_661 : decode cL_law 661 = .ok (.iaload, 1) := by decide +kernel
theorem dL_law_662 : decode cL_law 662 = .ok (.aload_n 0, 1) := by decide +kernel
theorem dL_law_663 : decode cL_law 663 = .ok (.iload_n 3, 1) := by decide +kernel
theorem dL_law_664 : decode cL_law 664 = .ok (.iconst 5, 1) := by decide +kernel
theorem dL_law_665 : decode cL_law 665 = .ok (.iadd, 1) := by decide +kernel
theorem dL_law_666 : decode cL_law 666 = .ok (.iaload, 1) := by decide +kernel
theorem dL_law_667 : decode cL_law 667 = .ok (.invokevirtual 72, 3) := by decide +kernel
theorem dL_law_670 : decode cL_law 670 = .ok (.if_icmp .eq 242, 3) := by decide +kernel
theorem dL_law_673 : decode cL_law 673 = .ok (.iconst 0, 1) := by decide +kernel
theorem dL_law_674 : decode cL_law 674 = .ok (.ireturn, 1) := by decide +kernel
theorem dL_law_675 : decode cL_law 675 = .ok (.aload_n 1, 1) := by decide +kernel
theorem dL_law_676 : decode cL_law 676 = .ok (.aload_n 0, 1) := by decide +kernel
theorem dL_law_677 : decode cL_law 677 = .ok (.iload_n 3, 1) := by decide +kernel
theorem dL_law_678 : decode cL_law 678 = .ok (.iconst 1, 1) := by decide +kernel
theorem dL_law_679 : decode cL_law 679 = .ok (.iadd, 1) := by decide +kernel
theorem dL_law_680 : decode cL_law 680 = .ok (.iaload, 1) := by decide +kernel
theorem dL_law_681 : decode cL_law 681 = .ok (.invokevirtual 73, 3) := by decide +kernel
theorem dL_law_684 : decode cL_law 684 = .ok (.aload_n 2, 1) := by decide +kernel
theorem dL_law_685 : decode cL_law 685 = .ok (.aload_n 0, 1) := by decide +kernel
theorem dL_law_686 : decode cL_law 686 = .ok (.iload_n 3, 1) := by decide +kernel
theorem dL_law_687 : decode cL_law 687 = .ok (.iconst 1, 1) := by decide +kernel
theorem dL_law_688 : decode cL_law 688 = .ok (.iadd, 1) := by decide +kernel
theorem dL_law_689 : decode cL_law 689 = .ok (.iaload, 1) := by decide +kernel
theorem dL_law_690 : decode cL_law 690 = .ok (.invokevirtual 76, 3) := by decide +kernel
theorem dL_law_693 : decode cL_law 693 = .ok (.if_icmp .eq 219, 3) := by decide +kernel
theorem dL_law_696 : decode cL_law 696 = .ok (.iconst 0, 1) := by decide +kernel
theorem dL_law_697 : decode cL_law 697 = .ok (.ireturn, 1) := by decide +kernel
theorem dL_law_698 : decode cL_law 698 = .ok (.aload_n 1, 1) := by decide +kernel
theorem dL_law_699 : decode cL_law 699 = .ok (.invokevirtual 77, 3) := by decide +kernel
theorem dL_law_702 : decode cL_law 702 = .ok (.aload_n 2, 1) := by decide +kernel
theorem dL_law_703 : decode cL_law 703 = .ok (.invokevirtual 80, 3) := by decide +kernel
theorem dL_law_706 : decode cL_law 706 = .ok (.if_icmp .eq 206, 3) := by decide +kernel
theorem dL_law_709 : decode cL_law 709 = .ok (.iconst 0, 1) := by decide +kernel
theorem dL_law_710 : decode cL_law 710 = .ok (.ireturn, 1) := by decide +kernel
theorem dL_law_711 : decode cL_law 711 = .ok (.aload_n 1, 1) := by decide +kernel
theorem dL_law_712 : decode cL_law 712 = .ok (.aload_n 0, 1) := by decide +kernel
theorem dL_law_713 : decode cL_law 713 = .ok (.iload_n 3, 1) := by decide +kernel
theorem dL_law_714 : decode cL_law 714 = .ok (.iconst 1, 1) := by decide +kernel
theorem dL_law_715 : decode cL_law 715 = .ok (.iadd, 1) := by decide +kernel
theorem dL_law_716 : decode cL_law 716 = .ok (.iaload, 1) := by decide +kernel
theorem dL_law_717 : decode cL_law 717 = .ok (.invokevirtual 81, 3) := by decide +kernel
theorem dL_law_720 : decode cL_law 720 = .ok (.aload_n 2, 1) := by decide +kernel
theorem dL_law_721 : decode cL_law 721 = .ok (.aload_n 0, 1) := by decide +kernel
theorem dL_law_722 : decode cL_law 722 = .ok (.iload_n 3, 1) := by decide +kernel
theorem dL_law_723 : decode cL_law 723 = .ok (.iconst 1, 1) := by decide +kernel
theorem dL_law_724 : decode cL_law 724 = .ok (.iadd, 1) := by decide +kernel
theorem dL_law_725 : decode cL_law 725 = .ok (.iaload, 1) := by decide +kernel
theorem dL_law_726 : decode cL_law 726 = .ok (.invokevirtual 84, 3) := by decide +kernel
theorem dL_law_729 : decode cL_law 729 = .ok (.if_icmp .eq 183, 3) := by decide +kernel
theorem dL_law_732 : decode cL_law 732 = .ok (.iconst 0, 1) := by decide +kernel
theorem dL_law_733 : decode cL_law 733 = .ok (.ireturn, 1) := by decide +kernel
theorem dL_law_734 : decode cL_law 734 = .ok (.aload_n 1, 1) := by decide +kernel
theorem dL_law_735 : decode cL_law 735 = .ok (.aload_n 0, 1) := by decide +kernel
theorem dL_law_736 : decode cL_law 736 = .ok (.iload_n 3, 1) := by decide +kernel
theorem dL_law_737 : decode cL_law 737 = .ok (.iconst 1, 1) := by decide +kernel
theorem dL_law_738 : decode cL_law 738 = .ok (.iadd, 1) := by decide +kernel
theorem dL_law_739 : decode cL_law 739 = .ok (.iaload, 1) := by decide +kernel
theorem dL_law_740 : decode cL_law 740 = .ok (.aload_n 0, 1) := by decide +kernel
theorem dL_law_741 : decode cL_law 741 = .ok (.iload_n 3, 1) := by decide +kernel
theorem dL_law_742 : decode cL_law 742 = .ok (.iconst 2, 1) := by decide +kernel
theorem dL_law_743 : decode cL_law 743 = .ok (.iadd, 1) := by decide +kernel
theorem dL_law_744 : decode cL_law 744 = .ok (.iaload, 1) := by decide +kernel
theorem dL_law_745 : decode cL_law 745 = .ok (.invokevirtual 85, 3) := by decide +kernel
theorem dL_law_748 : decode cL_law 748 = .ok (.aload_n 2, 1) := by decide +kernel
theorem dL_law_749 : decode cL_law 749 = .ok (.aload_n 0, 1) := by decide +kernel
theorem dL_law_750 : decode cL_law 750 = .ok (.iload_n 3, 1) := by decide +kernel
theorem dL_law_751 : decode cL_law 751 = .ok (.iconst 1, 1) := by decide +kernel
theorem dL_law_752 : decode cL_law 752 = .ok (.iadd, 1) := by decide +kernel
theorem dL_law_753 : decode cL_law 753 = .ok (.iaload, 1) := by decide +kernel
theorem dL_law_754 : decode cL_law 754 = .ok (.aload_n 0, 1) := by decide +kernel
theorem dL_law_755 : decode cL_law 755 = .ok (.iload_n 3, 1) := by decide +kernel
theorem dL_law_756 : decode cL_law 756 = .ok (.iconst 2, 1) := by decide +kernel
theorem dL_law_757 : decode cL_law 757 = .ok (.iadd, 1) := by decide +kernel
theorem dL_law_758 : decode cL_law 758 = .ok (.iaload, 1) := by decide +kernel
theorem dL_law_759 : decode cL_law 759 = .ok (.invokevirtual 88, 3) := by decide +kernel
theorem dL_law_762 : decode cL_law 762 = .ok (.if_icmp .eq 150, 3) := by decide +kernel
theorem dL_law_765 : decode cL_law 765 = .ok (.iconst 0, 1) := by decide +kernel
theorem dL_law_766 : decode cL_law 766 = .ok (.ireturn, 1) := by decide +kernel
theorem dL_law_767 : decode cL_law 767 = .ok (.aload_n 1, 1) := by decide +kernel
theorem dL_law_768 : decode cL_law 768 = .ok (.aload_n 0, 1) := by decide +kernel
theorem dL_law_769 : decode cL_law 769 = .ok (.iload_n 3, 1) := by decide +kernel
theorem dL_law_770 : decode cL_law 770 = .ok (.iconst 1, 1) := by decide +kernel
theorem dL_law_771 : decode cL_law 771 = .ok (.iadd, 1) := by decide +kernel
theorem dL_law_772 : decode cL_law 772 = .ok (.iaload, 1) := by decide +kernel
theorem dL_law_773 : decode cL_law 773 = .ok (.aload_n 0, 1) := by decide +kernel
theorem dL_law_774 : decode cL_law 774 = .ok (.iload_n 3, 1) := by decide +kernel
theorem dL_law_775 : decode cL_law 775 = .ok (.iconst 2, 1) := by decide +kernel
theorem dL_law_776 : decode cL_law 776 = .ok (.iadd, 1) := by decide +kernel
theorem dL_law_777 : decode cL_law 777 = .ok (.iaload, 1) := by decide +kernel
theorem dL_law_778 : decode cL_law 778 = .ok (.invokevirtual 89, 3) := by decide +kernel
theorem dL_law_781 : decode cL_law 781 = .ok (.aload_n 2, 1) := by decide +kernel
theorem dL_law_782 : decode cL_law 782 = .ok (.aload_n 0, 1) := by decide +kernel
theorem dL_law_783 : decode cL_law 783 = .ok (.iload_n 3, 1) := by decide +kernel
theorem dL_law_784 : decode cL_law 784 = .ok (.iconst 1, 1) := by decide +kernel
theorem dL_law_785 : decode cL_law 785 = .ok (.iadd, 1) := by decide +kernel
theorem dL_law_786 : decode cL_law 786 = .ok (.iaload, 1) := by decide +kernel
theorem dL_law_787 : decode cL_law 787 = .ok (.aload_n 0, 1) := by decide +kernel
theorem dL_law_788 : decode cL_law 788 = .ok (.iload_n 3, 1) := by decide +kernel
theorem dL_law_789 : decode cL_law 789 = .ok (.iconst 2, 1) := by decide +kernel
theorem dL_law_790 : decode cL_law 790 = .ok (.iadd, 1) := by decide +kernel
theorem dL_law_791 : decode cL_law 791 = .ok (.iaload, 1) := by decide +kernel
theorem dL_law_792 : decode cL_law 792 = .ok (.invokevirtual 92, 3) := by decide +kernel
theorem dL_law_795 : decode cL_law 795 = .ok (.if_icmp .eq 117, 3) := by decide +kernel
theorem dL_law_798 : decode cL_law 798 = .ok (.iconst 0, 1) := by decide +kernel
theorem dL_law_799 : decode cL_law 799 = .ok (.ireturn, 1) := by decide +kernel
theorem dL_law_800 : decode cL_law 800 = .ok (.aload_n 1, 1) := by decide +kernel
theorem dL_law_801 : decode cL_law 801 = .ok (.invokevirtual 93, 3) := by decide +kernel
theorem dL_law_804 : decode cL_law 804 = .ok (.aload_n 2, 1) := by decide +kernel
theorem dL_law_805 : decode cL_law 805 = .ok (.invokevirtual 96, 3) := by decide +kernel
theorem dL_law_808 : decode cL_law 808 = .ok (.if_icmp .eq 104, 3) := by decide +kernel
theorem dL_law_811 : decode cL_law 811 = .ok (.iconst 0, 1) := by decide +kernel
theorem dL_law_812 : decode cL_law 812 = .ok (.ireturn, 1) := by decide +kernel
theorem dL_law_813 : decode cL_law 813 = .ok (.aload_n 1, 1) := by decide +kernel
theorem dL_law_814 : decode cL_law 814 = .ok (.aload_n 0, 1) := by decide +kernel
theorem dL_law_815 : decode cL_law 815 = .ok (.iload_n 3, 1) := by decide +kernel
theorem dL_law_816 : decode cL_law 816 = .ok (.iconst 1, 1) := by decide +kernel
theorem dL_law_817 : decode cL_law 817 = .ok (.iadd, 1) := by decide +kernel
theorem dL_law_818 : decode cL_law 818 = .ok (.iaload, 1) := by decide +kernel
theorem dL_law_819 : decode cL_law 819 = .ok (.aload_n 0, 1) := by decide +kernel
theorem dL_law_820 : decode cL_law 820 = .ok (.iload_n 3, 1) := by decide +kernel
theorem dL_law_821 : decode cL_law 821 = .ok (.iconst 2, 1) := by decide +kernel
theorem dL_law_822 : decode cL_law 822 = .ok (.iadd, 1) := by decide +kernel
theorem dL_law_823 : decode cL_law 823 = .ok (.iaload, 1) := by decide +kernel
theorem dL_law_824 : decode cL_law 824 = .ok (.aload_n 0, 1) := by decide +kernel
theorem dL_law_825 : decode cL_law 825 = .ok (.iload_n 3, 1) := by decide +kernel
theorem dL_law_826 : decode cL_law 826 = .ok (.iconst 3, 1) := by decide +kernel
theorem dL_law_827 : decode cL_law 827 = .ok (.iadd, 1) := by decide +kernel
theorem dL_law_828 : decode cL_law 828 = .ok (.iaload, 1) := by decide +kernel
theorem dL_law_829 : decode cL_law 829 = .ok (.aload_n 0, 1) := by decide +kernel
theorem dL_law_830 : decode cL_law 830 = .ok (.iload_n 3, 1) := by decide +kernel
theorem dL_law_831 : decode cL_law 831 = .ok (.iconst 4, 1) := by decide +kernel
theorem dL_law_832 : decode cL_law 832 = .ok (.iadd, 1) := by decide +kernel
theorem dL_law_833 : decode cL_law 833 = .ok (.iaload, 1) := by decide +kernel
theorem dL_law_834 : decode cL_law 834 = .ok (.invokevirtual 97, 3) := by decide +kernel
theorem dL_law_837 : decode cL_law 837 = .ok (.aload_n 2, 1) := by decide +kernel
theorem dL_law_838 : decode cL_law 838 = .ok (.aload_n 0, 1) := by decide +kernel
theorem dL_law_839 : decode cL_law 839 = .ok (.iload_n 3, 1) := by decide +kernel
theorem dL_law_840 : decode cL_law 840 = .ok (.iconst 1, 1) := by decide +kernel
theorem dL_law_841 : decode cL_law 841 = .ok (.iadd, 1) := by decide +kernel
theorem dL_law_842 : decode cL_law 842 = .ok (.iaload, 1) := by decide +kernel
theorem dL_law_843 : decode cL_law 843 = .ok (.aload_n 0, 1) := by decide +kernel
theorem dL_law_844 : decode cL_law 844 = .ok (.iload_n 3, 1) := by decide +kernel
theorem dL_law_845 : decode cL_law 845 = .ok (.iconst 2, 1) := by decide +kernel
theorem dL_law_846 : decode cL_law 846 = .ok (.iadd, 1) := by decide +kernel
theorem dL_law_847 : decode cL_law 847 = .ok (.iaload, 1) := by decide +kernel
theorem dL_law_848 : decode cL_law 848 = .ok (.aload_n 0, 1) := by decide +kernel
theorem dL_law_849 : decode cL_law 849 = .ok (.iload_n 3, 1) := by decide +kernel
theorem dL_law_850 : decode cL_law 850 = .ok (.iconst 3, 1) := by decide +kernel
theorem dL_law_851 : decode cL_law 851 = .ok (.iadd, 1) := by decide +kernel
theorem dL_law_852 : decode cL_law 852 = .ok (.iaload, 1) := by decide +kernel
theorem dL_law_853 : decode cL_law 853 = .ok (.aload_n 0, 1) := by decide +kernel
theorem dL_law_854 : decode cL_law 854 = .ok (.iload_n 3, 1) := by decide +kernel
theorem dL_law_855 : decode cL_law 855 = .ok (.iconst 4, 1) := by decide +kernel
theorem dL_law_856 : decode cL_law 856 = .ok (.iadd, 1) := by decide +kernel
theorem dL_law_857 : decode cL_law 857 = .ok (.iaload, 1) := by decide +kernel
theorem dL_law_858 : decode cL_law 858 = .ok (.invokevirtual 100, 3) := by decide +kernel
theorem dL_law_861 : decode cL_law 861 = .ok (.if_icmp .eq 51, 3) := by decide +kernel
theorem dL_law_864 : decode cL_law 864 = .ok (.iconst 0, 1) := by decide +kernel
theorem dL_law_865 : decode cL_law 865 = .ok (.ireturn, 1) := by decide +kernel
theorem dL_law_866 : decode cL_law 866 = .ok (.aload_n 1, 1) := by decide +kernel
theorem dL_law_867 : decode cL_law 867 = .ok (.aload_n 0, 1) := by decide +kernel
theorem dL_law_868 : decode cL_law 868 = .ok (.iload_n 3, 1) := by decide +kernel
theorem dL_law_869 : decode cL_law 869 = .ok (.iconst 1, 1) := by decide +kernel
theorem dL_law_870 : decode cL_law 870 = .ok (.iadd, 1) := by decide +kernel
theorem dL_law_871 : decode cL_law 871 = .ok (.iaload, 1) := by decide +kernel
theorem dL_law_872 : decode cL_law 872 = .ok (.invokevirtual 101, 3) := by decide +kernel
theorem dL_law_875 : decode cL_law 875 = .ok (.aload_n 2, 1) := by decide +kernel
theorem dL_law_876 : decode cL_law 876 = .ok (.aload_n 0, 1) := by decide +kernel
theorem dL_law_877 : decode cL_law 877 = .ok (.iload_n 3, 1) := by decide +kernel
theorem dL_law_878 : decode cL_law 878 = .ok (.iconst 1, 1) := by decide +kernel
theorem dL_law_879 : decode cL_law 879 = .ok (.iadd, 1) := by decide +kernel
theorem dL_law_880 : decode cL_law 880 = .ok (.iaload, 1) := by decide +kernel
theorem dL_law_881 : decode cL_law 881 = .ok (.invokevirtual 104, 3) := by decide +kernel
theorem dL_law_884 : decode cL_law 884 = .ok (.if_icmp .eq 28, 3) := by decide +kernel
theorem dL_law_887 : decode cL_law 887 = .ok (.iconst 0, 1) := by decide +kernel
theorem dL_law_888 : decode cL_law 888 = .ok (.ireturn, 1) := by decide +kernel
theorem dL_law_889 : decode cL_law 889 = .ok (.aload_n 1, 1) := by decide +kernel
theorem dL_law_890 : decode cL_law 890 = .ok (.aload_n 0, 1) := by decide +kernel
theorem dL_law_891 : decode cL_law 891 = .ok (.iload_n 3, 1) := by decide +kernel
theorem dL_law_892 : decode cL_law 892 = .ok (.iconst 1, 1) := by decide +kernel
theorem dL_law_893 : decode cL_law 893 = .ok (.iadd, 1) := by decide +kernel
theorem dL_law_894 : decode cL_law 894 = .ok (.iaload, 1) := by decide +kernel
theorem dL_law_895 : decode cL_law 895 = .ok (.invokevirtual 105, 3) := by decide +kernel
theorem dL_law_898 : decode cL_law 898 = .ok (.aload_n 2, 1) := by decide +kernel
theorem dL_law_899 : decode cL_law 899 = .ok (.aload_n 0, 1) := by decide +kernel
theorem dL_law_900 : decode cL_law 900 = .ok (.iload_n 3, 1) := by decide +kernel
theorem dL_law_901 : decode cL_law 901 = .ok (.iconst 1, 1) := by decide +kernel
theorem dL_law_902 : decode cL_law 902 = .ok (.iadd, 1) := by decide +kernel
theorem dL_law_903 : decode cL_law 903 = .ok (.iaload, 1) := by decide +kernel
theorem dL_law_904 : decode cL_law 904 = .ok (.invokevirtual 108, 3) := by decide +kernel
theorem dL_law_907 : decode cL_law 907 = .ok (.if_icmp .eq 5, 3) := by decide +kernel
theorem dL_law_910 : decode cL_law 910 = .ok (.iconst 0, 1) := by decide +kernel
theorem dL_law_911 : decode cL_law 911 = .ok (.ireturn, 1) := by decide +kernel
theorem dL_law_912 : decode cL_law 912 = .ok (.iinc 3 6, 3) := by decide +kernel
theorem dL_law_915 : decode cL_law 915 = .ok (.goto (-897), 3) := by decide +kernel
theorem dL_law_918 : decode cL_law 918 = .ok (.iconst 1, 1) := by decide +kernel
theorem dL_law_919 : decode cL_law 919 = .ok (.ireturn, 1) := by decide +kernel
theorem dJ0_length_8abf5_0 : decode cJ0_length_8abf5 0 = .ok (.aload_n 0, 1) := by decide +kernel
theorem dJ0_length_8abf5_1 : decode cJ0_length_8abf5 1 = .ok (.getfield 9, 3) := by decide +kernel
theorem dJ0_length_8abf5_4 : decode cJ0_length_8abf5 4 = .ok (.arraylength, 1) := by decide +kernel
theorem dJ0_length_8abf5_5 : decode cJ0_length_8abf5 5 = .ok (.aload_n 0, 1) := by decide +kernel
theorem dJ0_length_8abf5_6 : decode cJ0_length_8abf5 6 = .ok (.invokevirtual 335, 3) := by decide +kernel
theorem dJ0_length_8abf5_9 : decode cJ0_length_8abf5 9 = .ok (.ishr, 1) := by decide +kernel
theorem dJ0_length_8abf5_10 : decode cJ0_length_8abf5 10 = .ok (.ireturn, 1) := by decide +kernel
theorem dJ0_charAt_5068e_0 : decode cJ0_charAt_5068e 0 = .ok (.aload_n 0, 1) := by decide +kernel
theorem dJ0_charAt_5068e_1 : decode cJ0_charAt_5068e 1 = .ok (.invokevirtual 492, 3) := by decide +kernel
theorem dJ0_charAt_5068e_4 : decode cJ0_charAt_5068e 4 = .ok (.ifCond .eq 12, 3) := by decide +kernel
theorem dJ0_charAt_5068e_7 : decode cJ0_charAt_5068e 7 = .ok (.aload_n 0, 1) := by decide +kernel
theorem dJ0_charAt_5068e_8 : decode cJ0_charAt_5068e 8 = .ok (.getfield 9, 3) := by decide +kernel
theorem dJ0_charAt_5068e_11 : decode cJ0_charAt_5068e 11 = .ok (.iload_n 1, 1) := by decide +kernel
theorem dJ0_charAt_5068e_12 : decode cJ0_charAt_5068e 12 = .ok (.invokestatic 495, 3) := by decide +kernel
theorem dJ0_charAt_5068e_15 : decode cJ0_charAt_5068e 15 = .ok (.ireturn, 1) := by decide +kernel
theorem dJ0_charAt_5068e_16 : decode cJ0_charAt_5068e 16 = .ok (.aload_n 0, 1) := by decide +kernel
theorem dJ0_charAt_5068e_17 : decode cJ0_charAt_5068e 17 = .ok (.getfield 9, 3) := by decide +kernel
theorem dJ0_charAt_5068e_20 : decode cJ0_charAt_5068e 20 = .ok (.iload_n 1, 1) := by decide +kernel
theorem dJ0_charAt_5068e_21 : decode cJ0_charAt_5068e 21 = .ok (.invokestatic 498, 3) := by decide +kernel
theorem dJ0_charAt_5068e_24 : decode cJ0_charAt_5068e 24 = .ok (.ireturn, 1) := by decide +kernel
theorem dJ0_coder_7d493_0 : decode cJ0_coder_7d493 0 = .ok (.getstatic 38, 3) := by decide +kernel
theorem dJ0_coder_7d493_3 : decode cJ0_coder_7d493 3 = .ok (.ifCond .eq 10, 3) := by decide +kernel
theorem dJ0_coder_7d493_6 : decode cJ0_coder_7d493 6 = .ok (.aload_n 0, 1) := by decide +kernel
theorem dJ0_coder_7d493_7 : decode cJ0_coder_7d493 7 = .ok (.getfield 15, 3) := by decide +kernel
theorem dJ0_coder_7d493_10 : decode cJ0_coder_7d493 10 = .ok (.goto 4, 3) := by decide +kernel
theorem dJ0_coder_7d493_13 : decode cJ0_coder_7d493 13 = .ok (.iconst 1, 1) := by decide +kernel
theorem dJ0_coder_7d493_14 : decode cJ0_coder_7d493 14 = .ok (.ireturn, 1) := by decide +kernel
theorem dJ0_isLatin1_aae02_0 : decode cJ0_isLatin1_aae02 0 = .ok (.getstatic 38, 3) := by decide +kernel
theorem dJ0_isLatin1_aae02_3 : decode cJ0_isLatin1_aae02 3 = .ok (.ifCond .eq 14, 3) := by decide +kernel
theorem dJ0_isLatin1_aae02_6 : decode cJ0_isLatin1_aae02 6 = .ok (.aload_n 0, 1) := by decide +kernel
theorem dJ0_isLatin1_aae02_7 : decode cJ0_isLatin1_aae02 7 = .ok (.getfield 15, 3) := by decide +kernel
theorem dJ0_isLatin1_aae02_10 : decode cJ0_isLatin1_aae02 10 = .ok (.ifCond .ne 7, 3) := by decide +kernel
theorem dJ0_isLatin1_aae02_13 : decode cJ0_isLatin1_aae02 13 = .ok (.iconst 1, 1) := by decide +kernel
theorem dJ0_isLatin1_aae02_14 : decode cJ0_isLatin1_aae02 14 = .ok (.goto 4, 3) := by decide +kernel
theorem dJ0_isLatin1_aae02_17 : decode cJ0_isLatin1_aae02 17 = .ok (.iconst 0, 1) := by decide +kernel
theorem dJ0_isLatin1_aae02_18 : decode cJ0_isLatin1_aae02 18 = .ok (.ireturn, 1) := by decide +kernel
theorem dJ0_checkIndex_df160_0 : decode cJ0_checkIndex_df160 0 = .ok (.iload_n 0, 1) := by decide +kernel
theorem dJ0_checkIndex_df160_1 : decode cJ0_checkIndex_df160 1 = .ok (.iload_n 1, 1) := by decide +kernel
theorem dJ0_checkIndex_df160_2 : decode cJ0_checkIndex_df160 2 = .ok (.getstatic 1053, 3) := by decide +kernel
theorem dJ0_checkIndex_df160_5 : decode cJ0_checkIndex_df160 5 = .ok (.invokestatic 1059, 3) := by decide +kernel
theorem dJ0_checkIndex_df160_8 : decode cJ0_checkIndex_df160 8 = .ok (.pop, 1) := by decide +kernel
theorem dJ0_checkIndex_df160_9 : decode cJ0_checkIndex_df160 9 = .ok (.return_, 1) := by decide +kernel
theorem dJ1_charAt_3b067_0 : decode cJ1_charAt_3b067 0 = .ok (.iload_n 1, 1) := by decide +kernel
theorem dJ1_charAt_3b067_1 : decode cJ1_charAt_3b067 1 = .ok (.aload_n 0, 1) := by decide +kernel
theorem dJ1_charAt_3b067_2 : decode cJ1_charAt_3b067 2 = .ok (.arraylength, 1) := by decide +kernel
theorem dJ1_charAt_3b067_3 : decode cJ1_charAt_3b067 3 = .ok (.invokestatic 9, 3) := by decide +kernel
theorem dJ1_charAt_3b067_6 : decode cJ1_charAt_3b067 6 = .ok (.aload_n 0, 1) := by decide +kernel
theorem dJ1_charAt_3b067_7 : decode cJ1_charAt_3b067 7 = .ok (.iload_n 1, 1) := by decide +kernel
theorem dJ1_charAt_3b067_8 : decode cJ1_charAt_3b067 8 = .ok (.baload, 1) := by decide +kernel
theorem dJ1_charAt_3b067_9 : decode cJ1_charAt_3b067 9 = .ok (.sipush 255, 3) := by decide +kernel
theorem dJ1_charAt_3b067_12 : decode cJ1_charAt_3b067 12 = .ok (.iand, 1) := by decide +kernel
theorem dJ1_charAt_3b067_13 : decode cJ1_charAt_3b067 13 = .ok (.i2c, 1) := by decide +kernel
theorem dJ1_charAt_3b067_14 : decode cJ1_charAt_3b067 14 = .ok (.ireturn, 1) := by decide +kernel
theorem dJ2_getChar_3b067_0 : decode cJ2_getChar_3b067 0 = .ok (.getstatic 44, 3) := by decide +kernel
theorem dJ2_getChar_3b067_3 : decode cJ2_getChar_3b067 3 = .ok (.ifCond .ne 25, 3) := by decide +kernel
theorem dJ2_getChar_3b067_6 : decode cJ2_getChar_3b067 6 = .ok (.iload_n 1, 1) := by decide +kernel
theorem dJ2_getChar_3b067_7 : decode cJ2_getChar_3b067 7 = .ok (.ifCond .lt 11, 3) := by decide +kernel
theorem dJ2_getChar_3b067_10 : decode cJ2_getChar_3b067 10 = .ok (.iload_n 1, 1) := by decide +kernel
theorem dJ2_getChar_3b067_11 : decode cJ2_getChar_3b067 11 = .ok (.aload_n 0, 1) := by decide +kernel
theorem dJ2_getChar_3b067_12 : decode cJ2_getChar_3b067 12 = .ok (.invokestatic 48, 3) := by decide +kernel
theorem dJ2_getChar_3b067_15 : decode cJ2_getChar_3b067 15 = .ok (.if_icmp .lt 13, 3) := by decide +kernel
theorem dJ2_getChar_3b067_18 : decode cJ2_getChar_3b067 18 = .ok (.new 52, 3) := by decide +kernel
theorem dJ2_getChar_3b067_21 : decode cJ2_getChar_3b067 21 = .ok (.dup, 1) := by decide +kernel
theorem dJ2_getChar_3b067_22 : decode cJ2_getChar_3b067 22 = .ok (.ldc 54, 2) := by decide +kernel
theorem dJ2_getChar_3b067_24 : decode cJ2_getChar_3b067 24 = .ok (.invokespecial 56, 3) := by decide +kernel
theorem dJ2_getChar_3b067_27 : decode cJ2_getChar_3b067 27 = .ok (.athrow, 1) := by decide +kernel
theorem dJ2_getChar_3b067_28 : decode cJ2_getChar_3b067 28 = .ok (.iload_n 1, 1) := by decide +kernel
theorem dJ2_getChar_3b067_29 : decode cJ2_getChar_3b067 29 = .ok (.iconst 1, 1) := by decide +kernel
theorem dJ2_getChar_3b067_30 : decode cJ2_getChar_3b067 30 = .ok (.ishl, 1) := by decide +kernel
theorem dJ2_getChar_3b067_31 : decode cJ2_getChar_3b067 31 = .ok (.istore_n 1, 1) := by decide +kernel
theorem dJ2_getChar_3b067_32 : decode cJ2_getChar_3b067 32 = .ok (.aload_n 0, 1) := by decide +kernel
theorem dJ2_getChar_3b067_33 : decode cJ2_getChar_3b067 33 = .ok (.iload_n 1, 1) := by decide +kernel
theorem dJ2_getChar_3b067_34 : decode cJ2_getChar_3b067 34 = .ok (.iinc 1 1, 3) := by decide +kernel
theorem dJ2_getChar_3b067_37 : decode cJ2_getChar_3b067 37 = .ok (.baload, 1) := by decide +kernel
theorem dJ2_getChar_3b067_38 : decode cJ2_getChar_3b067 38 = .ok (.sipush 255, 3) := by decide +kernel
theorem dJ2_getChar_3b067_41 : decode cJ2_getChar_3b067 41 = .ok (.iand, 1) := by decide +kernel
theorem dJ2_getChar_3b067_42 : decode cJ2_getChar_3b067 42 = .ok (.getstatic 59, 3) := by decide +kernel
theorem dJ2_getChar_3b067_45 : decode cJ2_getChar_3b067 45 = .ok (.ishl, 1) := by decide +kernel
theorem dJ2_getChar_3b067_46 : decode cJ2_getChar_3b067 46 = .ok (.aload_n 0, 1) := by decide +kernel
theorem dJ2_getChar_3b067_47 : decode cJ2_getChar_3b067 47 = .ok (.iload_n 1, 1) := by decide +kernel
theorem dJ2_getChar_3b067_48 : decode cJ2_getChar_3b067 48 = .ok (.baload, 1) := by decide +kernel
theorem dJ2_getChar_3b067_49 : decode cJ2_getChar_3b067 49 = .ok (.sipush 255, 3) := by decide +kernel
theorem dJ2_getChar_3b067_52 : decode cJ2_getChar_3b067 52 = .ok (.iand, 1) := by decide +kernel
theorem dJ2_getChar_3b067_53 : decode cJ2_getChar_3b067 53 = .ok (.getstatic 63, 3) := by decide +kernel
theorem dJ2_getChar_3b067_56 : decode cJ2_getChar_3b067 56 = .ok (.ishl, 1) := by decide +kernel
theorem dJ2_getChar_3b067_57 : decode cJ2_getChar_3b067 57 = .ok (.ior, 1) := by decide +kernel
theorem dJ2_getChar_3b067_58 : decode cJ2_getChar_3b067 58 = .ok (.i2c, 1) := by decide +kernel
theorem dJ2_getChar_3b067_59 : decode cJ2_getChar_3b067 59 = .ok (.ireturn, 1) := by decide +kernel
theorem dJ2_length_9d52b_0 : decode cJ2_length_9d52b 0 = .ok (.aload_n 0, 1) := by decide +kernel
theorem dJ2_length_9d52b_1 : decode cJ2_length_9d52b 1 = .ok (.arraylength, 1) := by decide +kernel
theorem dJ2_length_9d52b_2 : decode cJ2_length_9d52b 2 = .ok (.iconst 1, 1) := by decide +kernel
theorem dJ2_length_9d52b_3 : decode cJ2_length_9d52b 3 = .ok (.ishr, 1) := by decide +kernel
theorem dJ2_length_9d52b_4 : decode cJ2_length_9d52b 4 = .ok (.ireturn, 1) := by decide +kernel
theorem dJ2_charAt_3b067_0 : decode cJ2_charAt_3b067 0 = .ok (.iload_n 1, 1) := by decide +kernel
theorem dJ2_charAt_3b067_1 : decode cJ2_charAt_3b067 1 = .ok (.aload_n 0, 1) := by decide +kernel
theorem dJ2_charAt_3b067_2 : decode cJ2_charAt_3b067 2 = .ok (.invokestatic 67, 3) := by decide +kernel
theorem dJ2_charAt_3b067_5 : decode cJ2_charAt_3b067 5 = .ok (.aload_n 0, 1) := by decide +kernel
theorem dJ2_charAt_3b067_6 : decode cJ2_charAt_3b067 6 = .ok (.iload_n 1, 1) := by decide +kernel
theorem dJ2_charAt_3b067_7 : decode cJ2_charAt_3b067 7 = .ok (.invokestatic 71, 3) := by decide +kernel
theorem dJ2_charAt_3b067_10 : decode cJ2_charAt_3b067 10 = .ok (.ireturn, 1) := by decide +kernel
theorem dJ2_checkIndex_2214a_0 : decode cJ2_checkIndex_2214a 0 = .ok (.iload_n 0, 1) := by decide +kernel
theorem dJ2_checkIndex_2214a_1 : decode cJ2_checkIndex_2214a 1 = .ok (.aload_n 1, 1) := by decide +kernel
theorem dJ2_checkIndex_2214a_2 : decode cJ2_checkIndex_2214a 2 = .ok (.invokestatic 48, 3) := by decide +kernel
theorem dJ2_checkIndex_2214a_5 : decode cJ2_checkIndex_2214a 5 = .ok (.invokestatic 414, 3) := by decide +kernel
theorem dJ2_checkIndex_2214a_8 : decode cJ2_checkIndex_2214a 8 = .ok (.return_, 1) := by decide +kernel
theorem dJ3_checkIndex_8e157_0 : decode cJ3_checkIndex_8e157 0 = .ok (.iload_n 0, 1) := by decide +kernel
theorem dJ3_checkIndex_8e157_1 : decode cJ3_checkIndex_8e157 1 = .ok (.ifCond .lt 8, 3) := by decide +kernel
theorem dJ3_checkIndex_8e157_4 : decode cJ3_checkIndex_8e157 4 = .ok (.iload_n 0, 1) := by decide +kernel
theorem dJ3_checkIndex_8e157_5 : decode cJ3_checkIndex_8e157 5 = .ok (.iload_n 1, 1) := by decide +kernel
theorem dJ3_checkIndex_8e157_6 : decode cJ3_checkIndex_8e157 6 = .ok (.if_icmp .lt 10, 3) := by decide +kernel
theorem dJ3_checkIndex_8e157_9 : decode cJ3_checkIndex_8e157 9 = .ok (.aload_n 2, 1) := by decide +kernel
theorem dJ3_checkIndex_8e157_10 : decode cJ3_checkIndex_8e157 10 = .ok (.iload_n 0, 1) := by decide +kernel
theorem dJ3_checkIndex_8e157_11 : decode cJ3_checkIndex_8e157 11 = .ok (.iload_n 1, 1) := by decide +kernel
theorem dJ3_checkIndex_8e157_12 : decode cJ3_checkIndex_8e157 12 = .ok (.invokestatic 95, 3) := by decide +kernel
theorem dJ3_checkIndex_8e157_15 : decode cJ3_checkIndex_8e157 15 = .ok (.athrow, 1) := by decide +kernel
theorem dJ3_checkIndex_8e157_16 : decode cJ3_checkIndex_8e157 16 = .ok (.iload_n 0, 1) := by decide +kernel
theorem dJ3_checkIndex_8e157_17 : decode cJ3_checkIndex_8e157 17 = .ok (.ireturn, 1) := by decide +kernel
theorem dJ6_bitCount_0f7a4_0 : decode cJ6_bitCount_0f7a4 0 = .ok (.iload_n 0, 1) := by decide +kernel
theorem dJ6_bitCount_0f7a4_1 : decode cJ6_bitCount_0f7a4 1 = .ok (.iload_n 0, 1) := by decide +kernel
theorem dJ6_bitCount_0f7a4_2 : decode cJ6_bitCount_0f7a4 2 = .ok (.iconst 1, 1) := by decide +kernel
theorem dJ6_bitCount_0f7a4_3 : decode cJ6_bitCount_0f7a4 3 = .ok (.iushr, 1) := by decide +kernel
theorem dJ6_bitCount_0f7a4_4 : decode cJ6_bitCount_0f7a4 4 = .ok (.ldc_w 265, 3) := by decide +kernel
theorem dJ6_bitCount_0f7a4_7 : decode cJ6_bitCount_0f7a4 7 = .ok (.iand, 1) := by decide +kernel
theorem dJ6_bitCount_0f7a4_8 : decode cJ6_bitCount_0f7a4 8 = .ok (.isub, 1) := by decide +kernel
theorem dJ6_bitCount_0f7a4_9 : decode cJ6_bitCount_0f7a4 9 = .ok (.istore_n 0, 1) := by decide +kernel
theorem dJ6_bitCount_0f7a4_10 : decode cJ6_bitCount_0f7a4 10 = .ok (.iload_n 0, 1) := by decide +kernel
theorem dJ6_bitCount_0f7a4_11 : decode cJ6_bitCount_0f7a4 11 = .ok (.ldc_w 266, 3) := by decide +kernel
theorem dJ6_bitCount_0f7a4_14 : decode cJ6_bitCount_0f7a4 14 = .ok (.iand, 1) := by decide +kernel
theorem dJ6_bitCount_0f7a4_15 : decode cJ6_bitCount_0f7a4 15 = .ok (.iload_n 0, 1) := by decide +kernel
theorem dJ6_bitCount_0f7a4_16 : decode cJ6_bitCount_0f7a4 16 = .ok (.iconst 2, 1) := by decide +kernel
theorem dJ6_bitCount_0f7a4_17 : decode cJ6_bitCount_0f7a4 17 = .ok (.iushr, 1) := by decide +kernel
theorem dJ6_bitCount_0f7a4_18 : decode cJ6_bitCount_0f7a4 18 = .ok (.ldc_w 266, 3) := by decide +kernel
theorem dJ6_bitCount_0f7a4_21 : decode cJ6_bitCount_0f7a4 21 = .ok (.iand, 1) := by decide +kernel
theorem dJ6_bitCount_0f7a4_22 : decode cJ6_bitCount_0f7a4 22 = .ok (.iadd, 1) := by decide +kernel
theorem dJ6_bitCount_0f7a4_23 : decode cJ6_bitCount_0f7a4 23 = .ok (.istore_n 0, 1) := by decide +kernel
theorem dJ6_bitCount_0f7a4_24 : decode cJ6_bitCount_0f7a4 24 = .ok (.iload_n 0, 1) := by decide +kernel
theorem dJ6_bitCount_0f7a4_25 : decode cJ6_bitCount_0f7a4 25 = .ok (.iload_n 0, 1) := by decide +kernel
theorem dJ6_bitCount_0f7a4_26 : decode cJ6_bitCount_0f7a4 26 = .ok (.iconst 4, 1) := by decide +kernel
theorem dJ6_bitCount_0f7a4_27 : decode cJ6_bitCount_0f7a4 27 = .ok (.iushr, 1) := by decide +kernel
theorem dJ6_bitCount_0f7a4_28 : decode cJ6_bitCount_0f7a4 28 = .ok (.iadd, 1) := by decide +kernel
theorem dJ6_bitCount_0f7a4_29 : decode cJ6_bitCount_0f7a4 29 = .ok (.ldc_w 267, 3) := by decide +kernel
theorem dJ6_bitCount_0f7a4_32 : decode cJ6_bitCount_0f7a4 32 = .ok (.iand, 1) := by decide +kernel
theorem dJ6_bitCount_0f7a4_33 : decode cJ6_bitCount_0f7a4 33 = .ok (.istore_n 0, 1) := by decide +kernel
theorem dJ6_bitCount_0f7a4_34 : decode cJ6_bitCount_0f7a4 34 = .ok (.iload_n 0, 1) := by decide +kernel
theorem dJ6_bitCount_0f7a4_35 : decode cJ6_bitCount_0f7a4 35 = .ok (.iload_n 0, 1) := by decide +kernel
theorem dJ6_bitCount_0f7a4_36 : decode cJ6_bitCount_0f7a4 36 = .ok (.bipush 8, 2) := by decide +kernel
theorem dJ6_bitCount_0f7a4_38 : decode cJ6_bitCount_0f7a4 38 = .ok (.iushr, 1) := by decide +kernel
theorem dJ6_bitCount_0f7a4_39 : decode cJ6_bitCount_0f7a4 39 = .ok (.iadd, 1) := by decide +kernel
theorem dJ6_bitCount_0f7a4_40 : decode cJ6_bitCount_0f7a4 40 = .ok (.istore_n 0, 1) := by decide +kernel
theorem dJ6_bitCount_0f7a4_41 : decode cJ6_bitCount_0f7a4 41 = .ok (.iload_n 0, 1) := by decide +kernel
theorem dJ6_bitCount_0f7a4_42 : decode cJ6_bitCount_0f7a4 42 = .ok (.iload_n 0, 1) := by decide +kernel
theorem dJ6_bitCount_0f7a4_43 : decode cJ6_bitCount_0f7a4 43 = .ok (.bipush 16, 2) := by decide +kernel
theorem dJ6_bitCount_0f7a4_45 : decode cJ6_bitCount_0f7a4 45 = .ok (.iushr, 1) := by decide +kernel
theorem dJ6_bitCount_0f7a4_46 : decode cJ6_bitCount_0f7a4 46 = .ok (.iadd, 1) := by decide +kernel
theorem dJ6_bitCount_0f7a4_47 : decode cJ6_bitCount_0f7a4 47 = .ok (.istore_n 0, 1) := by decide +kernel
theorem dJ6_bitCount_0f7a4_48 : decode cJ6_bitCount_0f7a4 48 = .ok (.iload_n 0, 1) := by decide +kernel
theorem dJ6_bitCount_0f7a4_49 : decode cJ6_bitCount_0f7a4 49 = .ok (.bipush 63, 2) := by decide +kernel
theorem dJ6_bitCount_0f7a4_51 : decode cJ6_bitCount_0f7a4 51 = .ok (.iand, 1) := by decide +kernel
theorem dJ6_bitCount_0f7a4_52 : decode cJ6_bitCount_0f7a4 52 = .ok (.ireturn, 1) := by decide +kernel
end
section
theorem dJ9_floorMod_7cf53_0 : decode cJ9_floorMod_7cf53 0 = .ok (.iload_n 0, 1) := by decide +kernel
theorem dJ9_floorMod_7cf53_1 : decode cJ9_floorMod_7cf53 1 = .ok (.iload_n 1, 1) := by decide +kernel
theorem dJ9_floorMod_7cf53_2 : decode cJ9_floorMod_7cf53 2 = .ok (.irem, 1) := by decide +kernel
theorem dJ9_floorMod_7cf53_3 : decode cJ9_floorMod_7cf53 3 = .ok (.istore_n 2, 1) := by decide +kernel
theorem dJ9_floorMod_7cf53_4 : decode cJ9_floorMod_7cf53 4 = .ok (.iload_n 0, 1) := by decide +kernel
theorem dJ9_floorMod_7cf53_5 : decode cJ9_floorMod_7cf53 5 = .ok (.iload_n 1, 1) := by decide +kernel
theorem dJ9_floorMod_7cf53_6 : decode cJ9_floorMod_7cf53 6 = .ok (.ixor, 1) := by decide +kernel
theorem dJ9_floorMod_7cf53_7 : decode cJ9_floorMod_7cf53 7 = .ok (.ifCond .ge 11, 3) := by decide +kernel
theorem dJ9_floorMod_7cf53_10 : decode cJ9_floorMod_7cf53 10 = .ok (.iload_n 2, 1) := by decide +kernel
theorem dJ9_floorMod_7cf53_11 : decode cJ9_floorMod_7cf53 11 = .ok (.ifCond .eq 7, 3) := by decide +kernel
theorem dJ9_floorMod_7cf53_14 : decode cJ9_floorMod_7cf53 14 = .ok (.iload_n 2, 1) := by decide +kernel
theorem dJ9_floorMod_7cf53_15 : decode cJ9_floorMod_7cf53 15 = .ok (.iload_n 1, 1) := by decide +kernel
theorem dJ9_floorMod_7cf53_16 : decode cJ9_floorMod_7cf53 16 = .ok (.iadd, 1) := by decide +kernel
theorem dJ9_floorMod_7cf53_17 : decode cJ9_floorMod_7cf53 17 = .ok (.ireturn, 1) := by decide +kernel
theorem dJ9_floorMod_7cf53_18 : decode cJ9_floorMod_7cf53 18 = .ok (.iload_n 2, 1) := by decide +kernel
theorem dJ9_floorMod_7cf53_19 : decode cJ9_floorMod_7cf53 19 = .ok (.ireturn, 1) := by decide +kernel
theorem dJ9_abs_0f7a4_0 : decode cJ9_abs_0f7a4 0 = .ok (.iload_n 0, 1) := by decide +kernel
theorem dJ9_abs_0f7a4_1 : decode cJ9_abs_0f7a4 1 = .ok (.ifCond .ge 8, 3) := by decide +kernel
theorem dJ9_abs_0f7a4_4 : decode cJ9_abs_0f7a4 4 = .ok (.iload_n 0, 1) := by decide +kernel
theorem dJ9_abs_0f7a4_5 : decode cJ9_abs_0f7a4 5 = .ok (.ineg, 1) := by decide +kernel
theorem dJ9_abs_0f7a4_6 : decode cJ9_abs_0f7a4 6 = .ok (.goto 4, 3) := by decide +kernel
theorem dJ9_abs_0f7a4_9 : decode cJ9_abs_0f7a4 9 = .ok (.iload_n 0, 1) := by decide +kernel
theorem dJ9_abs_0f7a4_10 : decode cJ9_abs_0f7a4 10 = .ok (.ireturn, 1) := by decide +kernel
theorem dJ9_max_7cf53_0 : decode cJ9_max_7cf53 0 = .ok (.iload_n 0, 1) := by decide +kernel
theorem dJ9_max_7cf53_1 : decode cJ9_max_7cf53 1 = .ok (.iload_n 1, 1) := by decide +kernel
theorem dJ9_max_7cf53_2 : decode cJ9_max_7cf53 2 = .ok (.if_icmp .lt 7, 3) := by decide +kernel
theorem dJ9_max_7cf53_5 : decode cJ9_max_7cf53 5 = .ok (.iload_n 0, 1) := by decide +kernel
theorem dJ9_max_7cf53_6 : decode cJ9_max_7cf53 6 = .ok (.goto 4, 3) := by decide +kernel
theorem dJ9_max_7cf53_9 : decode cJ9_max_7cf53 9 = .ok (.iload_n 1, 1) := by decide +kernel
theorem dJ9_max_7cf53_10 : decode cJ9_max_7cf53 10 = .ok (.ireturn, 1) := by decide +kernel
theorem dJ9_min_7cf53_0 : decode cJ9_min_7cf53 0 = .ok (.iload_n 0, 1) := by decide +kernel
theorem dJ9_min_7cf53_1 : decode cJ9_min_7cf53 1 = .ok (.iload_n 1, 1) := by decide +kernel
theorem dJ9_min_7cf53_2 : decode cJ9_min_7cf53 2 = .ok (.if_icmp .gt 7, 3) := by decide +kernel
theorem dJ9_min_7cf53_5 : decode cJ9_min_7cf53 5 = .ok (.iload_n 0, 1) := by decide +kernel
theorem dJ9_min_7cf53_6 : decode cJ9_min_7cf53 6 = .ok (.goto 4, 3) := by decide +kernel
theorem dJ9_min_7cf53_9 : decode cJ9_min_7cf53 9 = .ok (.iload_n 1, 1) := by decide +kernel
theorem dJ9_min_7cf53_10 : decode cJ9_min_7cf53 10 = .ok (.ireturn, 1) := by decide +kernel
theorem dX0_init_0 : decode cX0_init 0 = .ok (.aload_n 0, 1) := by decide +kernel
theorem dX0_init_1 : decode cX0_init 1 = .ok (.invokespecial 3, 3) := by decide +kernel
theorem dX0_init_4 : decode cX0_init 4 = .ok (.aload_n 0, 1) := by decide +kernel
theorem dX0_init_5 : decode cX0_init 5 = .ok (.bipush 60, 2) := by decide +kernel
theorem dX0_init_7 : decode cX0_init 7 = .ok (.newarray .int, 2) := by decide +kernel
theorem dX0_init_9 : decode cX0_init 9 = .ok (.putfield 9, 3) := by decide +kernel
theorem dX0_init_12 : decode cX0_init 12 = .ok (.aload_n 0, 1) := by decide +kernel
theorem dX0_init_13 : decode cX0_init 13 = .ok (.bipush 60, 2) := by decide +kernel
theorem dX0_init_15 : decode cX0_init 15 = .ok (.newarray .int, 2) := by decide +kernel
theorem dX0_init_17 : decode cX0_init 17 = .ok (.putfield 15, 3) := by decide +kernel
theorem dX0_init_20 : decode cX0_init 20 = .ok (.aload_n 0, 1) := by decide +kernel
theorem dX0_init_21 : decode cX0_init 21 = .ok (.iconst 5, 1) := by decide +kernel
theorem dX0_init_22 : decode cX0_init 22 = .ok (.putfield 18, 3) := by decide +kernel
theorem dX0_init_25 : decode cX0_init 25 = .ok (.aload_n 0, 1) := by decide +kernel
theorem dX0_init_26 : decode cX0_init 26 = .ok (.bipush 10, 2) := by decide +kernel
theorem dX0_init_28 : decode cX0_init 28 = .ok (.putfield 22, 3) := by decide +kernel
theorem dX0_init_31 : decode cX0_init 31 = .ok (.return_, 1) := by decide +kernel
theorem dX0_gather_0 : decode cX0_gather 0 = .ok (.iconst 0, 1) := by decide +kernel
theorem dX0_gather_1 : decode cX0_gather 1 = .ok (.istore_n 2, 1) := by decide +kernel
theorem dX0_gather_2 : decode cX0_gather 2 = .ok (.iload_n 2, 1) := by decide +kernel
theorem dX0_gather_3 : decode cX0_gather 3 = .ok (.aload_n 1, 1) := by decide +kernel
theorem dX0_gather_4 : decode cX0_gather 4 = .ok (.getfield 25, 3) := by decide +kernel
theorem dX0_gather_7 : decode cX0_gather 7 = .ok (.getfield 31, 3) := by decide +kernel
theorem dX0_gather_10 : decode cX0_gather 10 = .ok (.if_icmp .ge 67, 3) := by decide +kernel
theorem dX0_gather_13 : decode cX0_gather 13 = .ok (.aload_n 0, 1) := by decide +kernel
theorem dX0_gather_14 : decode cX0_gather 14 = .ok (.getfield 9, 3) := by decide +kernel
theorem dX0_gather_17 : decode cX0_gather 17 = .ok (.iload_n 2, 1) := by decide +kernel
theorem dX0_gather_18 : decode cX0_gather 18 = .ok (.iload_n 2, 1) := by decide +kernel
theorem dX0_gather_19 : decode cX0_gather 19 = .ok (.iastore, 1) := by decide +kernel
theorem dX0_gather_20 : decode cX0_gather 20 = .ok (.iconst 0, 1) := by decide +kernel
theorem dX0_gather_21 : decode cX0_gather 21 = .ok (.istore_n 3, 1) := by decide +kernel
theorem dX0_gather_22 : decode cX0_gather 22 = .ok (.iload_n 3, 1) := by decide +kernel
theorem dX0_gather_23 : decode cX0_gather 23 = .ok (.iload_n 2, 1) := by decide +kernel
theorem dX0_gather_24 : decode cX0_gather 24 = .ok (.if_icmp .ge 47, 3) := by decide +kernel
theorem dX0_gather_27 : decode cX0_gather 27 = .ok (.aload_n 0, 1) := by decide +kernel
theorem dX0_gather_28 : decode cX0_gather 28 = .ok (.getfield 9, 3) := by decide +kernel
theorem dX0_gather_31 : decode cX0_gather 31 = .ok (.iload_n 2, 1) := by decide +kernel
theorem dX0_gather_32 : decode cX0_gather 32 = .ok (.iaload, 1) := by decide +kernel
theorem dX0_gather_33 : decode cX0_gather 33 = .ok (.aload_n 0, 1) := by decide +kernel
theorem dX0_gather_34 : decode cX0_gather 34 = .ok (.getfield 9, 3) := by decide +kernel
theorem dX0_gather_37 : decode cX0_gather 37 = .ok (.iload_n 3, 1) := by decide +kernel
theorem dX0_gather_38 : decode cX0_gather 38 = .ok (.iaload, 1) := by decide +kernel
theorem dX0_gather_39 : decode cX0_gather 39 = .ok (.if_icmp .eq 26, 3) := by decide +kernel
theorem dX0_gather_42 : decode cX0_gather 42 = .ok (.aload_n 1, 1) := by decide +kernel
theorem dX0_gather_43 : decode cX0_gather 43 = .ok (.iload_n 2, 1) := by decide +kernel
theorem dX0_gather_44 : decode cX0_gather 44 = .ok (.iload_n 3, 1) := by decide +kernel
theorem dX0_gather_45 : decode cX0_gather 45 = .ok (.aload_n 0, 1) := by decide +kernel
theorem dX0_gather_46 : decode cX0_gather 46 = .ok (.getfield 18, 3) := by decide +kernel
theorem dX0_gather_49 : decode cX0_gather 49 = .ok (.aload_n 0, 1) := by decide +kernel
theorem dX0_gather_50 : decode cX0_gather 50 = .ok (.getfield 22, 3) := by decide +kernel
theorem dX0_gather_53 : decode cX0_gather 53 = .ok (.invokevirtual 36, 3) := by decide +kernel
theorem dX0_gather_56 : decode cX0_gather 56 = .ok (.ifCond .eq 9, 3) := by decide +kernel
theorem dX0_gather_59 : decode cX0_gather 59 = .ok (.aload_n 0, 1) := by decide +kernel
theorem dX0_gather_60 : decode cX0_gather 60 = .ok (.iload_n 2, 1) := by decide +kernel
theorem dX0_gather_61 : decode cX0_gather 61 = .ok (.iload_n 3, 1) := by decide +kernel
theorem dX0_gather_62 : decode cX0_gather 62 = .ok (.invokevirtual 40, 3) := by decide +kernel
theorem dX0_gather_65 : decode cX0_gather 65 = .ok (.iinc 3 1, 3) := by decide +kernel
theorem dX0_gather_68 : decode cX0_gather 68 = .ok (.goto (-46), 3) := by decide +kernel
theorem dX0_gather_71 : decode cX0_gather 71 = .ok (.iinc 2 1, 3) := by decide +kernel
theorem dX0_gather_74 : decode cX0_gather 74 = .ok (.goto (-72), 3) := by decide +kernel
theorem dX0_gather_77 : decode cX0_gather 77 = .ok (.aload_n 0, 1) := by decide +kernel
theorem dX0_gather_78 : decode cX0_gather 78 = .ok (.aload_n 1, 1) := by decide +kernel
theorem dX0_gather_79 : decode cX0_gather 79 = .ok (.getfield 25, 3) := by decide +kernel
theorem dX0_gather_82 : decode cX0_gather 82 = .ok (.getfield 31, 3) := by decide +kernel
theorem dX0_gather_85 : decode cX0_gather 85 = .ok (.invokevirtual 44, 3) := by decide +kernel
theorem dX0_gather_88 : decode cX0_gather 88 = .ok (.return_, 1) := by decide +kernel
theorem dX0_unite_0 : decode cX0_unite 0 = .ok (.aload_n 0, 1) := by decide +kernel
theorem dX0_unite_1 : decode cX0_unite 1 = .ok (.getfield 9, 3) := by decide +kernel
theorem dX0_unite_4 : decode cX0_unite 4 = .ok (.iload_n 1, 1) := by decide +kernel
theorem dX0_unite_5 : decode cX0_unite 5 = .ok (.iaload, 1) := by decide +kernel
theorem dX0_unite_6 : decode cX0_unite 6 = .ok (.aload_n 0, 1) := by decide +kernel
theorem dX0_unite_7 : decode cX0_unite 7 = .ok (.getfield 9, 3) := by decide +kernel
theorem dX0_unite_10 : decode cX0_unite 10 = .ok (.iload_n 2, 1) := by decide +kernel
theorem dX0_unite_11 : decode cX0_unite 11 = .ok (.iaload, 1) := by decide +kernel
theorem dX0_unite_12 : decode cX0_unite 12 = .ok (.invokestatic 48, 3) := by decide +kernel
theorem dX0_unite_15 : decode cX0_unite 15 = .ok (.istore_n 3, 1) := by decide +kernel
theorem dX0_unite_16 : decode cX0_unite 16 = .ok (.aload_n 0, 1) := by decide +kernel
theorem dX0_unite_17 : decode cX0_unite 17 = .ok (.getfield 9, 3) := by decide +kernel
theorem dX0_unite_20 : decode cX0_unite 20 = .ok (.iload_n 1, 1) := by decide +kernel
theorem dX0_unite_21 : decode cX0_unite 21 = .ok (.iaload, 1) := by decide +kernel
theorem dX0_unite_22 : decode cX0_unite 22 = .ok (.aload_n 0, 1) := by decide +kernel
theorem dX0_unite_23 : decode cX0_unite 23 = .ok (.getfield 9, 3) := by decide +kernel
theorem dX0_unite_26 : decode cX0_unite 26 = .ok (.iload_n 2, 1) := by decide +kernel
theorem dX0_unite_27 : decode cX0_unite 27 = .ok (.iaload, 1) := by decide +kernel
theorem dX0_unite_28 : decode cX0_unite 28 = .ok (.invokestatic 54, 3) := by decide +kernel
theorem dX0_unite_31 : decode cX0_unite 31 = .ok (.istore 4, 2) := by decide +kernel
theorem dX0_unite_33 : decode cX0_unite 33 = .ok (.iconst 0, 1) := by decide +kernel
theorem dX0_unite_34 : decode cX0_unite 34 = .ok (.istore 5, 2) := by decide +kernel
theorem dX0_unite_36 : decode cX0_unite 36 = .ok (.iload 5, 2) := by decide +kernel
theorem dX0_unite_38 : decode cX0_unite 38 = .ok (.iload_n 1, 1) := by decide +kernel
theorem dX0_unite_39 : decode cX0_unite 39 = .ok (.if_icmp .gt 29, 3) := by decide +kernel
theorem dX0_unite_42 : decode cX0_unite 42 = .ok (.aload_n 0, 1) := by decide +kernel
theorem dX0_unite_43 : decode cX0_unite 43 = .ok (.getfield 9, 3) := by decide +kernel
theorem dX0_unite_46 : decode cX0_unite 46 = .ok (.iload 5, 2) := by decide +kernel
theorem dX0_unite_48 : decode cX0_unite 48 = .ok (.iaload, 1) := by decide +kernel
theorem dX0_unite_49 : decode cX0_unite 49 = .ok (.iload 4, 2) := by decide +kernel
theorem dX0_unite_51 : decode cX0_unite 51 = .ok (.if_icmp .ne 11, 3) := by decide +kernel
theorem dX0_unite_54 : decode cX0_unite 54 = .ok (.aload_n 0, 1) := by decide +kernel
theorem dX0_unite_55 : decode cX0_unite 55 = .ok (.getfield 9, 3) := by decide +kernel
theorem dX0_unite_58 : decode cX0_unite 58 = .ok (.iload 5, 2) := by decide +kernel
theorem dX0_unite_60 : decode cX0_unite 60 = .ok (.iload_n 3, 1) := by decide +kernel
theorem dX0_unite_61 : decode cX0_unite 61 = .ok (.iastore, 1) := by decide +kernel
theorem dX0_unite_62 : decode cX0_unite 62 = .ok (.iinc 5 1, 3) := by decide +kernel
theorem dX0_unite_65 : decode cX0_unite 65 = .ok (.goto (-29), 3) := by decide +kernel
theorem dX0_unite_68 : decode cX0_unite 68 = .ok (.return_, 1) := by decide +kernel
theorem dX0_giveNumbers_0 : decode cX0_giveNumbers 0 = .ok (.aload_n 0, 1) := by decide +kernel
theorem dX0_giveNumbers_1 : decode cX0_giveNumbers 1 = .ok (.iconst 0, 1) := by decide +kernel
theorem dX0_giveNumbers_2 : decode cX0_giveNumbers 2 = .ok (.putfield 57, 3) := by decide +kernel
theorem dX0_giveNumbers_5 : decode cX0_giveNumbers 5 = .ok (.iconst 0, 1) := by decide +kernel
theorem dX0_giveNumbers_6 : decode cX0_giveNumbers 6 = .ok (.istore_n 2, 1) := by decide +kernel
theorem dX0_giveNumbers_7 : decode cX0_giveNumbers 7 = .ok (.iload_n 2, 1) := by decide +kernel
theorem dX0_giveNumbers_8 : decode cX0_giveNumbers 8 = .ok (.iload_n 1, 1) := by decide +kernel
theorem dX0_giveNumbers_9 : decode cX0_giveNumbers 9 = .ok (.if_icmp .ge 59, 3) := by decide +kernel
theorem dX0_giveNumbers_12 : decode cX0_giveNumbers 12 = .ok (.aload_n 0, 1) := by decide +kernel
theorem dX0_giveNumbers_13 : decode cX0_giveNumbers 13 = .ok (.getfield 9, 3) := by decide +kernel
theorem dX0_giveNumbers_16 : decode cX0_giveNumbers 16 = .ok (.iload_n 2, 1) := by decide +kernel
theorem dX0_giveNumbers_17 : decode cX0_giveNumbers 17 = .ok (.iaload, 1) := by decide +kernel
theorem dX0_giveNumbers_18 : decode cX0_giveNumbers 18 = .ok (.iload_n 2, 1) := by decide +kernel
theorem dX0_giveNumbers_19 : decode cX0_giveNumbers 19 = .ok (.if_icmp .ne 26, 3) := by decide +kernel
theorem dX0_giveNumbers_22 : decode cX0_giveNumbers 22 = .ok (.aload_n 0, 1) := by decide +kernel
theorem dX0_giveNumbers_23 : decode cX0_giveNumbers 23 = .ok (.getfield 15, 3) := by decide +kernel
theorem dX0_giveNumbers_26 : decode cX0_giveNumbers 26 = .ok (.iload_n 2, 1) := by decide +kernel
theorem dX0_giveNumbers_27 : decode cX0_giveNumbers 27 = .ok (.aload_n 0, 1) := by decide +kernel
theorem dX0_giveNumbers_28 : decode cX0_giveNumbers 28 = .ok (.getfield 57, 3) := by decide +kernel
theorem dX0_giveNumbers_31 : decode cX0_giveNumbers 31 = .ok (.iastore, 1) := by decide +kernel
theorem dX0_giveNumbers_32 : decode cX0_giveNumbers 32 = .ok (.aload_n 0, 1) := by decide +kernel
theorem dX0_giveNumbers_33 : decode cX0_giveNumbers 33 = .ok (.dup, 1) := by decide +kernel
theorem dX0_giveNumbers_34 : decode cX0_giveNumbers 34 = .ok (.getfield 57, 3) := by decide +kernel
theorem dX0_giveNumbers_37 : decode cX0_giveNumbers 37 = .ok (.iconst 1, 1) := by decide +kernel
theorem dX0_giveNumbers_38 : decode cX0_giveNumbers 38 = .ok (.iadd, 1) := by decide +kernel
theorem dX0_giveNumbers_39 : decode cX0_giveNumbers 39 = .ok (.putfield 57, 3) := by decide +kernel
theorem dX0_giveNumbers_42 : decode cX0_giveNumbers 42 = .ok (.goto 20, 3) := by decide +kernel
theorem dX0_giveNumbers_45 : decode cX0_giveNumbers 45 = .ok (.aload_n 0, 1) := by decide +kernel
theorem dX0_giveNumbers_46 : decode cX0_giveNumbers 46 = .ok (.getfield 15, 3) := by decide +kernel
theorem dX0_giveNumbers_49 : decode cX0_giveNumbers 49 = .ok (.iload_n 2, 1) := by decide +kernel
theorem dX0_giveNumbers_50 : decode cX0_giveNumbers 50 = .ok (.aload_n 0, 1) := by decide +kernel
theorem dX0_giveNumbers_51 : decode cX0_giveNumbers 51 = .ok (.getfield 15, 3) := by decide +kernel
theorem dX0_giveNumbers_54 : decode cX0_giveNumbers 54 = .ok (.aload_n 0, 1) := by decide +kernel
theorem dX0_giveNumbers_55 : decode cX0_giveNumbers 55 = .ok (.getfield 9, 3) := by decide +kernel
theorem dX0_giveNumbers_58 : decode cX0_giveNumbers 58 = .ok (.iload_n 2, 1) := by decide +kernel
theorem dX0_giveNumbers_59 : decode cX0_giveNumbers 59 = .ok (.iaload, 1) := by decide +kernel
theorem dX0_giveNumbers_60 : decode cX0_giveNumbers 60 = .ok (.iaload, 1) := by decide +kernel
theorem dX0_giveNumbers_61 : decode cX0_giveNumbers 61 = .ok (.iastore, 1) := by decide +kernel
theorem dX0_giveNumbers_62 : decode cX0_giveNumbers 62 = .ok (.iinc 2 1, 3) := by decide +kernel
theorem dX0_giveNumbers_65 : decode cX0_giveNumbers 65 = .ok (.goto (-58), 3) := by decide +kernel
theorem dX0_giveNumbers_68 : decode cX0_giveNumbers 68 = .ok (.return_, 1) := by decide +kernel
theorem dX1_init_0 : decode cX1_init 0 = .ok (.aload_n 0, 1) := by decide +kernel
theorem dX1_init_1 : decode cX1_init 1 = .ok (.invokespecial 3, 3) := by decide +kernel
theorem dX1_init_4 : decode cX1_init 4 = .ok (.aload_n 0, 1) := by decide +kernel
theorem dX1_init_5 : decode cX1_init 5 = .ok (.bipush 10, 2) := by decide +kernel
theorem dX1_init_7 : decode cX1_init 7 = .ok (.bipush 10, 2) := by decide +kernel
theorem dX1_init_9 : decode cX1_init 9 = .ok (.multianewarray 9 2, 4) := by decide +kernel
theorem dX1_init_13 : decode cX1_init 13 = .ok (.putfield 11, 3) := by decide +kernel
theorem dX1_init_16 : decode cX1_init 16 = .ok (.return_, 1) := by decide +kernel
theorem dX1_add_0 : decode cX1_add 0 = .ok (.aload_n 0, 1) := by decide +kernel
theorem dX1_add_1 : decode cX1_add 1 = .ok (.getfield 16, 3) := by decide +kernel
theorem dX1_add_4 : decode cX1_add 4 = .ok (.bipush 10, 2) := by decide +kernel
theorem dX1_add_6 : decode cX1_add 6 = .ok (.if_icmp .ge 10, 3) := by decide +kernel
theorem dX1_add_9 : decode cX1_add 9 = .ok (.aload_n 1, 1) := by decide +kernel
theorem dX1_add_10 : decode cX1_add 10 = .ok (.arraylength, 1) := by decide +kernel
theorem dX1_add_11 : decode cX1_add 11 = .ok (.bipush 10, 2) := by decide +kernel
theorem dX1_add_13 : decode cX1_add 13 = .ok (.if_icmp .ge 5, 3) := by decide +kernel
theorem dX1_add_16 : decode cX1_add 16 = .ok (.iconst (-1), 1) := by decide +kernel
theorem dX1_add_17 : decode cX1_add 17 = .ok (.ireturn, 1) := by decide +kernel
theorem dX1_add_18 : decode cX1_add 18 = .ok (.iconst 0, 1) := by decide +kernel
theorem dX1_add_19 : decode cX1_add 19 = .ok (.istore_n 2, 1) := by decide +kernel
theorem dX1_add_20 : decode cX1_add 20 = .ok (.iload_n 2, 1) := by decide +kernel
theorem dX1_add_21 : decode cX1_add 21 = .ok (.bipush 10, 2) := by decide +kernel
theorem dX1_add_23 : decode cX1_add 23 = .ok (.if_icmp .ge 23, 3) := by decide +kernel
theorem dX1_add_26 : decode cX1_add 26 = .ok (.aload_n 0, 1) := by decide +kernel
theorem dX1_add_27 : decode cX1_add 27 = .ok (.getfield 11, 3) := by decide +kernel
theorem dX1_add_30 : decode cX1_add 30 = .ok (.aload_n 0, 1) := by decide +kernel
theorem dX1_add_31 : decode cX1_add 31 = .ok (.getfield 16, 3) := by decide +kernel
theorem dX1_add_34 : decode cX1_add 34 = .ok (.aaload, 1) := by decide +kernel
theorem dX1_add_35 : decode cX1_add 35 = .ok (.iload_n 2, 1) := by decide +kernel
theorem dX1_add_36 : decode cX1_add 36 = .ok (.aload_n 1, 1) := by decide +kernel
theorem dX1_add_37 : decode cX1_add 37 = .ok (.iload_n 2, 1) := by decide +kernel
theorem dX1_add_38 : decode cX1_add 38 = .ok (.iaload, 1) := by decide +kernel
theorem dX1_add_39 : decode cX1_add 39 = .ok (.iastore, 1) := by decide +kernel
theorem dX1_add_40 : decode cX1_add 40 = .ok (.iinc 2 1, 3) := by decide +kernel
theorem dX1_add_43 : decode cX1_add 43 = .ok (.goto (-23), 3) := by decide +kernel
theorem dX1_add_46 : decode cX1_add 46 = .ok (.aload_n 0, 1) := by decide +kernel
theorem dX1_add_47 : decode cX1_add 47 = .ok (.dup, 1) := by decide +kernel
theorem dX1_add_48 : decode cX1_add 48 = .ok (.getfield 16, 3) := by decide +kernel
theorem dX1_add_51 : decode cX1_add 51 = .ok (.iconst 1, 1) := by decide +kernel
theorem dX1_add_52 : decode cX1_add 52 = .ok (.iadd, 1) := by decide +kernel
theorem dX1_add_53 : decode cX1_add 53 = .ok (.putfield 16, 3) := by decide +kernel
theorem dX1_add_56 : decode cX1_add 56 = .ok (.aload_n 0, 1) := by decide +kernel
theorem dX1_add_57 : decode cX1_add 57 = .ok (.getfield 16, 3) := by decide +kernel
theorem dX1_add_60 : decode cX1_add 60 = .ok (.iconst 1, 1) := by decide +kernel
theorem dX1_add_61 : decode cX1_add 61 = .ok (.isub, 1) := by decide +kernel
theorem dX1_add_62 : decode cX1_add 62 = .ok (.ireturn, 1) := by decide +kernel
theorem dX1_judge_0 : decode cX1_judge 0 = .ok (.aload_n 0, 1) := by decide +kernel
theorem dX1_judge_1 : decode cX1_judge 1 = .ok (.iload_n 1, 1) := by decide +kernel
theorem dX1_judge_2 : decode cX1_judge 2 = .ok (.iconst 0, 1) := by decide +kernel
theorem dX1_judge_3 : decode cX1_judge 3 = .ok (.aload_n 2, 1) := by decide +kernel
theorem dX1_judge_4 : decode cX1_judge 4 = .ok (.getfield 20, 3) := by decide +kernel
theorem dX1_judge_7 : decode cX1_judge 7 = .ok (.aload_n 2, 1) := by decide +kernel
theorem dX1_judge_8 : decode cX1_judge 8 = .ok (.getfield 20, 3) := by decide +kernel
theorem dX1_judge_11 : decode cX1_judge 11 = .ok (.invokevirtual 25, 3) := by decide +kernel
theorem dX1_judge_14 : decode cX1_judge 14 = .ok (.ifCond .ne 5, 3) := by decide +kernel
theorem dX1_judge_17 : decode cX1_judge 17 = .ok (.iconst 1, 1) := by decide +kernel
theorem dX1_judge_18 : decode cX1_judge 18 = .ok (.ireturn, 1) := by decide +kernel
theorem dX1_judge_19 : decode cX1_judge 19 = .ok (.aload_n 0, 1) := by decide +kernel
theorem dX1_judge_20 : decode cX1_judge 20 = .ok (.iload_n 1, 1) := by decide +kernel
theorem dX1_judge_21 : decode cX1_judge 21 = .ok (.iconst 2, 1) := by decide +kernel
theorem dX1_judge_22 : decode cX1_judge 22 = .ok (.aload_n 2, 1) := by decide +kernel
theorem dX1_judge_23 : decode cX1_judge 23 = .ok (.getfield 29, 3) := by decide +kernel
theorem dX1_judge_26 : decode cX1_judge 26 = .ok (.aload_n 2, 1) := by decide +kernel
theorem dX1_judge_27 : decode cX1_judge 27 = .ok (.getfield 32, 3) := by decide +kernel
theorem dX1_judge_30 : decode cX1_judge 30 = .ok (.invokevirtual 25, 3) := by decide +kernel
theorem dX1_judge_33 : decode cX1_judge 33 = .ok (.ifCond .ne 5, 3) := by decide +kernel
theorem dX1_judge_36 : decode cX1_judge 36 = .ok (.iconst 2, 1) := by decide +kernel
theorem dX1_judge_37 : decode cX1_judge 37 = .ok (.ireturn, 1) := by decide +kernel
theorem dX1_judge_38 : decode cX1_judge 38 = .ok (.iconst 0, 1) := by decide +kernel
theorem dX1_judge_39 : decode cX1_judge 39 = .ok (.istore 4, 2) := by decide +kernel
theorem dX1_judge_41 : decode cX1_judge 41 = .ok (.iload 4, 2) := by decide +kernel
theorem dX1_judge_43 : decode cX1_judge 43 = .ok (.aload_n 2, 1) := by decide +kernel
theorem dX1_judge_44 : decode cX1_judge 44 = .ok (.getfield 35, 3) := by decide +kernel
theorem dX1_judge_47 : decode cX1_judge 47 = .ok (.if_icmp .ge 42, 3) := by decide +kernel
theorem dX1_judge_50 : decode cX1_judge 50 = .ok (.aload_n 2, 1) := by decide +kernel
theorem dX1_judge_51 : decode cX1_judge 51 = .ok (.getfield 36, 3) := by decide +kernel
theorem dX1_judge_54 : decode cX1_judge 54 = .ok (.iload 4, 2) := by decide +kernel
theorem dX1_judge_56 : decode cX1_judge 56 = .ok (.iaload, 1) := by decide +kernel
theorem dX1_judge_57 : decode cX1_judge 57 = .ok (.istore 5, 2) := by decide +kernel
theorem dX1_judge_59 : decode cX1_judge 59 = .ok (.aload_n 0, 1) := by decide +kernel
theorem dX1_judge_60 : decode cX1_judge 60 = .ok (.iload_n 1, 1) := by decide +kernel
theorem dX1_judge_61 : decode cX1_judge 61 = .ok (.aload_n 3, 1) := by decide +kernel
theorem dX1_judge_62 : decode cX1_judge 62 = .ok (.getfield 40, 3) := by decide +kernel
theorem dX1_judge_65 : decode cX1_judge 65 = .ok (.iload 5, 2) := by decide +kernel
theorem dX1_judge_67 : decode cX1_judge 67 = .ok (.iaload, 1) := by decide +kernel
theorem dX1_judge_68 : decode cX1_judge 68 = .ok (.aload_n 3, 1) := by decide +kernel
theorem dX1_judge_69 : decode cX1_judge 69 = .ok (.getfield 45, 3) := by decide +kernel
theorem dX1_judge_72 : decode cX1_judge 72 = .ok (.iload 5, 2) := by decide +kernel
theorem dX1_judge_74 : decode cX1_judge 74 = .ok (.iaload, 1) := by decide +kernel
theorem dX1_judge_75 : decode cX1_judge 75 = .ok (.invokevirtual 48, 3) := by decide +kernel
theorem dX1_judge_78 : decode cX1_judge 78 = .ok (.ifCond .ne 5, 3) := by decide +kernel
theorem dX1_judge_81 : decode cX1_judge 81 = .ok (.iconst 3, 1) := by decide +kernel
theorem dX1_judge_82 : decode cX1_judge 82 = .ok (.ireturn, 1) := by decide +kernel
theorem dX1_judge_83 : decode cX1_judge 83 = .ok (.iinc 4 1, 3) := by decide +kernel
theorem dX1_judge_86 : decode cX1_judge 86 = .ok (.goto (-45), 3) := by decide +kernel
theorem dX1_judge_89 : decode cX1_judge 89 = .ok (.aload_n 0, 1) := by decide +kernel
theorem dX1_judge_90 : decode cX1_judge 90 = .ok (.iload_n 1, 1) := by decide +kernel
theorem dX1_judge_91 : decode cX1_judge 91 = .ok (.aload_n 2, 1) := by decide +kernel
theorem dX1_judge_92 : decode cX1_judge 92 = .ok (.getfield 52, 3) := by decide +kernel
theorem dX1_judge_95 : decode cX1_judge 95 = .ok (.invokevirtual 55, 3) := by decide +kernel
theorem dX1_judge_98 : decode cX1_judge 98 = .ok (.ireturn, 1) := by decide +kernel
theorem dX1_allows_0 : decode cX1_allows 0 = .ok (.iload_n 3, 1) := by decide +kernel
theorem dX1_allows_1 : decode cX1_allows 1 = .ok (.aload_n 0, 1) := by decide +kernel
theorem dX1_allows_2 : decode cX1_allows 2 = .ok (.getfield 11, 3) := by decide +kernel
theorem dX1_allows_5 : decode cX1_allows 5 = .ok (.iload_n 1, 1) := by decide +kernel
theorem dX1_allows_6 : decode cX1_allows 6 = .ok (.aaload, 1) := by decide +kernel
theorem dX1_allows_7 : decode cX1_allows 7 = .ok (.iconst 2, 1) := by decide +kernel
theorem dX1_allows_8 : decode cX1_allows 8 = .ok (.iload_n 2, 1) := by decide +kernel
theorem dX1_allows_9 : decode cX1_allows 9 = .ok (.imul, 1) := by decide +kernel
theorem dX1_allows_10 : decode cX1_allows 10 = .ok (.iaload, 1) := by decide +kernel
theorem dX1_allows_11 : decode cX1_allows 11 = .ok (.if_icmp .lt 24, 3) := by decide +kernel
theorem dX1_allows_14 : decode cX1_allows 14 = .ok (.iload 4, 2) := by decide +kernel
theorem dX1_allows_16 : decode cX1_allows 16 = .ok (.aload_n 0, 1) := by decide +kernel
theorem dX1_allows_17 : decode cX1_allows 17 = .ok (.getfield 11, 3) := by decide +kernel
theorem dX1_allows_20 : decode cX1_allows 20 = .ok (.iload_n 1, 1) := by decide +kernel
theorem dX1_allows_21 : decode cX1_allows 21 = .ok (.aaload, 1) := by decide +kernel
theorem dX1_allows_22 : decode cX1_allows 22 = .ok (.iconst 2, 1) := by decide +kernel
theorem dX1_allows_23 : decode cX1_allows 23 = .ok (.iload_n 2, 1) := by decide +kernel
theorem dX1_allows_24 : decode cX1_allows 24 = .ok (.imul, 1) := by decide +kernel
theorem dX1_allows_25 : decode cX1_allows 25 = .ok (.iconst 1, 1) := by decide +kernel
theorem dX1_allows_26 : decode cX1_allows 26 = .ok (.iadd, 1) := by decide +kernel
theorem dX1_allows_27 : decode cX1_allows 27 = .ok (.iaload, 1) := by decide +kernel
theorem dX1_allows_28 : decode cX1_allows 28 = .ok (.if_icmp .gt 7, 3) := by decide +kernel
theorem dX1_allows_31 : decode cX1_allows 31 = .ok (.iconst 1, 1) := by decide +kernel
theorem dX1_allows_32 : decode cX1_allows 32 = .ok (.goto 4, 3) := by decide +kernel
theorem dX1_allows_35 : decode cX1_allows 35 = .ok (.iconst 0, 1) := by decide +kernel
theorem dX1_allows_36 : decode cX1_allows 36 = .ok (.ireturn, 1) := by decide +kernel
theorem dX1_allowsTime_0 : decode cX1_allowsTime 0 = .ok (.aload_n 0, 1) := by decide +kernel
theorem dX1_allowsTime_1 : decode cX1_allowsTime 1 = .ok (.getfield 11, 3) := by decide +kernel
theorem dX1_allowsTime_4 : decode cX1_allowsTime 4 = .ok (.iload_n 1, 1) := by decide +kernel
theorem dX1_allowsTime_5 : decode cX1_allowsTime 5 = .ok (.aaload, 1) := by decide +kernel
theorem dX1_allowsTime_6 : decode cX1_allowsTime 6 = .ok (.iconst 2, 1) := by decide +kernel
theorem dX1_allowsTime_7 : decode cX1_allowsTime 7 = .ok (.iaload, 1) := by decide +kernel
theorem dX1_allowsTime_8 : decode cX1_allowsTime 8 = .ok (.istore 4, 2) := by decide +kernel
theorem dX1_allowsTime_10 : decode cX1_allowsTime 10 = .ok (.aload_n 0, 1) := by decide +kernel
theorem dX1_allowsTime_11 : decode cX1_allowsTime 11 = .ok (.getfield 11, 3) := by decide +kernel
theorem dX1_allowsTime_14 : decode cX1_allowsTime 14 = .ok (.iload_n 1, 1) := by decide +kernel
theorem dX1_allowsTime_15 : decode cX1_allowsTime 15 = .ok (.aaload, 1) := by decide +kernel
theorem dX1_allowsTime_16 : decode cX1_allowsTime 16 = .ok (.iconst 3, 1) := by decide +kernel
theorem dX1_allowsTime_17 : decode cX1_allowsTime 17 = .ok (.iaload, 1) := by decide +kernel
theorem dX1_allowsTime_18 : decode cX1_allowsTime 18 = .ok (.iload 4, 2) := by decide +kernel
theorem dX1_allowsTime_20 : decode cX1_allowsTime 20 = .ok (.isub, 1) := by decide +kernel
theorem dX1_allowsTime_21 : decode cX1_allowsTime 21 = .ok (.sipush 1440, 3) := by decide +kernel
theorem dX1_allowsTime_24 : decode cX1_allowsTime 24 = .ok (.invokestatic 59, 3) := by decide +kernel
theorem dX1_allowsTime_27 : decode cX1_allowsTime 27 = .ok (.istore 5, 2) := by decide +kernel
theorem dX1_allowsTime_29 : decode cX1_allowsTime 29 = .ok (.iload 5, 2) := by decide +kernel
theorem dX1_allowsTime_31 : decode cX1_allowsTime 31 = .ok (.sipush 1439, 3) := by decide +kernel
theorem dX1_allowsTime_34 : decode cX1_allowsTime 34 = .ok (.if_icmp .eq 22, 3) := by decide +kernel
theorem dX1_allowsTime_37 : decode cX1_allowsTime 37 = .ok (.iload_n 2, 1) := by decide +kernel
theorem dX1_allowsTime_38 : decode cX1_allowsTime 38 = .ok (.iload 4, 2) := by decide +kernel
theorem dX1_allowsTime_40 : decode cX1_allowsTime 40 = .ok (.isub, 1) := by decide +kernel
theorem dX1_allowsTime_41 : decode cX1_allowsTime 41 = .ok (.sipush 1440, 3) := by decide +kernel
theorem dX1_allowsTime_44 : decode cX1_allowsTime 44 = .ok (.invokestatic 59, 3) := by decide +kernel
theorem dX1_allowsTime_47 : decode cX1_allowsTime 47 = .ok (.iload_n 3, 1) := by decide +kernel
theorem dX1_allowsTime_48 : decode cX1_allowsTime 48 = .ok (.iadd, 1) := by decide +kernel
theorem dX1_allowsTime_49 : decode cX1_allowsTime 49 = .ok (.iload_n 2, 1) := by decide +kernel
theorem dX1_allowsTime_50 : decode cX1_allowsTime 50 = .ok (.isub, 1) := by decide +kernel
theorem dX1_allowsTime_51 : decode cX1_allowsTime 51 = .ok (.iload 5, 2) := by decide +kernel
theorem dX1_allowsTime_53 : decode cX1_allowsTime 53 = .ok (.if_icmp .gt 7, 3) := by decide +kernel
theorem dX1_allowsTime_56 : decode cX1_allowsTime 56 = .ok (.iconst 1, 1) := by decide +kernel
theorem dX1_allowsTime_57 : decode cX1_allowsTime 57 = .ok (.goto 4, 3) := by decide +kernel
theorem dX1_allowsTime_60 : decode cX1_allowsTime 60 = .ok (.iconst 0, 1) := by decide +kernel
theorem dX1_allowsTime_61 : decode cX1_allowsTime 61 = .ok (.ireturn, 1) := by decide +kernel
theorem dX1_judgeFields_0 : decode cX1_judgeFields 0 = .ok (.aload_n 0, 1) := by decide +kernel
theorem dX1_judgeFields_1 : decode cX1_judgeFields 1 = .ok (.getfield 11, 3) := by decide +kernel
theorem dX1_judgeFields_4 : decode cX1_judgeFields 4 = .ok (.iload_n 1, 1) := by decide +kernel
theorem dX1_judgeFields_5 : decode cX1_judgeFields 5 = .ok (.aaload, 1) := by decide +kernel
theorem dX1_judgeFields_6 : decode cX1_judgeFields 6 = .ok (.bipush 6, 2) := by decide +kernel
theorem dX1_judgeFields_8 : decode cX1_judgeFields 8 = .ok (.iaload, 1) := by decide +kernel
theorem dX1_judgeFields_9 : decode cX1_judgeFields 9 = .ok (.istore_n 3, 1) := by decide +kernel
theorem dX1_judgeFields_10 : decode cX1_judgeFields 10 = .ok (.aload_n 0, 1) := by decide +kernel
theorem dX1_judgeFields_11 : decode cX1_judgeFields 11 = .ok (.getfield 11, 3) := by decide +kernel
theorem dX1_judgeFields_14 : decode cX1_judgeFields 14 = .ok (.iload_n 1, 1) := by decide +kernel
theorem dX1_judgeFields_15 : decode cX1_judgeFields 15 = .ok (.aaload, 1) := by decide +kernel
theorem dX1_judgeFields_16 : decode cX1_judgeFields 16 = .ok (.bipush 7, 2) := by decide +kernel
theorem dX1_judgeFields_18 : decode cX1_judgeFields 18 = .ok (.iaload, 1) := by decide +kernel
theorem dX1_judgeFields_19 : decode cX1_judgeFields 19 = .ok (.istore 4, 2) := by decide +kernel
theorem dX1_judgeFields_21 : decode cX1_judgeFields 21 = .ok (.iconst (-1), 1) := by decide +kernel
theorem dX1_judgeFields_22 : decode cX1_judgeFields 22 = .ok (.bipush 31, 2) := by decide +kernel
theorem dX1_judgeFields_24 : decode cX1_judgeFields 24 = .ok (.iload 4, 2) := by decide +kernel
theorem dX1_judgeFields_26 : decode cX1_judgeFields 26 = .ok (.iload_n 3, 1) := by decide +kernel
theorem dX1_judgeFields_27 : decode cX1_judgeFields 27 = .ok (.isub, 1) := by decide +kernel
theorem dX1_judgeFields_28 : decode cX1_judgeFields 28 = .ok (.isub, 1) := by decide +kernel
theorem dX1_judgeFields_29 : decode cX1_judgeFields 29 = .ok (.iushr, 1) := by decide +kernel
theorem dX1_judgeFields_30 : decode cX1_judgeFields 30 = .ok (.iload_n 3, 1) := by decide +kernel
theorem dX1_judgeFields_31 : decode cX1_judgeFields 31 = .ok (.ishl, 1) := by decide +kernel
theorem dX1_judgeFields_32 : decode cX1_judgeFields 32 = .ok (.istore 5, 2) := by decide +kernel
theorem dX1_judgeFields_34 : decode cX1_judgeFields 34 = .ok (.iconst 0, 1) := by decide +kernel
theorem dX1_judgeFields_35 : decode cX1_judgeFields 35 = .ok (.istore 6, 2) := by decide +kernel
theorem dX1_judgeFields_37 : decode cX1_judgeFields 37 = .ok (.iconst 1, 1) := by decide +kernel
theorem dX1_judgeFields_38 : decode cX1_judgeFields 38 = .ok (.istore 7, 2) := by decide +kernel
theorem dX1_judgeFields_40 : decode cX1_judgeFields 40 = .ok (.iconst 0, 1) := by decide +kernel
theorem dX1_judgeFields_41 : decode cX1_judgeFields 41 = .ok (.istore 8, 2) := by decide +kernel
theorem dX1_judgeFields_43 : decode cX1_judgeFields 43 = .ok (.iload 8, 2) := by decide +kernel
theorem dX1_judgeFields_45 : decode cX1_judgeFields 45 = .ok (.bipush 32, 2) := by decide +kernel
theorem dX1_judgeFields_47 : decode cX1_judgeFields 47 = .ok (.if_icmp .ge 69, 3) := by decide +kernel
theorem dX1_judgeFields_50 : decode cX1_judgeFields 50 = .ok (.aload_n 0, 1) := by decide +kernel
theorem dX1_judgeFields_51 : decode cX1_judgeFields 51 = .ok (.iload_n 1, 1) := by decide +kernel
theorem dX1_judgeFields_52 : decode cX1_judgeFields 52 = .ok (.iconst 4, 1) := by decide +kernel
theorem dX1_judgeFields_53 : decode cX1_judgeFields 53 = .ok (.iload 8, 2) := by decide +kernel
theorem dX1_judgeFields_55 : decode cX1_judgeFields 55 = .ok (.iload 8, 2) := by decide +kernel
theorem dX1_judgeFields_57 : decode cX1_judgeFields 57 = .ok (.invokevirtual 25, 3) := by decide +kernel
theorem dX1_judgeFields_60 : decode cX1_judgeFields 60 = .ok (.ifCond .eq 13, 3) := by decide +kernel
theorem dX1_judgeFields_63 : decode cX1_judgeFields 63 = .ok (.aload_n 2, 1) := by decide +kernel
theorem dX1_judgeFields_64 : decode cX1_judgeFields 64 = .ok (.iload 8, 2) := by decide +kernel
theorem dX1_judgeFields_66 : decode cX1_judgeFields 66 = .ok (.iaload, 1) := by decide +kernel
theorem dX1_judgeFields_67 : decode cX1_judgeFields 67 = .ok (.iload 5, 2) := by decide +kernel
theorem dX1_judgeFields_69 : decode cX1_judgeFields 69 = .ok (.iand, 1) := by decide +kernel
theorem dX1_judgeFields_70 : decode cX1_judgeFields 70 = .ok (.goto 4, 3) := by decide +kernel
theorem dX1_judgeFields_73 : decode cX1_judgeFields 73 = .ok (.iconst 0, 1) := by decide +kernel
theorem dX1_judgeFields_74 : decode cX1_judgeFields 74 = .ok (.istore 9, 2) := by decide +kernel
theorem dX1_judgeFields_76 : decode cX1_judgeFields 76 = .ok (.iload 6, 2) := by decide +kernel
theorem dX1_judgeFields_78 : decode cX1_judgeFields 78 = .ok (.iload 9, 2) := by decide +kernel
theorem dX1_judgeFields_80 : decode cX1_judgeFields 80 = .ok (.ifCond .eq 7, 3) := by decide +kernel
theorem dX1_judgeFields_83 : decode cX1_judgeFields 83 = .ok (.iconst 1, 1) := by decide +kernel
theorem dX1_judgeFields_84 : decode cX1_judgeFields 84 = .ok (.goto 4, 3) := by decide +kernel
theorem dX1_judgeFields_87 : decode cX1_judgeFields 87 = .ok (.iconst 0, 1) := by decide +kernel
theorem dX1_judgeFields_88 : decode cX1_judgeFields 88 = .ok (.ior, 1) := by decide +kernel
theorem dX1_judgeFields_89 : decode cX1_judgeFields 89 = .ok (.istore 6, 2) := by decide +kernel
theorem dX1_judgeFields_91 : decode cX1_judgeFields 91 = .ok (.iload 7, 2) := by decide +kernel
theorem dX1_judgeFields_93 : decode cX1_judgeFields 93 = .ok (.iload 9, 2) := by decide +kernel
theorem dX1_judgeFields_95 : decode cX1_judgeFields 95 = .ok (.aload_n 2, 1) := by decide +kernel
theorem dX1_judgeFields_96 : decode cX1_judgeFields 96 = .ok (.iload 8, 2) := by decide +kernel
theorem dX1_judgeFields_98 : decode cX1_judgeFields 98 = .ok (.iaload, 1) := by decide +kernel
theorem dX1_judgeFields_99 : decode cX1_judgeFields 99 = .ok (.if_icmp .ne 7, 3) := by decide +kernel
theorem dX1_judgeFields_102 : decode cX1_judgeFields 102 = .ok (.iconst 1, 1) := by decide +kernel
theorem dX1_judgeFields_103 : decode cX1_judgeFields 103 = .ok (.goto 4, 3) := by decide +kernel
theorem dX1_judgeFields_106 : decode cX1_judgeFields 106 = .ok (.iconst 0, 1) := by decide +kernel
theorem dX1_judgeFields_107 : decode cX1_judgeFields 107 = .ok (.iand, 1) := by decide +kernel
theorem dX1_judgeFields_108 : decode cX1_judgeFields 108 = .ok (.istore 7, 2) := by decide +kernel
theorem dX1_judgeFields_110 : decode cX1_judgeFields 110 = .ok (.iinc 8 1, 3) := by decide +kernel
theorem dX1_judgeFields_113 : decode cX1_judgeFields 113 = .ok (.goto (-70), 3) := by decide +kernel
theorem dX1_judgeFields_116 : decode cX1_judgeFields 116 = .ok (.iload 6, 2) := by decide +kernel
theorem dX1_judgeFields_118 : decode cX1_judgeFields 118 = .ok (.ifCond .ne 5, 3) := by decide +kernel
theorem dX1_judgeFields_121 : decode cX1_judgeFields 121 = .ok (.iconst 4, 1) := by decide +kernel
theorem dX1_judgeFields_122 : decode cX1_judgeFields 122 = .ok (.ireturn, 1) := by decide +kernel
theorem dX1_judgeFields_123 : decode cX1_judgeFields 123 = .ok (.iload 7, 2) := by decide +kernel
theorem dX1_judgeFields_125 : decode cX1_judgeFields 125 = .ok (.ifCond .eq 7, 3) := by decide +kernel
theorem dX1_judgeFields_128 : decode cX1_judgeFields 128 = .ok (.iconst 0, 1) := by decide +kernel
theorem dX1_judgeFields_129 : decode cX1_judgeFields 129 = .ok (.goto 4, 3) := by decide +kernel
theorem dX1_judgeFields_132 : decode cX1_judgeFields 132 = .ok (.iconst 5, 1) := by decide +kernel
theorem dX1_judgeFields_133 : decode cX1_judgeFields 133 = .ok (.ireturn, 1) := by decide +kernel
theorem dX1_choose_0 : decode cX1_choose 0 = .ok (.iconst (-1), 1) := by decide +kernel
theorem dX1_choose_1 : decode cX1_choose 1 = .ok (.istore_n 3, 1) := by decide +kernel
theorem dX1_choose_2 : decode cX1_choose 2 = .ok (.bipush 6, 2) := by decide +kernel
theorem dX1_choose_4 : decode cX1_choose 4 = .ok (.istore 4, 2) := by decide +kernel
theorem dX1_choose_6 : decode cX1_choose 6 = .ok (.iconst 0, 1) := by decide +kernel
theorem dX1_choose_7 : decode cX1_choose 7 = .ok (.istore 5, 2) := by decide +kernel
theorem dX1_choose_9 : decode cX1_choose 9 = .ok (.iload 5, 2) := by decide +kernel
theorem dX1_choose_11 : decode cX1_choose 11 = .ok (.aload_n 0, 1) := by decide +kernel
theorem dX1_choose_12 : decode cX1_choose 12 = .ok (.getfield 16, 3) := by decide +kernel
theorem dX1_choose_15 : decode cX1_choose 15 = .ok (.if_icmp .ge 39, 3) := by decide +kernel
theorem dX1_choose_18 : decode cX1_choose 18 = .ok (.bipush 6, 2) := by decide +kernel
theorem dX1_choose_20 : decode cX1_choose 20 = .ok (.aload_n 0, 1) := by decide +kernel
theorem dX1_choose_21 : decode cX1_choose 21 = .ok (.iload 5, 2) := by decide +kernel
theorem dX1_choose_23 : decode cX1_choose 23 = .ok (.aload_n 1, 1) := by decide +kernel
theorem dX1_choose_24 : decode cX1_choose 24 = .ok (.aload_n 2, 1) := by decide +kernel
theorem dX1_choose_25 : decode cX1_choose 25 = .ok (.invokevirtual 65, 3) := by decide +kernel
theorem dX1_choose_28 : decode cX1_choose 28 = .ok (.isub, 1) := by decide +kernel
theorem dX1_choose_29 : decode cX1_choose 29 = .ok (.bipush 6, 2) := by decide +kernel
theorem dX1_choose_31 : decode cX1_choose 31 = .ok (.irem, 1) := by decide +kernel
theorem dX1_choose_32 : decode cX1_choose 32 = .ok (.istore 6, 2) := by decide +kernel
theorem dX1_choose_34 : decode cX1_choose 34 = .ok (.iload 6, 2) := by decide +kernel
theorem dX1_choose_36 : decode cX1_choose 36 = .ok (.iload 4, 2) := by decide +kernel
theorem dX1_choose_38 : decode cX1_choose 38 = .ok (.if_icmp .ge 10, 3) := by decide +kernel
theorem dX1_choose_41 : decode cX1_choose 41 = .ok (.iload 6, 2) := by decide +kernel
theorem dX1_choose_43 : decode cX1_choose 43 = .ok (.istore 4, 2) := by decide +kernel
theorem dX1_choose_45 : decode cX1_choose 45 = .ok (.iload 5, 2) := by decide +kernel
theorem dX1_choose_47 : decode cX1_choose 47 = .ok (.istore_n 3, 1) := by decide +kernel
theorem dX1_choose_48 : decode cX1_choose 48 = .ok (.iinc 5 1, 3) := by decide +kernel
theorem dX1_choose_51 : decode cX1_choose 51 = .ok (.goto (-42), 3) := by decide +kernel
theorem dX1_choose_54 : decode cX1_choose 54 = .ok (.iload_n 3, 1) := by decide +kernel
theorem dX1_choose_55 : decode cX1_choose 55 = .ok (.ireturn, 1) := by decide +kernel
theorem dX2_init_0 : decode cX2_init 0 = .ok (.aload_n 0, 1) := by decide +kernel
theorem dX2_init_1 : decode cX2_init 1 = .ok (.invokespecial 3, 3) := by decide +kernel
theorem dX2_init_4 : decode cX2_init 4 = .ok (.aload_n 0, 1) := by decide +kernel
theorem dX2_init_5 : decode cX2_init 5 = .ok (.new 9, 3) := by decide +kernel
theorem dX2_init_8 : decode cX2_init 8 = .ok (.dup, 1) := by decide +kernel
theorem dX2_init_9 : decode cX2_init 9 = .ok (.bipush 60, 2) := by decide +kernel
theorem dX2_init_11 : decode cX2_init 11 = .ok (.invokespecial 11, 3) := by decide +kernel
theorem dX2_init_14 : decode cX2_init 14 = .ok (.putfield 14, 3) := by decide +kernel
theorem dX2_init_17 : decode cX2_init 17 = .ok (.aload_n 0, 1) := by decide +kernel
theorem dX2_init_18 : decode cX2_init 18 = .ok (.bipush 60, 2) := by decide +kernel
theorem dX2_init_20 : decode cX2_init 20 = .ok (.newarray .int, 2) := by decide +kernel
theorem dX2_init_22 : decode cX2_init 22 = .ok (.putfield 20, 3) := by decide +kernel
theorem dX2_init_25 : decode cX2_init 25 = .ok (.aload_n 0, 1) := by decide +kernel
theorem dX2_init_26 : decode cX2_init 26 = .ok (.bipush 60, 2) := by decide +kernel
theorem dX2_init_28 : decode cX2_init 28 = .ok (.newarray .boolean, 2) := by decide +kernel
theorem dX2_init_30 : decode cX2_init 30 = .ok (.putfield 24, 3) := by decide +kernel
theorem dX2_init_33 : decode cX2_init 33 = .ok (.aload_n 0, 1) := by decide +kernel
theorem dX2_init_34 : decode cX2_init 34 = .ok (.bipush 60, 2) := by decide +kernel
theorem dX2_init_36 : decode cX2_init 36 = .ok (.bipush 32, 2) := by decide +kernel
theorem dX2_init_38 : decode cX2_init 38 = .ok (.multianewarray 28 2, 4) := by decide +kernel
theorem dX2_init_42 : decode cX2_init 42 = .ok (.putfield 30, 3) := by decide +kernel
theorem dX2_init_45 : decode cX2_init 45 = .ok (.return_, 1) := by decide +kernel
theorem dX2_add_0 : decode cX2_add 0 = .ok (.aload_n 0, 1) := by decide +kernel
theorem dX2_add_1 : decode cX2_add 1 = .ok (.getfield 14, 3) := by decide +kernel
theorem dX2_add_4 : decode cX2_add 4 = .ok (.iload_n 1, 1) := by decide +kernel
theorem dX2_add_5 : decode cX2_add 5 = .ok (.iload_n 2, 1) := by decide +kernel
theorem dX2_add_6 : decode cX2_add 6 = .ok (.iload_n 3, 1) := by decide +kernel
theorem dX2_add_7 : decode cX2_add 7 = .ok (.iload 4, 2) := by decide +kernel
theorem dX2_add_9 : decode cX2_add 9 = .ok (.invokevirtual 33, 3) := by decide +kernel
theorem dX2_add_12 : decode cX2_add 12 = .ok (.istore 6, 2) := by decide +kernel
theorem dX2_add_14 : decode cX2_add 14 = .ok (.iload 6, 2) := by decide +kernel
theorem dX2_add_16 : decode cX2_add 16 = .ok (.iconst (-1), 1) := by decide +kernel
theorem dX2_add_17 : decode cX2_add 17 = .ok (.if_icmp .eq 12, 3) := by decide +kernel
theorem dX2_add_20 : decode cX2_add 20 = .ok (.aload_n 0, 1) := by decide +kernel
theorem dX2_add_21 : decode cX2_add 21 = .ok (.getfield 20, 3) := by decide +kernel
theorem dX2_add_24 : decode cX2_add 24 = .ok (.iload 6, 2) := by decide +kernel
theorem dX2_add_26 : decode cX2_add 26 = .ok (.iload 5, 2) := by decide +kernel
theorem dX2_add_28 : decode cX2_add 28 = .ok (.iastore, 1) := by decide +kernel
theorem dX2_add_29 : decode cX2_add 29 = .ok (.iload 6, 2) := by decide +kernel
theorem dX2_add_31 : decode cX2_add 31 = .ok (.ireturn, 1) := by decide +kernel
theorem dX2_clearFields_0 : decode cX2_clearFields 0 = .ok (.aload_n 0, 1) := by decide +kernel
theorem dX2_clearFields_1 : decode cX2_clearFields 1 = .ok (.getfield 24, 3) := by decide +kernel
theorem dX2_clearFields_4 : decode cX2_clearFields 4 = .ok (.iload_n 1, 1) := by decide +kernel
theorem dX2_clearFields_5 : decode cX2_clearFields 5 = .ok (.baload, 1) := by decide +kernel
theorem dX2_clearFields_6 : decode cX2_clearFields 6 = .ok (.ifCond .ne 20, 3) := by decide +kernel
theorem dX2_clearFields_9 : decode cX2_clearFields 9 = .ok (.aload_n 0, 1) := by decide +kernel
theorem dX2_clearFields_10 : decode cX2_clearFields 10 = .ok (.getfield 24, 3) := by decide +kernel
theorem dX2_clearFields_13 : decode cX2_clearFields 13 = .ok (.iload_n 1, 1) := by decide +kernel
theorem dX2_clearFields_14 : decode cX2_clearFields 14 = .ok (.iconst 1, 1) := by decide +kernel
theorem dX2_clearFields_15 : decode cX2_clearFields 15 = .ok (.bastore, 1) := by decide +kernel
theorem dX2_clearFields_16 : decode cX2_clearFields 16 = .ok (.aload_n 0, 1) := by decide +kernel
theorem dX2_clearFields_17 : decode cX2_clearFields 17 = .ok (.dup, 1) := by decide +kernel
theorem dX2_clearFields_18 : decode cX2_clearFields 18 = .ok (.getfield 37, 3) := by decide +kernel
theorem dX2_clearFields_21 : decode cX2_clearFields 21 = .ok (.iconst 1, 1) := by decide +kernel
theorem dX2_clearFields_22 : decode cX2_clearFields 22 = .ok (.iadd, 1) := by decide +kernel
theorem dX2_clearFields_23 : decode cX2_clearFields 23 = .ok (.putfield 37, 3) := by decide +kernel
theorem dX2_clearFields_26 : decode cX2_clearFields 26 = .ok (.iconst 0, 1) := by decide +kernel
theorem dX2_clearFields_27 : decode cX2_clearFields 27 = .ok (.istore_n 2, 1) := by decide +kernel
theorem dX2_clearFields_28 : decode cX2_clearFields 28 = .ok (.iload_n 2, 1) := by decide +kernel
theorem dX2_clearFields_29 : decode cX2_clearFields 29 = .ok (.bipush 32, 2) := by decide +kernel
theorem dX2_clearFields_31 : decode cX2_clearFields 31 = .ok (.if_icmp .ge 18, 3) := by decide +kernel
theorem dX2_clearFields_34 : decode cX2_clearFields 34 = .ok (.aload_n 0, 1) := by decide +kernel
theorem dX2_clearFields_35 : decode cX2_clearFields 35 = .ok (.getfield 30, 3) := by decide +kernel
theorem dX2_clearFields_38 : decode cX2_clearFields 38 = .ok (.iload_n 1, 1) := by decide +kernel
theorem dX2_clearFields_39 : decode cX2_clearFields 39 = .ok (.aaload, 1) := by decide +kernel
theorem dX2_clearFields_40 : decode cX2_clearFields 40 = .ok (.iload_n 2, 1) := by decide +kernel
theorem dX2_clearFields_41 : decode cX2_clearFields 41 = .ok (.iconst 0, 1) := by decide +kernel
theorem dX2_clearFields_42 : decode cX2_clearFields 42 = .ok (.iastore, 1) := by decide +kernel
theorem dX2_clearFields_43 : decode cX2_clearFields 43 = .ok (.iinc 2 1, 3) := by decide +kernel
theorem dX2_clearFields_46 : decode cX2_clearFields 46 = .ok (.goto (-18), 3) := by decide +kernel
theorem dX2_clearFields_49 : decode cX2_clearFields 49 = .ok (.return_, 1) := by decide +kernel
theorem dX2_addField_0 : decode cX2_addField 0 = .ok (.aload_n 0, 1) := by decide +kernel
theorem dX2_addField_1 : decode cX2_addField 1 = .ok (.getfield 30, 3) := by decide +kernel
theorem dX2_addField_4 : decode cX2_addField 4 = .ok (.iload_n 1, 1) := by decide +kernel
theorem dX2_addField_5 : decode cX2_addField 5 = .ok (.aaload, 1) := by decide +kernel
theorem dX2_addField_6 : decode cX2_addField 6 = .ok (.iload_n 2, 1) := by decide +kernel
theorem dX2_addField_7 : decode cX2_addField 7 = .ok (.bipush 32, 2) := by decide +kernel
theorem dX2_addField_9 : decode cX2_addField 9 = .ok (.idiv, 1) := by decide +kernel
theorem dX2_addField_10 : decode cX2_addField 10 = .ok (.dup2, 1) := by decide +kernel
theorem dX2_addField_11 : decode cX2_addField 11 = .ok (.iaload, 1) := by decide +kernel
theorem dX2_addField_12 : decode cX2_addField 12 = .ok (.iconst 1, 1) := by decide +kernel
theorem dX2_addField_13 : decode cX2_addField 13 = .ok (.iload_n 2, 1) := by decide +kernel
theorem dX2_addField_14 : decode cX2_addField 14 = .ok (.bipush 32, 2) := by decide +kernel
theorem dX2_addField_16 : decode cX2_addField 16 = .ok (.irem, 1) := by decide +kernel
theorem dX2_addField_17 : decode cX2_addField 17 = .ok (.ishl, 1) := by decide +kernel
theorem dX2_addField_18 : decode cX2_addField 18 = .ok (.ior, 1) := by decide +kernel
theorem dX2_addField_19 : decode cX2_addField 19 = .ok (.iastore, 1) := by decide +kernel
theorem dX2_addField_20 : decode cX2_addField 20 = .ok (.return_, 1) := by decide +kernel
theorem dX2_areJoined_0 : decode cX2_areJoined 0 = .ok (.aload_n 0, 1) := by decide +kernel
theorem dX2_areJoined_1 : decode cX2_areJoined 1 = .ok (.getfield 14, 3) := by decide +kernel
theorem dX2_areJoined_4 : decode cX2_areJoined 4 = .ok (.getfield 41, 3) := by decide +kernel
theorem dX2_areJoined_7 : decode cX2_areJoined 7 = .ok (.iload_n 1, 1) := by decide +kernel
theorem dX2_areJoined_8 : decode cX2_areJoined 8 = .ok (.iaload, 1) := by decide +kernel
theorem dX2_areJoined_9 : decode cX2_areJoined 9 = .ok (.aload_n 0, 1) := by decide +kernel
theorem dX2_areJoined_10 : decode cX2_areJoined 10 = .ok (.getfield 14, 3) := by decide +kernel
theorem dX2_areJoined_13 : decode cX2_areJoined 13 = .ok (.getfield 41, 3) := by decide +kernel
theorem dX2_areJoined_16 : decode cX2_areJoined 16 = .ok (.iload_n 2, 1) := by decide +kernel
theorem dX2_areJoined_17 : decode cX2_areJoined 17 = .ok (.iaload, 1) := by decide +kernel
theorem dX2_areJoined_18 : decode cX2_areJoined 18 = .ok (.if_icmp .ne 75, 3) := by decide +kernel
theorem dX2_areJoined_21 : decode cX2_areJoined 21 = .ok (.aload_n 0, 1) := by decide +kernel
theorem dX2_areJoined_22 : decode cX2_areJoined 22 = .ok (.getfield 20, 3) := by decide +kernel
theorem dX2_areJoined_25 : decode cX2_areJoined 25 = .ok (.iload_n 1, 1) := by decide +kernel
theorem dX2_areJoined_26 : decode cX2_areJoined 26 = .ok (.iaload, 1) := by decide +kernel
theorem dX2_areJoined_27 : decode cX2_areJoined 27 = .ok (.aload_n 0, 1) := by decide +kernel
theorem dX2_areJoined_28 : decode cX2_areJoined 28 = .ok (.getfield 20, 3) := by decide +kernel
theorem dX2_areJoined_31 : decode cX2_areJoined 31 = .ok (.iload_n 2, 1) := by decide +kernel
theorem dX2_areJoined_32 : decode cX2_areJoined 32 = .ok (.iaload, 1) := by decide +kernel
theorem dX2_areJoined_33 : decode cX2_areJoined 33 = .ok (.isub, 1) := by decide +kernel
theorem dX2_areJoined_34 : decode cX2_areJoined 34 = .ok (.invokestatic 44, 3) := by decide +kernel
theorem dX2_areJoined_37 : decode cX2_areJoined 37 = .ok (.iload_n 3, 1) := by decide +kernel
theorem dX2_areJoined_38 : decode cX2_areJoined 38 = .ok (.if_icmp .gt 55, 3) := by decide +kernel
theorem dX2_areJoined_41 : decode cX2_areJoined 41 = .ok (.aload_n 0, 1) := by decide +kernel
theorem dX2_areJoined_42 : decode cX2_areJoined 42 = .ok (.getfield 14, 3) := by decide +kernel
theorem dX2_areJoined_45 : decode cX2_areJoined 45 = .ok (.getfield 50, 3) := by decide +kernel
theorem dX2_areJoined_48 : decode cX2_areJoined 48 = .ok (.iload_n 1, 1) := by decide +kernel
theorem dX2_areJoined_49 : decode cX2_areJoined 49 = .ok (.iaload, 1) := by decide +kernel
theorem dX2_areJoined_50 : decode cX2_areJoined 50 = .ok (.aload_n 0, 1) := by decide +kernel
theorem dX2_areJoined_51 : decode cX2_areJoined 51 = .ok (.getfield 14, 3) := by decide +kernel
theorem dX2_areJoined_54 : decode cX2_areJoined 54 = .ok (.getfield 53, 3) := by decide +kernel
theorem dX2_areJoined_57 : decode cX2_areJoined 57 = .ok (.iload_n 2, 1) := by decide +kernel
theorem dX2_areJoined_58 : decode cX2_areJoined 58 = .ok (.iaload, 1) := by decide +kernel
theorem dX2_areJoined_59 : decode cX2_areJoined 59 = .ok (.isub, 1) := by decide +kernel
theorem dX2_areJoined_60 : decode cX2_areJoined 60 = .ok (.iload 4, 2) := by decide +kernel
theorem dX2_areJoined_62 : decode cX2_areJoined 62 = .ok (.if_icmp .gt 31, 3) := by decide +kernel
theorem dX2_areJoined_65 : decode cX2_areJoined 65 = .ok (.aload_n 0, 1) := by decide +kernel
theorem dX2_areJoined_66 : decode cX2_areJoined 66 = .ok (.getfield 14, 3) := by decide +kernel
theorem dX2_areJoined_69 : decode cX2_areJoined 69 = .ok (.getfield 50, 3) := by decide +kernel
theorem dX2_areJoined_72 : decode cX2_areJoined 72 = .ok (.iload_n 2, 1) := by decide +kernel
theorem dX2_areJoined_73 : decode cX2_areJoined 73 = .ok (.iaload, 1) := by decide +kernel
theorem dX2_areJoined_74 : decode cX2_areJoined 74 = .ok (.aload_n 0, 1) := by decide +kernel
theorem dX2_areJoined_75 : decode cX2_areJoined 75 = .ok (.getfield 14, 3) := by decide +kernel
theorem dX2_areJoined_78 : decode cX2_areJoined 78 = .ok (.getfield 53, 3) := by decide +kernel
theorem dX2_areJoined_81 : decode cX2_areJoined 81 = .ok (.iload_n 1, 1) := by decide +kernel
theorem dX2_areJoined_82 : decode cX2_areJoined 82 = .ok (.iaload, 1) := by decide +kernel
theorem dX2_areJoined_83 : decode cX2_areJoined 83 = .ok (.isub, 1) := by decide +kernel
theorem dX2_areJoined_84 : decode cX2_areJoined 84 = .ok (.iload 4, 2) := by decide +kernel
theorem dX2_areJoined_86 : decode cX2_areJoined 86 = .ok (.if_icmp .gt 7, 3) := by decide +kernel
theorem dX2_areJoined_89 : decode cX2_areJoined 89 = .ok (.iconst 1, 1) := by decide +kernel
theorem dX2_areJoined_90 : decode cX2_areJoined 90 = .ok (.goto 4, 3) := by decide +kernel
theorem dX2_areJoined_93 : decode cX2_areJoined 93 = .ok (.iconst 0, 1) := by decide +kernel
theorem dX2_areJoined_94 : decode cX2_areJoined 94 = .ok (.ireturn, 1) := by decide +kernel
theorem dX3_init_0 : decode cX3_init 0 = .ok (.aload_n 0, 1) := by decide +kernel
theorem dX3_init_1 : decode cX3_init 1 = .ok (.invokespecial 3, 3) := by decide +kernel
theorem dX3_init_4 : decode cX3_init 4 = .ok (.aload_n 0, 1) := by decide +kernel
theorem dX3_init_5 : decode cX3_init 5 = .ok (.iconst 4, 1) := by decide +kernel
theorem dX3_init_6 : decode cX3_init 6 = .ok (.newarray .int, 2) := by decide +kernel
theorem dX3_init_8 : decode cX3_init 8 = .ok (.putfield 9, 3) := by decide +kernel
theorem dX3_init_11 : decode cX3_init 11 = .ok (.aload_n 0, 1) := by decide +kernel
theorem dX3_init_12 : decode cX3_init 12 = .ok (.iconst 4, 1) := by decide +kernel
theorem dX3_init_13 : decode cX3_init 13 = .ok (.bipush 16, 2) := by decide +kernel
theorem dX3_init_15 : decode cX3_init 15 = .ok (.multianewarray 15 2, 4) := by decide +kernel
theorem dX3_init_19 : decode cX3_init 19 = .ok (.putfield 17, 3) := by decide +kernel
theorem dX3_init_22 : decode cX3_init 22 = .ok (.aload_n 0, 1) := by decide +kernel
theorem dX3_init_23 : decode cX3_init 23 = .ok (.iconst 4, 1) := by decide +kernel
theorem dX3_init_24 : decode cX3_init 24 = .ok (.iconst 4, 1) := by decide +kernel
theorem dX3_init_25 : decode cX3_init 25 = .ok (.multianewarray 15 2, 4) := by decide +kernel
theorem dX3_init_29 : decode cX3_init 29 = .ok (.putfield 20, 3) := by decide +kernel
theorem dX3_init_32 : decode cX3_init 32 = .ok (.aload_n 0, 1) := by decide +kernel
theorem dX3_init_33 : decode cX3_init 33 = .ok (.iconst 4, 1) := by decide +kernel
theorem dX3_init_34 : decode cX3_init 34 = .ok (.newarray .int, 2) := by decide +kernel
theorem dX3_init_36 : decode cX3_init 36 = .ok (.putfield 23, 3) := by decide +kernel
theorem dX3_init_39 : decode cX3_init 39 = .ok (.aload_n 0, 1) := by decide +kernel
theorem dX3_init_40 : decode cX3_init 40 = .ok (.iconst 4, 1) := by decide +kernel
theorem dX3_init_41 : decode cX3_init 41 = .ok (.newarray .int, 2) := by decide +kernel
theorem dX3_init_43 : decode cX3_init 43 = .ok (.putfield 26, 3) := by decide +kernel
theorem dX3_init_46 : decode cX3_init 46 = .ok (.return_, 1) := by decide +kernel
theorem dX3_lay_0 : decode cX3_lay 0 = .ok (.aload_n 0, 1) := by decide +kernel
theorem dX3_lay_1 : decode cX3_lay 1 = .ok (.iload_n 2, 1) := by decide +kernel
theorem dX3_lay_2 : decode cX3_lay 2 = .ok (.iconst 4, 1) := by decide +kernel
theorem dX3_lay_3 : decode cX3_lay 3 = .ok (.invokestatic 29, 3) := by decide +kernel
theorem dX3_lay_6 : decode cX3_lay 6 = .ok (.putfield 35, 3) := by decide +kernel
theorem dX3_lay_9 : decode cX3_lay 9 = .ok (.aload_n 0, 1) := by decide +kernel
theorem dX3_lay_10 : decode cX3_lay 10 = .ok (.iload_n 3, 1) := by decide +kernel
theorem dX3_lay_11 : decode cX3_lay 11 = .ok (.putfield 39, 3) := by decide +kernel
theorem dX3_lay_14 : decode cX3_lay 14 = .ok (.iconst 0, 1) := by decide +kernel
theorem dX3_lay_15 : decode cX3_lay 15 = .ok (.istore 4, 2) := by decide +kernel
theorem dX3_lay_17 : decode cX3_lay 17 = .ok (.iload 4, 2) := by decide +kernel
theorem dX3_lay_19 : decode cX3_lay 19 = .ok (.aload_n 0, 1) := by decide +kernel
theorem dX3_lay_20 : decode cX3_lay 20 = .ok (.getfield 35, 3) := by decide +kernel
theorem dX3_lay_23 : decode cX3_lay 23 = .ok (.if_icmp .ge 22, 3) := by decide +kernel
theorem dX3_lay_26 : decode cX3_lay 26 = .ok (.aload_n 0, 1) := by decide +kernel
theorem dX3_lay_27 : decode cX3_lay 27 = .ok (.getfield 9, 3) := by decide +kernel
theorem dX3_lay_30 : decode cX3_lay 30 = .ok (.iload 4, 2) := by decide +kernel
theorem dX3_lay_32 : decode cX3_lay 32 = .ok (.iload_n 1, 1) := by decide +kernel
theorem dX3_lay_33 : decode cX3_lay 33 = .ok (.iload 4, 2) := by decide +kernel
theorem dX3_lay_35 : decode cX3_lay 35 = .ok (.iload_n 3, 1) := by decide +kernel
theorem dX3_lay_36 : decode cX3_lay 36 = .ok (.imul, 1) := by decide +kernel
theorem dX3_lay_37 : decode cX3_lay 37 = .ok (.iadd, 1) := by decide +kernel
theorem dX3_lay_38 : decode cX3_lay 38 = .ok (.iastore, 1) := by decide +kernel
theorem dX3_lay_39 : decode cX3_lay 39 = .ok (.iinc 4 1, 3) := by decide +kernel
theorem dX3_lay_42 : decode cX3_lay 42 = .ok (.goto (-25), 3) := by decide +kernel
theorem dX3_lay_45 : decode cX3_lay 45 = .ok (.return_, 1) := by decide +kernel
theorem dX3_look_0 : decode cX3_look 0 = .ok (.iconst 0, 1) := by decide +kernel
theorem dX3_look_1 : decode cX3_look 1 = .ok (.istore_n 3, 1) := by decide +kernel
theorem dX3_look_2 : decode cX3_look 2 = .ok (.iload_n 3, 1) := by decide +kernel
theorem dX3_look_3 : decode cX3_look 3 = .ok (.aload_n 0, 1) := by decide +kernel
theorem dX3_look_4 : decode cX3_look 4 = .ok (.getfield 35, 3) := by decide +kernel
theorem dX3_look_7 : decode cX3_look 7 = .ok (.if_icmp .ge 109, 3) := by decide +kernel
theorem dX3_look_10 : decode cX3_look 10 = .ok (.iconst 0, 1) := by decide +kernel
theorem dX3_look_11 : decode cX3_look 11 = .ok (.istore 4, 2) := by decide +kernel
theorem dX3_look_13 : decode cX3_look 13 = .ok (.iload 4, 2) := by decide +kernel
theorem dX3_look_15 : decode cX3_look 15 = .ok (.bipush 16, 2) := by decide +kernel
theorem dX3_look_17 : decode cX3_look 17 = .ok (.if_icmp .ge 30, 3) := by decide +kernel
theorem dX3_look_20 : decode cX3_look 20 = .ok (.aload_n 0, 1) := by decide +kernel
theorem dX3_look_21 : decode cX3_look 21 = .ok (.getfield 17, 3) := by decide +kernel
theorem dX3_look_24 : decode cX3_look 24 = .ok (.iload_n 3, 1) := by decide +kernel
theorem dX3_look_25 : decode cX3_look 25 = .ok (.aaload, 1) := by decide +kernel
theorem dX3_look_26 : decode cX3_look 26 = .ok (.iload 4, 2) := by decide +kernel
theorem dX3_look_28 : decode cX3_look 28 = .ok (.aload_n 1, 1) := by decide +kernel
theorem dX3_look_29 : decode cX3_look 29 = .ok (.iload 4, 2) := by decide +kernel
theorem dX3_look_31 : decode cX3_look 31 = .ok (.aload_n 0, 1) := by decide +kernel
theorem dX3_look_32 : decode cX3_look 32 = .ok (.getfield 9, 3) := by decide +kernel
theorem dX3_look_35 : decode cX3_look 35 = .ok (.iload_n 3, 1) := by decide +kernel
theorem dX3_look_36 : decode cX3_look 36 = .ok (.iaload, 1) := by decide +kernel
theorem dX3_look_37 : decode cX3_look 37 = .ok (.invokevirtual 42, 3) := by decide +kernel
theorem dX3_look_40 : decode cX3_look 40 = .ok (.iastore, 1) := by decide +kernel
theorem dX3_look_41 : decode cX3_look 41 = .ok (.iinc 4 1, 3) := by decide +kernel
theorem dX3_look_44 : decode cX3_look 44 = .ok (.goto (-31), 3) := by decide +kernel
theorem dX3_look_47 : decode cX3_look 47 = .ok (.aload_n 0, 1) := by decide +kernel
theorem dX3_look_48 : decode cX3_look 48 = .ok (.iconst 0, 1) := by decide +kernel
theorem dX3_look_49 : decode cX3_look 49 = .ok (.putfield 47, 3) := by decide +kernel
theorem dX3_look_52 : decode cX3_look 52 = .ok (.iconst 0, 1) := by decide +kernel
theorem dX3_look_53 : decode cX3_look 53 = .ok (.istore 4, 2) := by decide +kernel
theorem dX3_look_55 : decode cX3_look 55 = .ok (.iload 4, 2) := by decide +kernel
theorem dX3_look_57 : decode cX3_look 57 = .ok (.bipush 16, 2) := by decide +kernel
theorem dX3_look_59 : decode cX3_look 59 = .ok (.if_icmp .ge 51, 3) := by decide +kernel
theorem dX3_look_62 : decode cX3_look 62 = .ok (.aload_n 0, 1) := by decide +kernel
theorem dX3_look_63 : decode cX3_look 63 = .ok (.iload_n 3, 1) := by decide +kernel
theorem dX3_look_64 : decode cX3_look 64 = .ok (.iload 4, 2) := by decide +kernel
theorem dX3_look_66 : decode cX3_look 66 = .ok (.iload_n 2, 1) := by decide +kernel
theorem dX3_look_67 : decode cX3_look 67 = .ok (.invokevirtual 50, 3) := by decide +kernel
theorem dX3_look_70 : decode cX3_look 70 = .ok (.ifCond .eq 34, 3) := by decide +kernel
theorem dX3_look_73 : decode cX3_look 73 = .ok (.aload_n 0, 1) := by decide +kernel
theorem dX3_look_74 : decode cX3_look 74 = .ok (.getfield 47, 3) := by decide +kernel
theorem dX3_look_77 : decode cX3_look 77 = .ok (.iconst 4, 1) := by decide +kernel
theorem dX3_look_78 : decode cX3_look 78 = .ok (.if_icmp .ge 26, 3) := by decide +kernel
theorem dX3_look_81 : decode cX3_look 81 = .ok (.aload_n 0, 1) := by decide +kernel
theorem dX3_look_82 : decode cX3_look 82 = .ok (.getfield 20, 3) := by decide +kernel
theorem dX3_look_85 : decode cX3_look 85 = .ok (.iload_n 3, 1) := by decide +kernel
theorem dX3_look_86 : decode cX3_look 86 = .ok (.aaload, 1) := by decide +kernel
theorem dX3_look_87 : decode cX3_look 87 = .ok (.aload_n 0, 1) := by decide +kernel
theorem dX3_look_88 : decode cX3_look 88 = .ok (.getfield 47, 3) := by decide +kernel
theorem dX3_look_91 : decode cX3_look 91 = .ok (.iload 4, 2) := by decide +kernel
theorem dX3_look_93 : decode cX3_look 93 = .ok (.iastore, 1) := by decide +kernel
theorem dX3_look_94 : decode cX3_look 94 = .ok (.aload_n 0, 1) := by decide +kernel
theorem dX3_look_95 : decode cX3_look 95 = .ok (.dup, 1) := by decide +kernel
theorem dX3_look_96 : decode cX3_look 96 = .ok (.getfield 47, 3) := by decide +kernel
theorem dX3_look_99 : decode cX3_look 99 = .ok (.iconst 1, 1) := by decide +kernel
theorem dX3_look_100 : decode cX3_look 100 = .ok (.iadd, 1) := by decide +kernel
theorem dX3_look_101 : decode cX3_look 101 = .ok (.putfield 47, 3) := by decide +kernel
theorem dX3_look_104 : decode cX3_look 104 = .ok (.iinc 4 1, 3) := by decide +kernel
theorem dX3_look_107 : decode cX3_look 107 = .ok (.goto (-52), 3) := by decide +kernel
theorem dX3_look_110 : decode cX3_look 110 = .ok (.iinc 3 1, 3) := by decide +kernel
theorem dX3_look_113 : decode cX3_look 113 = .ok (.goto (-111), 3) := by decide +kernel
theorem dX3_look_116 : decode cX3_look 116 = .ok (.return_, 1) := by decide +kernel
theorem dX3_isOneOfOldest_0 : decode cX3_isOneOfOldest 0 = .ok (.iconst 0, 1) := by decide +kernel
theorem dX3_isOneOfOldest_1 : decode cX3_isOneOfOldest 1 = .ok (.istore 4, 2) := by decide +kernel
theorem dX3_isOneOfOldest_3 : decode cX3_isOneOfOldest 3 = .ok (.iconst 0, 1) := by decide +kernel
theorem dX3_isOneOfOldest_4 : decode cX3_isOneOfOldest 4 = .ok (.istore 5, 2) := by decide +kernel
theorem dX3_isOneOfOldest_6 : decode cX3_isOneOfOldest 6 = .ok (.iload 5, 2) := by decide +kernel
theorem dX3_isOneOfOldest_8 : decode cX3_isOneOfOldest 8 = .ok (.bipush 16, 2) := by decide +kernel
theorem dX3_isOneOfOldest_10 : decode cX3_isOneOfOldest 10 = .ok (.if_icmp .ge 79, 3) := by decide +kernel
theorem dX3_isOneOfOldest_13 : decode cX3_isOneOfOldest 13 = .ok (.aload_n 0, 1) := by decide +kernel
theorem dX3_isOneOfOldest_14 : decode cX3_isOneOfOldest 14 = .ok (.getfield 17, 3) := by decide +kernel
theorem dX3_isOneOfOldest_17 : decode cX3_isOneOfOldest 17 = .ok (.iload_n 1, 1) := by decide +kernel
theorem dX3_isOneOfOldest_18 : decode cX3_isOneOfOldest 18 = .ok (.aaload, 1) := by decide +kernel
theorem dX3_isOneOfOldest_19 : decode cX3_isOneOfOldest 19 = .ok (.iload 5, 2) := by decide +kernel
theorem dX3_isOneOfOldest_21 : decode cX3_isOneOfOldest 21 = .ok (.iaload, 1) := by decide +kernel
theorem dX3_isOneOfOldest_22 : decode cX3_isOneOfOldest 22 = .ok (.aload_n 0, 1) := by decide +kernel
theorem dX3_isOneOfOldest_23 : decode cX3_isOneOfOldest 23 = .ok (.getfield 17, 3) := by decide +kernel
theorem dX3_isOneOfOldest_26 : decode cX3_isOneOfOldest 26 = .ok (.iload_n 1, 1) := by decide +kernel
theorem dX3_isOneOfOldest_27 : decode cX3_isOneOfOldest 27 = .ok (.aaload, 1) := by decide +kernel
theorem dX3_isOneOfOldest_28 : decode cX3_isOneOfOldest 28 = .ok (.iload_n 2, 1) := by decide +kernel
theorem dX3_isOneOfOldest_29 : decode cX3_isOneOfOldest 29 = .ok (.iaload, 1) := by decide +kernel
theorem dX3_isOneOfOldest_30 : decode cX3_isOneOfOldest 30 = .ok (.if_icmp .lt 29, 3) := by decide +kernel
theorem dX3_isOneOfOldest_33 : decode cX3_isOneOfOldest 33 = .ok (.aload_n 0, 1) := by decide +kernel
theorem dX3_isOneOfOldest_34 : decode cX3_isOneOfOldest 34 = .ok (.getfield 17, 3) := by decide +kernel
theorem dX3_isOneOfOldest_37 : decode cX3_isOneOfOldest 37 = .ok (.iload_n 1, 1) := by decide +kernel
theorem dX3_isOneOfOldest_38 : decode cX3_isOneOfOldest 38 = .ok (.aaload, 1) := by decide +kernel
theorem dX3_isOneOfOldest_39 : decode cX3_isOneOfOldest 39 = .ok (.iload 5, 2) := by decide +kernel
theorem dX3_isOneOfOldest_41 : decode cX3_isOneOfOldest 41 = .ok (.iaload, 1) := by decide +kernel
theorem dX3_isOneOfOldest_42 : decode cX3_isOneOfOldest 42 = .ok (.aload_n 0, 1) := by decide +kernel
theorem dX3_isOneOfOldest_43 : decode cX3_isOneOfOldest 43 = .ok (.getfield 17, 3) := by decide +kernel
theorem dX3_isOneOfOldest_46 : decode cX3_isOneOfOldest 46 = .ok (.iload_n 1, 1) := by decide +kernel
theorem dX3_isOneOfOldest_47 : decode cX3_isOneOfOldest 47 = .ok (.aaload, 1) := by decide +kernel
theorem dX3_isOneOfOldest_48 : decode cX3_isOneOfOldest 48 = .ok (.iload_n 2, 1) := by decide +kernel
theorem dX3_isOneOfOldest_49 : decode cX3_isOneOfOldest 49 = .ok (.iaload, 1) := by decide +kernel
theorem dX3_isOneOfOldest_50 : decode cX3_isOneOfOldest 50 = .ok (.if_icmp .ne 13, 3) := by decide +kernel
theorem dX3_isOneOfOldest_53 : decode cX3_isOneOfOldest 53 = .ok (.iload 5, 2) := by decide +kernel
theorem dX3_isOneOfOldest_55 : decode cX3_isOneOfOldest 55 = .ok (.iload_n 2, 1) := by decide +kernel
theorem dX3_isOneOfOldest_56 : decode cX3_isOneOfOldest 56 = .ok (.if_icmp .ge 7, 3) := by decide +kernel
theorem dX3_isOneOfOldest_59 : decode cX3_isOneOfOldest 59 = .ok (.iconst 1, 1) := by decide +kernel
theorem dX3_isOneOfOldest_60 : decode cX3_isOneOfOldest 60 = .ok (.goto 4, 3) := by decide +kernel
theorem dX3_isOneOfOldest_63 : decode cX3_isOneOfOldest 63 = .ok (.iconst 0, 1) := by decide +kernel
theorem dX3_isOneOfOldest_64 : decode cX3_isOneOfOldest 64 = .ok (.istore 6, 2) := by decide +kernel
theorem dX3_isOneOfOldest_66 : decode cX3_isOneOfOldest 66 = .ok (.iload 6, 2) := by decide +kernel
theorem dX3_isOneOfOldest_68 : decode cX3_isOneOfOldest 68 = .ok (.ifCond .eq 15, 3) := by decide +kernel
theorem dX3_isOneOfOldest_71 : decode cX3_isOneOfOldest 71 = .ok (.iload_n 3, 1) := by decide +kernel
theorem dX3_isOneOfOldest_72 : decode cX3_isOneOfOldest 72 = .ok (.iload 5, 2) := by decide +kernel
theorem dX3_isOneOfOldest_74 : decode cX3_isOneOfOldest 74 = .ok (.ishr, 1) := by decide +kernel
theorem dX3_isOneOfOldest_75 : decode cX3_isOneOfOldest 75 = .ok (.iconst 1, 1) := by decide +kernel
theorem dX3_isOneOfOldest_76 : decode cX3_isOneOfOldest 76 = .ok (.iand, 1) := by decide +kernel
theorem dX3_isOneOfOldest_77 : decode cX3_isOneOfOldest 77 = .ok (.ifCond .eq 6, 3) := by decide +kernel
theorem dX3_isOneOfOldest_80 : decode cX3_isOneOfOldest 80 = .ok (.iinc 4 1, 3) := by decide +kernel
theorem dX3_isOneOfOldest_83 : decode cX3_isOneOfOldest 83 = .ok (.iinc 5 1, 3) := by decide +kernel
theorem dX3_isOneOfOldest_86 : decode cX3_isOneOfOldest 86 = .ok (.goto (-80), 3) := by decide +kernel
theorem dX3_isOneOfOldest_89 : decode cX3_isOneOfOldest 89 = .ok (.iload_n 3, 1) := by decide +kernel
theorem dX3_isOneOfOldest_90 : decode cX3_isOneOfOldest 90 = .ok (.iload_n 2, 1) := by decide +kernel
theorem dX3_isOneOfOldest_91 : decode cX3_isOneOfOldest 91 = .ok (.ishr, 1) := by decide +kernel
theorem dX3_isOneOfOldest_92 : decode cX3_isOneOfOldest 92 = .ok (.iconst 1, 1) := by decide +kernel
theorem dX3_isOneOfOldest_93 : decode cX3_isOneOfOldest 93 = .ok (.iand, 1) := by decide +kernel
theorem dX3_isOneOfOldest_94 : decode cX3_isOneOfOldest 94 = .ok (.ifCond .eq 16, 3) := by decide +kernel
theorem dX3_isOneOfOldest_97 : decode cX3_isOneOfOldest 97 = .ok (.iload 4, 2) := by decide +kernel
theorem dX3_isOneOfOldest_99 : decode cX3_isOneOfOldest 99 = .ok (.aload_n 0, 1) := by decide +kernel
theorem dX3_isOneOfOldest_100 : decode cX3_isOneOfOldest 100 = .ok (.getfield 35, 3) := by decide +kernel
theorem dX3_isOneOfOldest_103 : decode cX3_isOneOfOldest 103 = .ok (.if_icmp .ge 7, 3) := by decide +kernel
theorem dX3_isOneOfOldest_106 : decode cX3_isOneOfOldest 106 = .ok (.iconst 1, 1) := by decide +kernel
theorem dX3_isOneOfOldest_107 : decode cX3_isOneOfOldest 107 = .ok (.goto 4, 3) := by decide +kernel
theorem dX3_isOneOfOldest_110 : decode cX3_isOneOfOldest 110 = .ok (.iconst 0, 1) := by decide +kernel
theorem dX3_isOneOfOldest_111 : decode cX3_isOneOfOldest 111 = .ok (.ireturn, 1) := by decide +kernel
theorem dX3_search_0 : decode cX3_search 0 = .ok (.iconst 1, 1) := by decide +kernel
theorem dX3_search_1 : decode cX3_search 1 = .ok (.istore_n 1, 1) := by decide +kernel
theorem dX3_search_2 : decode cX3_search 2 = .ok (.iconst 0, 1) := by decide +kernel
theorem dX3_search_3 : decode cX3_search 3 = .ok (.istore_n 2, 1) := by decide +kernel
theorem dX3_search_4 : decode cX3_search 4 = .ok (.iload_n 2, 1) := by decide +kernel
theorem dX3_search_5 : decode cX3_search 5 = .ok (.aload_n 0, 1) := by decide +kernel
theorem dX3_search_6 : decode cX3_search 6 = .ok (.getfield 35, 3) := by decide +kernel
theorem dX3_search_9 : decode cX3_search 9 = .ok (.if_icmp .ge 16, 3) := by decide +kernel
theorem dX3_search_12 : decode cX3_search 12 = .ok (.iload_n 1, 1) := by decide +kernel
theorem dX3_search_13 : decode cX3_search 13 = .ok (.aload_n 0, 1) := by decide +kernel
theorem dX3_search_14 : decode cX3_search 14 = .ok (.getfield 47, 3) := by decide +kernel
theorem dX3_search_17 : decode cX3_search 17 = .ok (.imul, 1) := by decide +kernel
theorem dX3_search_18 : decode cX3_search 18 = .ok (.istore_n 1, 1) := by decide +kernel
theorem dX3_search_19 : decode cX3_search 19 = .ok (.iinc 2 1, 3) := by decide +kernel
theorem dX3_search_22 : decode cX3_search 22 = .ok (.goto (-18), 3) := by decide +kernel
theorem dX3_search_25 : decode cX3_search 25 = .ok (.iconst (-1), 1) := by decide +kernel
theorem dX3_search_26 : decode cX3_search 26 = .ok (.istore_n 2, 1) := by decide +kernel
theorem dX3_search_27 : decode cX3_search 27 = .ok (.iconst 0, 1) := by decide +kernel
theorem dX3_search_28 : decode cX3_search 28 = .ok (.istore_n 3, 1) := by decide +kernel
theorem dX3_search_29 : decode cX3_search 29 = .ok (.iload_n 3, 1) := by decide +kernel
theorem dX3_search_30 : decode cX3_search 30 = .ok (.iload_n 1, 1) := by decide +kernel
theorem dX3_search_31 : decode cX3_search 31 = .ok (.if_icmp .ge 33, 3) := by decide +kernel
theorem dX3_search_34 : decode cX3_search 34 = .ok (.aload_n 0, 1) := by decide +kernel
theorem dX3_search_35 : decode cX3_search 35 = .ok (.iload_n 3, 1) := by decide +kernel
theorem dX3_search_36 : decode cX3_search 36 = .ok (.invokevirtual 54, 3) := by decide +kernel
theorem dX3_search_39 : decode cX3_search 39 = .ok (.aload_n 0, 1) := by decide +kernel
theorem dX3_search_40 : decode cX3_search 40 = .ok (.invokevirtual 58, 3) := by decide +kernel
theorem dX3_search_43 : decode cX3_search 43 = .ok (.istore 4, 2) := by decide +kernel
theorem dX3_search_45 : decode cX3_search 45 = .ok (.iload 4, 2) := by decide +kernel
theorem dX3_search_47 : decode cX3_search 47 = .ok (.iload_n 2, 1) := by decide +kernel
theorem dX3_search_48 : decode cX3_search 48 = .ok (.if_icmp .le 10, 3) := by decide +kernel
theorem dX3_search_51 : decode cX3_search 51 = .ok (.iload 4, 2) := by decide +kernel
theorem dX3_search_53 : decode cX3_search 53 = .ok (.istore_n 2, 1) := by decide +kernel
theorem dX3_search_54 : decode cX3_search 54 = .ok (.aload_n 0, 1) := by decide +kernel
theorem dX3_search_55 : decode cX3_search 55 = .ok (.invokevirtual 62, 3) := by decide +kernel
theorem dX3_search_58 : decode cX3_search 58 = .ok (.iinc 3 1, 3) := by decide +kernel
theorem dX3_search_61 : decode cX3_search 61 = .ok (.goto (-32), 3) := by decide +kernel
theorem dX3_search_64 : decode cX3_search 64 = .ok (.iload_n 2, 1) := by decide +kernel
theorem dX3_search_65 : decode cX3_search 65 = .ok (.ireturn, 1) := by decide +kernel
theorem dX3_choose_0 : decode cX3_choose 0 = .ok (.iload_n 1, 1) := by decide +kernel
theorem dX3_choose_1 : decode cX3_choose 1 = .ok (.istore_n 2, 1) := by decide +kernel
theorem dX3_choose_2 : decode cX3_choose 2 = .ok (.aload_n 0, 1) := by decide +kernel
theorem dX3_choose_3 : decode cX3_choose 3 = .ok (.getfield 35, 3) := by decide +kernel
theorem dX3_choose_6 : decode cX3_choose 6 = .ok (.iconst 1, 1) := by decide +kernel
theorem dX3_choose_7 : decode cX3_choose 7 = .ok (.isub, 1) := by decide +kernel
theorem dX3_choose_8 : decode cX3_choose 8 = .ok (.istore_n 3, 1) := by decide +kernel
theorem dX3_choose_9 : decode cX3_choose 9 = .ok (.iload_n 3, 1) := by decide +kernel
theorem dX3_choose_10 : decode cX3_choose 10 = .ok (.ifCond .lt 42, 3) := by decide +kernel
theorem dX3_choose_13 : decode cX3_choose 13 = .ok (.aload_n 0, 1) := by decide +kernel
theorem dX3_choose_14 : decode cX3_choose 14 = .ok (.getfield 47, 3) := by decide +kernel
theorem dX3_choose_17 : decode cX3_choose 17 = .ok (.ifCond .le 35, 3) := by decide +kernel
theorem dX3_choose_20 : decode cX3_choose 20 = .ok (.aload_n 0, 1) := by decide +kernel
theorem dX3_choose_21 : decode cX3_choose 21 = .ok (.getfield 23, 3) := by decide +kernel
theorem dX3_choose_24 : decode cX3_choose 24 = .ok (.iload_n 3, 1) := by decide +kernel
theorem dX3_choose_25 : decode cX3_choose 25 = .ok (.aload_n 0, 1) := by decide +kernel
theorem dX3_choose_26 : decode cX3_choose 26 = .ok (.getfield 20, 3) := by decide +kernel
theorem dX3_choose_29 : decode cX3_choose 29 = .ok (.iload_n 3, 1) := by decide +kernel
theorem dX3_choose_30 : decode cX3_choose 30 = .ok (.aaload, 1) := by decide +kernel
theorem dX3_choose_31 : decode cX3_choose 31 = .ok (.iload_n 2, 1) := by decide +kernel
theorem dX3_choose_32 : decode cX3_choose 32 = .ok (.aload_n 0, 1) := by decide +kernel
theorem dX3_choose_33 : decode cX3_choose 33 = .ok (.getfield 47, 3) := by decide +kernel
theorem dX3_choose_36 : decode cX3_choose 36 = .ok (.irem, 1) := by decide +kernel
theorem dX3_choose_37 : decode cX3_choose 37 = .ok (.iaload, 1) := by decide +kernel
theorem dX3_choose_38 : decode cX3_choose 38 = .ok (.iastore, 1) := by decide +kernel
theorem dX3_choose_39 : decode cX3_choose 39 = .ok (.iload_n 2, 1) := by decide +kernel
theorem dX3_choose_40 : decode cX3_choose 40 = .ok (.aload_n 0, 1) := by decide +kernel
theorem dX3_choose_41 : decode cX3_choose 41 = .ok (.getfield 47, 3) := by decide +kernel
theorem dX3_choose_44 : decode cX3_choose 44 = .ok (.idiv, 1) := by decide +kernel
theorem dX3_choose_45 : decode cX3_choose 45 = .ok (.istore_n 2, 1) := by decide +kernel
theorem dX3_choose_46 : decode cX3_choose 46 = .ok (.iinc 3 (-1), 3) := by decide +kernel
theorem dX3_choose_49 : decode cX3_choose 49 = .ok (.goto (-40), 3) := by decide +kernel
theorem dX3_choose_52 : decode cX3_choose 52 = .ok (.return_, 1) := by decide +kernel
theorem dX3_worthOfChosen_0 : decode cX3_worthOfChosen 0 = .ok (.iconst 0, 1) := by decide +kernel
theorem dX3_worthOfChosen_1 : decode cX3_worthOfChosen 1 = .ok (.istore_n 1, 1) := by decide +kernel
theorem dX3_worthOfChosen_2 : decode cX3_worthOfChosen 2 = .ok (.iconst 0, 1) := by decide +kernel
theorem dX3_worthOfChosen_3 : decode cX3_worthOfChosen 3 = .ok (.istore_n 2, 1) := by decide +kernel
theorem dX3_worthOfChosen_4 : decode cX3_worthOfChosen 4 = .ok (.iload_n 2, 1) := by decide +kernel
theorem dX3_worthOfChosen_5 : decode cX3_worthOfChosen 5 = .ok (.aload_n 0, 1) := by decide +kernel
theorem dX3_worthOfChosen_6 : decode cX3_worthOfChosen 6 = .ok (.getfield 35, 3) := by decide +kernel
theorem dX3_worthOfChosen_9 : decode cX3_worthOfChosen 9 = .ok (.if_icmp .ge 84, 3) := by decide +kernel
theorem dX3_worthOfChosen_12 : decode cX3_worthOfChosen 12 = .ok (.aload_n 0, 1) := by decide +kernel
theorem dX3_worthOfChosen_13 : decode cX3_worthOfChosen 13 = .ok (.getfield 17, 3) := by decide +kernel
theorem dX3_worthOfChosen_16 : decode cX3_worthOfChosen 16 = .ok (.iload_n 2, 1) := by decide +kernel
theorem dX3_worthOfChosen_17 : decode cX3_worthOfChosen 17 = .ok (.aaload, 1) := by decide +kernel
theorem dX3_worthOfChosen_18 : decode cX3_worthOfChosen 18 = .ok (.aload_n 0, 1) := by decide +kernel
theorem dX3_worthOfChosen_19 : decode cX3_worthOfChosen 19 = .ok (.getfield 23, 3) := by decide +kernel
theorem dX3_worthOfChosen_22 : decode cX3_worthOfChosen 22 = .ok (.iload_n 2, 1) := by decide +kernel
theorem dX3_worthOfChosen_23 : decode cX3_worthOfChosen 23 = .ok (.iaload, 1) := by decide +kernel
theorem dX3_worthOfChosen_24 : decode cX3_worthOfChosen 24 = .ok (.iaload, 1) := by decide +kernel
theorem dX3_worthOfChosen_25 : decode cX3_worthOfChosen 25 = .ok (.istore_n 3, 1) := by decide +kernel
theorem dX3_worthOfChosen_26 : decode cX3_worthOfChosen 26 = .ok (.iconst 0, 1) := by decide +kernel
theorem dX3_worthOfChosen_27 : decode cX3_worthOfChosen 27 = .ok (.istore 4, 2) := by decide +kernel
theorem dX3_worthOfChosen_29 : decode cX3_worthOfChosen 29 = .ok (.iload 4, 2) := by decide +kernel
theorem dX3_worthOfChosen_31 : decode cX3_worthOfChosen 31 = .ok (.iload_n 2, 1) := by decide +kernel
theorem dX3_worthOfChosen_32 : decode cX3_worthOfChosen 32 = .ok (.if_icmp .ge 44, 3) := by decide +kernel
theorem dX3_worthOfChosen_35 : decode cX3_worthOfChosen 35 = .ok (.aload_n 0, 1) := by decide +kernel
theorem dX3_worthOfChosen_36 : decode cX3_worthOfChosen 36 = .ok (.getfield 23, 3) := by decide +kernel
theorem dX3_worthOfChosen_39 : decode cX3_worthOfChosen 39 = .ok (.iload 4, 2) := by decide +kernel
theorem dX3_worthOfChosen_41 : decode cX3_worthOfChosen 41 = .ok (.iaload, 1) := by decide +kernel
theorem dX3_worthOfChosen_42 : decode cX3_worthOfChosen 42 = .ok (.aload_n 0, 1) := by decide +kernel
theorem dX3_worthOfChosen_43 : decode cX3_worthOfChosen 43 = .ok (.getfield 23, 3) := by decide +kernel
theorem dX3_worthOfChosen_46 : decode cX3_worthOfChosen 46 = .ok (.iload_n 2, 1) := by decide +kernel
theorem dX3_worthOfChosen_47 : decode cX3_worthOfChosen 47 = .ok (.iaload, 1) := by decide +kernel
theorem dX3_worthOfChosen_48 : decode cX3_worthOfChosen 48 = .ok (.if_icmp .ne 22, 3) := by decide +kernel
theorem dX3_worthOfChosen_51 : decode cX3_worthOfChosen 51 = .ok (.iload_n 3, 1) := by decide +kernel
theorem dX3_worthOfChosen_52 : decode cX3_worthOfChosen 52 = .ok (.aload_n 0, 1) := by decide +kernel
theorem dX3_worthOfChosen_53 : decode cX3_worthOfChosen 53 = .ok (.getfield 9, 3) := by decide +kernel
theorem dX3_worthOfChosen_56 : decode cX3_worthOfChosen 56 = .ok (.iload 4, 2) := by decide +kernel
theorem dX3_worthOfChosen_58 : decode cX3_worthOfChosen 58 = .ok (.iaload, 1) := by decide +kernel
theorem dX3_worthOfChosen_59 : decode cX3_worthOfChosen 59 = .ok (.aload_n 0, 1) := by decide +kernel
theorem dX3_worthOfChosen_60 : decode cX3_worthOfChosen 60 = .ok (.getfield 39, 3) := by decide +kernel
theorem dX3_worthOfChosen_63 : decode cX3_worthOfChosen 63 = .ok (.iadd, 1) := by decide +kernel
theorem dX3_worthOfChosen_64 : decode cX3_worthOfChosen 64 = .ok (.iconst 1, 1) := by decide +kernel
theorem dX3_worthOfChosen_65 : decode cX3_worthOfChosen 65 = .ok (.isub, 1) := by decide +kernel
theorem dX3_worthOfChosen_66 : decode cX3_worthOfChosen 66 = .ok (.invokestatic 65, 3) := by decide +kernel
theorem dX3_worthOfChosen_69 : decode cX3_worthOfChosen 69 = .ok (.istore_n 3, 1) := by decide +kernel
theorem dX3_worthOfChosen_70 : decode cX3_worthOfChosen 70 = .ok (.iinc 4 1, 3) := by decide +kernel
theorem dX3_worthOfChosen_73 : decode cX3_worthOfChosen 73 = .ok (.goto (-44), 3) := by decide +kernel
theorem dX3_worthOfChosen_76 : decode cX3_worthOfChosen 76 = .ok (.iload_n 1, 1) := by decide +kernel
theorem dX3_worthOfChosen_77 : decode cX3_worthOfChosen 77 = .ok (.aload_n 0, 1) := by decide +kernel
theorem dX3_worthOfChosen_78 : decode cX3_worthOfChosen 78 = .ok (.getfield 9, 3) := by decide +kernel
theorem dX3_worthOfChosen_81 : decode cX3_worthOfChosen 81 = .ok (.iload_n 2, 1) := by decide +kernel
theorem dX3_worthOfChosen_82 : decode cX3_worthOfChosen 82 = .ok (.iaload, 1) := by decide +kernel
theorem dX3_worthOfChosen_83 : decode cX3_worthOfChosen 83 = .ok (.iload_n 3, 1) := by decide +kernel
theorem dX3_worthOfChosen_84 : decode cX3_worthOfChosen 84 = .ok (.isub, 1) := by decide +kernel
theorem dX3_worthOfChosen_85 : decode cX3_worthOfChosen 85 = .ok (.iadd, 1) := by decide +kernel
theorem dX3_worthOfChosen_86 : decode cX3_worthOfChosen 86 = .ok (.istore_n 1, 1) := by decide +kernel
theorem dX3_worthOfChosen_87 : decode cX3_worthOfChosen 87 = .ok (.iinc 2 1, 3) := by decide +kernel
theorem dX3_worthOfChosen_90 : decode cX3_worthOfChosen 90 = .ok (.goto (-86), 3) := by decide +kernel
theorem dX3_worthOfChosen_93 : decode cX3_worthOfChosen 93 = .ok (.iload_n 1, 1) := by decide +kernel
theorem dX3_worthOfChosen_94 : decode cX3_worthOfChosen 94 = .ok (.ireturn, 1) := by decide +kernel
theorem dX3_keepChosen_0 : decode cX3_keepChosen 0 = .ok (.iconst 0, 1) := by decide +kernel
theorem dX3_keepChosen_1 : decode cX3_keepChosen 1 = .ok (.istore_n 1, 1) := by decide +kernel
theorem dX3_keepChosen_2 : decode cX3_keepChosen 2 = .ok (.iload_n 1, 1) := by decide +kernel
theorem dX3_keepChosen_3 : decode cX3_keepChosen 3 = .ok (.aload_n 0, 1) := by decide +kernel
theorem dX3_keepChosen_4 : decode cX3_keepChosen 4 = .ok (.getfield 35, 3) := by decide +kernel
theorem dX3_keepChosen_7 : decode cX3_keepChosen 7 = .ok (.if_icmp .ge 21, 3) := by decide +kernel
theorem dX3_keepChosen_10 : decode cX3_keepChosen 10 = .ok (.aload_n 0, 1) := by decide +kernel
theorem dX3_keepChosen_11 : decode cX3_keepChosen 11 = .ok (.getfield 26, 3) := by decide +kernel
theorem dX3_keepChosen_14 : decode cX3_keepChosen 14 = .ok (.iload_n 1, 1) := by decide +kernel
theorem dX3_keepChosen_15 : decode cX3_keepChosen 15 = .ok (.aload_n 0, 1) := by decide +kernel
theorem dX3_keepChosen_16 : decode cX3_keepChosen 16 = .ok (.getfield 23, 3) := by decide +kernel
theorem dX3_keepChosen_19 : decode cX3_keepChosen 19 = .ok (.iload_n 1, 1) := by decide +kernel
theorem dX3_keepChosen_20 : decode cX3_keepChosen 20 = .ok (.iaload, 1) := by decide +kernel
theorem dX3_keepChosen_21 : decode cX3_keepChosen 21 = .ok (.iastore, 1) := by decide +kernel
theorem dX3_keepChosen_22 : decode cX3_keepChosen 22 = .ok (.iinc 1 1, 3) := by decide +kernel
theorem dX3_keepChosen_25 : decode cX3_keepChosen 25 = .ok (.goto (-23), 3) := by decide +kernel
theorem dX3_keepChosen_28 : decode cX3_keepChosen 28 = .ok (.return_, 1) := by decide +kernel
end
section
theorem dX4_init_0 : decode cX4_init 0 = .ok (.aload_n 0, 1) := by decide +kernel
theorem dX4_init_1 : decode cX4_init 1 = .ok (.invokespecial 3, 3) := by decide +kernel
theorem dX4_init_4 : decode cX4_init 4 = .ok (.aload_n 0, 1) := by decide +kernel
theorem dX4_init_5 : decode cX4_init 5 = .ok (.bipush 6, 2) := by decide +kernel
theorem dX4_init_7 : decode cX4_init 7 = .ok (.newarray .int, 2) := by decide +kernel
theorem dX4_init_9 : decode cX4_init 9 = .ok (.putfield 9, 3) := by decide +kernel
theorem dX4_init_12 : decode cX4_init 12 = .ok (.aload_n 0, 1) := by decide +kernel
theorem dX4_init_13 : decode cX4_init 13 = .ok (.bipush 6, 2) := by decide +kernel
theorem dX4_init_15 : decode cX4_init 15 = .ok (.newarray .int, 2) := by decide +kernel
theorem dX4_init_17 : decode cX4_init 17 = .ok (.putfield 15, 3) := by decide +kernel
theorem dX4_init_20 : decode cX4_init 20 = .ok (.return_, 1) := by decide +kernel
theorem dX4_add_0 : decode cX4_add 0 = .ok (.aload_n 0, 1) := by decide +kernel
theorem dX4_add_1 : decode cX4_add 1 = .ok (.getfield 18, 3) := by decide +kernel
theorem dX4_add_4 : decode cX4_add 4 = .ok (.bipush 6, 2) := by decide +kernel
theorem dX4_add_6 : decode cX4_add 6 = .ok (.if_icmp .lt 5, 3) := by decide +kernel
theorem dX4_add_9 : decode cX4_add 9 = .ok (.iconst (-1), 1) := by decide +kernel
theorem dX4_add_10 : decode cX4_add 10 = .ok (.ireturn, 1) := by decide +kernel
theorem dX4_add_11 : decode cX4_add 11 = .ok (.aload_n 0, 1) := by decide +kernel
theorem dX4_add_12 : decode cX4_add 12 = .ok (.getfield 9, 3) := by decide +kernel
theorem dX4_add_15 : decode cX4_add 15 = .ok (.aload_n 0, 1) := by decide +kernel
theorem dX4_add_16 : decode cX4_add 16 = .ok (.getfield 18, 3) := by decide +kernel
theorem dX4_add_19 : decode cX4_add 19 = .ok (.iload_n 1, 1) := by decide +kernel
theorem dX4_add_20 : decode cX4_add 20 = .ok (.iastore, 1) := by decide +kernel
theorem dX4_add_21 : decode cX4_add 21 = .ok (.aload_n 0, 1) := by decide +kernel
theorem dX4_add_22 : decode cX4_add 22 = .ok (.getfield 15, 3) := by decide +kernel
theorem dX4_add_25 : decode cX4_add 25 = .ok (.aload_n 0, 1) := by decide +kernel
theorem dX4_add_26 : decode cX4_add 26 = .ok (.getfield 18, 3) := by decide +kernel
theorem dX4_add_29 : decode cX4_add 29 = .ok (.iload_n 2, 1) := by decide +kernel
theorem dX4_add_30 : decode cX4_add 30 = .ok (.iastore, 1) := by decide +kernel
theorem dX4_add_31 : decode cX4_add 31 = .ok (.aload_n 0, 1) := by decide +kernel
theorem dX4_add_32 : decode cX4_add 32 = .ok (.dup, 1) := by decide +kernel
theorem dX4_add_33 : decode cX4_add 33 = .ok (.getfield 18, 3) := by decide +kernel
theorem dX4_add_36 : decode cX4_add 36 = .ok (.iconst 1, 1) := by decide +kernel
theorem dX4_add_37 : decode cX4_add 37 = .ok (.iadd, 1) := by decide +kernel
theorem dX4_add_38 : decode cX4_add 38 = .ok (.putfield 18, 3) := by decide +kernel
theorem dX4_add_41 : decode cX4_add 41 = .ok (.aload_n 0, 1) := by decide +kernel
theorem dX4_add_42 : decode cX4_add 42 = .ok (.getfield 18, 3) := by decide +kernel
theorem dX4_add_45 : decode cX4_add 45 = .ok (.iconst 1, 1) := by decide +kernel
theorem dX4_add_46 : decode cX4_add 46 = .ok (.isub, 1) := by decide +kernel
theorem dX4_add_47 : decode cX4_add 47 = .ok (.ireturn, 1) := by decide +kernel
theorem dX5_init_0 : decode cX5_init 0 = .ok (.aload_n 0, 1) := by decide +kernel
theorem dX5_init_1 : decode cX5_init 1 = .ok (.invokespecial 3, 3) := by decide +kernel
theorem dX5_init_4 : decode cX5_init 4 = .ok (.aload_n 0, 1) := by decide +kernel
theorem dX5_init_5 : decode cX5_init 5 = .ok (.bipush 10, 2) := by decide +kernel
theorem dX5_init_7 : decode cX5_init 7 = .ok (.newarray .int, 2) := by decide +kernel
theorem dX5_init_9 : decode cX5_init 9 = .ok (.putfield 9, 3) := by decide +kernel
theorem dX5_init_12 : decode cX5_init 12 = .ok (.aload_n 0, 1) := by decide +kernel
theorem dX5_init_13 : decode cX5_init 13 = .ok (.iconst (-1), 1) := by decide +kernel
theorem dX5_init_14 : decode cX5_init 14 = .ok (.putfield 15, 3) := by decide +kernel
theorem dX5_init_17 : decode cX5_init 17 = .ok (.aload_n 0, 1) := by decide +kernel
theorem dX5_init_18 : decode cX5_init 18 = .ok (.iconst (-1), 1) := by decide +kernel
theorem dX5_init_19 : decode cX5_init 19 = .ok (.putfield 19, 3) := by decide +kernel
theorem dX5_init_22 : decode cX5_init 22 = .ok (.return_, 1) := by decide +kernel
theorem dX5_read_0 : decode cX5_read 0 = .ok (.aload_n 0, 1) := by decide +kernel
theorem dX5_read_1 : decode cX5_read 1 = .ok (.iconst 0, 1) := by decide +kernel
theorem dX5_read_2 : decode cX5_read 2 = .ok (.putfield 15, 3) := by decide +kernel
theorem dX5_read_5 : decode cX5_read 5 = .ok (.aload_n 0, 1) := by decide +kernel
theorem dX5_read_6 : decode cX5_read 6 = .ok (.iconst (-1), 1) := by decide +kernel
theorem dX5_read_7 : decode cX5_read 7 = .ok (.putfield 19, 3) := by decide +kernel
theorem dX5_read_10 : decode cX5_read 10 = .ok (.aload_n 0, 1) := by decide +kernel
theorem dX5_read_11 : decode cX5_read 11 = .ok (.iconst 0, 1) := by decide +kernel
theorem dX5_read_12 : decode cX5_read 12 = .ok (.putfield 22, 3) := by decide +kernel
theorem dX5_read_15 : decode cX5_read 15 = .ok (.iconst 0, 1) := by decide +kernel
theorem dX5_read_16 : decode cX5_read 16 = .ok (.istore_n 2, 1) := by decide +kernel
theorem dX5_read_17 : decode cX5_read 17 = .ok (.iload_n 2, 1) := by decide +kernel
theorem dX5_read_18 : decode cX5_read 18 = .ok (.iconst 5, 1) := by decide +kernel
theorem dX5_read_19 : decode cX5_read 19 = .ok (.if_icmp .ge 33, 3) := by decide +kernel
theorem dX5_read_22 : decode cX5_read 22 = .ok (.aload_n 0, 1) := by decide +kernel
theorem dX5_read_23 : decode cX5_read 23 = .ok (.getfield 9, 3) := by decide +kernel
theorem dX5_read_26 : decode cX5_read 26 = .ok (.iconst 2, 1) := by decide +kernel
theorem dX5_read_27 : decode cX5_read 27 = .ok (.iload_n 2, 1) := by decide +kernel
theorem dX5_read_28 : decode cX5_read 28 = .ok (.imul, 1) := by decide +kernel
theorem dX5_read_29 : decode cX5_read 29 = .ok (.iconst 0, 1) := by decide +kernel
theorem dX5_read_30 : decode cX5_read 30 = .ok (.iastore, 1) := by decide +kernel
theorem dX5_read_31 : decode cX5_read 31 = .ok (.aload_n 0, 1) := by decide +kernel
theorem dX5_read_32 : decode cX5_read 32 = .ok (.getfield 9, 3) := by decide +kernel
theorem dX5_read_35 : decode cX5_read 35 = .ok (.iconst 2, 1) := by decide +kernel
theorem dX5_read_36 : decode cX5_read 36 = .ok (.iload_n 2, 1) := by decide +kernel
theorem dX5_read_37 : decode cX5_read 37 = .ok (.imul, 1) := by decide +kernel
theorem dX5_read_38 : decode cX5_read 38 = .ok (.iconst 1, 1) := by decide +kernel
theorem dX5_read_39 : decode cX5_read 39 = .ok (.iadd, 1) := by decide +kernel
theorem dX5_read_40 : decode cX5_read 40 = .ok (.getstatic 25, 3) := by decide +kernel
theorem dX5_read_43 : decode cX5_read 43 = .ok (.iload_n 2, 1) := by decide +kernel
theorem dX5_read_44 : decode cX5_read 44 = .ok (.iaload, 1) := by decide +kernel
theorem dX5_read_45 : decode cX5_read 45 = .ok (.iastore, 1) := by decide +kernel
theorem dX5_read_46 : decode cX5_read 46 = .ok (.iinc 2 1, 3) := by decide +kernel
theorem dX5_read_49 : decode cX5_read 49 = .ok (.goto (-32), 3) := by decide +kernel
theorem dX5_read_52 : decode cX5_read 52 = .ok (.aload_n 1, 1) := by decide +kernel
theorem dX5_read_53 : decode cX5_read 53 = .ok (.invokevirtual 28, 3) := by decide +kernel
theorem dX5_read_56 : decode cX5_read 56 = .ok (.iconst 0, 1) := by decide +kernel
theorem dX5_read_57 : decode cX5_read 57 = .ok (.istore_n 2, 1) := by decide +kernel
theorem dX5_read_58 : decode cX5_read 58 = .ok (.iload_n 2, 1) := by decide +kernel
theorem dX5_read_59 : decode cX5_read 59 = .ok (.iconst 4, 1) := by decide +kernel
theorem dX5_read_60 : decode cX5_read 60 = .ok (.if_icmp .gt 28, 3) := by decide +kernel
theorem dX5_read_63 : decode cX5_read 63 = .ok (.aload_n 0, 1) := by decide +kernel
theorem dX5_read_64 : decode cX5_read 64 = .ok (.getfield 15, 3) := by decide +kernel
theorem dX5_read_67 : decode cX5_read 67 = .ok (.ifCond .ne 21, 3) := by decide +kernel
theorem dX5_read_70 : decode cX5_read 70 = .ok (.aload_n 1, 1) := by decide +kernel
theorem dX5_read_71 : decode cX5_read 71 = .ok (.getfield 33, 3) := by decide +kernel
theorem dX5_read_74 : decode cX5_read 74 = .ok (.ifCond .eq 14, 3) := by decide +kernel
theorem dX5_read_77 : decode cX5_read 77 = .ok (.aload_n 0, 1) := by decide +kernel
theorem dX5_read_78 : decode cX5_read 78 = .ok (.aload_n 1, 1) := by decide +kernel
theorem dX5_read_79 : decode cX5_read 79 = .ok (.invokevirtual 36, 3) := by decide +kernel
theorem dX5_read_82 : decode cX5_read 82 = .ok (.iinc 2 1, 3) := by decide +kernel
theorem dX5_read_85 : decode cX5_read 85 = .ok (.goto (-27), 3) := by decide +kernel
theorem dX5_read_88 : decode cX5_read 88 = .ok (.return_, 1) := by decide +kernel
theorem dX5_readClause_0 : decode cX5_readClause 0 = .ok (.aload_n 1, 1) := by decide +kernel
theorem dX5_readClause_1 : decode cX5_readClause 1 = .ok (.invokestatic 40, 3) := by decide +kernel
theorem dX5_readClause_4 : decode cX5_readClause 4 = .ok (.istore_n 2, 1) := by decide +kernel
theorem dX5_readClause_5 : decode cX5_readClause 5 = .ok (.iload_n 2, 1) := by decide +kernel
theorem dX5_readClause_6 : decode cX5_readClause 6 = .ok (.iconst (-1), 1) := by decide +kernel
theorem dX5_readClause_7 : decode cX5_readClause 7 = .ok (.if_icmp .ne 12, 3) := by decide +kernel
theorem dX5_readClause_10 : decode cX5_readClause 10 = .ok (.aload_n 0, 1) := by decide +kernel
theorem dX5_readClause_11 : decode cX5_readClause 11 = .ok (.aload_n 1, 1) := by decide +kernel
theorem dX5_readClause_12 : decode cX5_readClause 12 = .ok (.iconst 1, 1) := by decide +kernel
theorem dX5_readClause_13 : decode cX5_readClause 13 = .ok (.invokevirtual 44, 3) := by decide +kernel
theorem dX5_readClause_16 : decode cX5_readClause 16 = .ok (.goto 62, 3) := by decide +kernel
theorem dX5_readClause_19 : decode cX5_readClause 19 = .ok (.aload_n 0, 1) := by decide +kernel
theorem dX5_readClause_20 : decode cX5_readClause 20 = .ok (.getfield 22, 3) := by decide +kernel
theorem dX5_readClause_23 : decode cX5_readClause 23 = .ok (.iload_n 2, 1) := by decide +kernel
theorem dX5_readClause_24 : decode cX5_readClause 24 = .ok (.ishr, 1) := by decide +kernel
theorem dX5_readClause_25 : decode cX5_readClause 25 = .ok (.iconst 1, 1) := by decide +kernel
theorem dX5_readClause_26 : decode cX5_readClause 26 = .ok (.iand, 1) := by decide +kernel
theorem dX5_readClause_27 : decode cX5_readClause 27 = .ok (.ifCond .eq 12, 3) := by decide +kernel
theorem dX5_readClause_30 : decode cX5_readClause 30 = .ok (.aload_n 0, 1) := by decide +kernel
theorem dX5_readClause_31 : decode cX5_readClause 31 = .ok (.aload_n 1, 1) := by decide +kernel
theorem dX5_readClause_32 : decode cX5_readClause 32 = .ok (.iconst 2, 1) := by decide +kernel
theorem dX5_readClause_33 : decode cX5_readClause 33 = .ok (.invokevirtual 44, 3) := by decide +kernel
theorem dX5_readClause_36 : decode cX5_readClause 36 = .ok (.goto 42, 3) := by decide +kernel
theorem dX5_readClause_39 : decode cX5_readClause 39 = .ok (.aload_n 0, 1) := by decide +kernel
theorem dX5_readClause_40 : decode cX5_readClause 40 = .ok (.dup, 1) := by decide +kernel
theorem dX5_readClause_41 : decode cX5_readClause 41 = .ok (.getfield 22, 3) := by decide +kernel
theorem dX5_readClause_44 : decode cX5_readClause 44 = .ok (.iconst 1, 1) := by decide +kernel
theorem dX5_readClause_45 : decode cX5_readClause 45 = .ok (.iload_n 2, 1) := by decide +kernel
theorem dX5_readClause_46 : decode cX5_readClause 46 = .ok (.ishl, 1) := by decide +kernel
theorem dX5_readClause_47 : decode cX5_readClause 47 = .ok (.ior, 1) := by decide +kernel
theorem dX5_readClause_48 : decode cX5_readClause 48 = .ok (.putfield 22, 3) := by decide +kernel
theorem dX5_readClause_51 : decode cX5_readClause 51 = .ok (.aload_n 1, 1) := by decide +kernel
theorem dX5_readClause_52 : decode cX5_readClause 52 = .ok (.invokevirtual 48, 3) := by decide +kernel
theorem dX5_readClause_55 : decode cX5_readClause 55 = .ok (.aload_n 0, 1) := by decide +kernel
theorem dX5_readClause_56 : decode cX5_readClause 56 = .ok (.aload_n 1, 1) := by decide +kernel
theorem dX5_readClause_57 : decode cX5_readClause 57 = .ok (.iload_n 2, 1) := by decide +kernel
theorem dX5_readClause_58 : decode cX5_readClause 58 = .ok (.invokevirtual 51, 3) := by decide +kernel
theorem dX5_readClause_61 : decode cX5_readClause 61 = .ok (.iload_n 2, 1) := by decide +kernel
theorem dX5_readClause_62 : decode cX5_readClause 62 = .ok (.iconst 3, 1) := by decide +kernel
theorem dX5_readClause_63 : decode cX5_readClause 63 = .ok (.if_icmp .ne 9, 3) := by decide +kernel
theorem dX5_readClause_66 : decode cX5_readClause 66 = .ok (.aload_n 0, 1) := by decide +kernel
theorem dX5_readClause_67 : decode cX5_readClause 67 = .ok (.aload_n 1, 1) := by decide +kernel
theorem dX5_readClause_68 : decode cX5_readClause 68 = .ok (.iconst 4, 1) := by decide +kernel
theorem dX5_readClause_69 : decode cX5_readClause 69 = .ok (.invokevirtual 51, 3) := by decide +kernel
theorem dX5_readClause_72 : decode cX5_readClause 72 = .ok (.aload_n 0, 1) := by decide +kernel
theorem dX5_readClause_73 : decode cX5_readClause 73 = .ok (.aload_n 1, 1) := by decide +kernel
theorem dX5_readClause_74 : decode cX5_readClause 74 = .ok (.iconst 4, 1) := by decide +kernel
theorem dX5_readClause_75 : decode cX5_readClause 75 = .ok (.invokevirtual 54, 3) := by decide +kernel
theorem dX5_readClause_78 : decode cX5_readClause 78 = .ok (.return_, 1) := by decide +kernel
theorem dX5_wordOf_0 : decode cX5_wordOf 0 = .ok (.aload_n 0, 1) := by decide +kernel
theorem dX5_wordOf_1 : decode cX5_wordOf 1 = .ok (.ldc 57, 2) := by decide +kernel
theorem dX5_wordOf_3 : decode cX5_wordOf 3 = .ok (.invokevirtual 59, 3) := by decide +kernel
theorem dX5_wordOf_6 : decode cX5_wordOf 6 = .ok (.ifCond .eq 5, 3) := by decide +kernel
theorem dX5_wordOf_9 : decode cX5_wordOf 9 = .ok (.iconst 0, 1) := by decide +kernel
theorem dX5_wordOf_10 : decode cX5_wordOf 10 = .ok (.ireturn, 1) := by decide +kernel
theorem dX5_wordOf_11 : decode cX5_wordOf 11 = .ok (.aload_n 0, 1) := by decide +kernel
theorem dX5_wordOf_12 : decode cX5_wordOf 12 = .ok (.ldc 63, 2) := by decide +kernel
theorem dX5_wordOf_14 : decode cX5_wordOf 14 = .ok (.invokevirtual 59, 3) := by decide +kernel
theorem dX5_wordOf_17 : decode cX5_wordOf 17 = .ok (.ifCond .eq 5, 3) := by decide +kernel
theorem dX5_wordOf_20 : decode cX5_wordOf 20 = .ok (.iconst 1, 1) := by decide +kernel
theorem dX5_wordOf_21 : decode cX5_wordOf 21 = .ok (.ireturn, 1) := by decide +kernel
theorem dX5_wordOf_22 : decode cX5_wordOf 22 = .ok (.aload_n 0, 1) := by decide +kernel
theorem dX5_wordOf_23 : decode cX5_wordOf 23 = .ok (.ldc 65, 2) := by decide +kernel
theorem dX5_wordOf_25 : decode cX5_wordOf 25 = .ok (.invokevirtual 59, 3) := by decide +kernel
theorem dX5_wordOf_28 : decode cX5_wordOf 28 = .ok (.ifCond .eq 5, 3) := by decide +kernel
theorem dX5_wordOf_31 : decode cX5_wordOf 31 = .ok (.iconst 2, 1) := by decide +kernel
theorem dX5_wordOf_32 : decode cX5_wordOf 32 = .ok (.ireturn, 1) := by decide +kernel
theorem dX5_wordOf_33 : decode cX5_wordOf 33 = .ok (.aload_n 0, 1) := by decide +kernel
theorem dX5_wordOf_34 : decode cX5_wordOf 34 = .ok (.ldc 67, 2) := by decide +kernel
theorem dX5_wordOf_36 : decode cX5_wordOf 36 = .ok (.invokevirtual 59, 3) := by decide +kernel
theorem dX5_wordOf_39 : decode cX5_wordOf 39 = .ok (.ifCond .eq 7, 3) := by decide +kernel
theorem dX5_wordOf_42 : decode cX5_wordOf 42 = .ok (.iconst 3, 1) := by decide +kernel
theorem dX5_wordOf_43 : decode cX5_wordOf 43 = .ok (.goto 4, 3) := by decide +kernel
theorem dX5_wordOf_46 : decode cX5_wordOf 46 = .ok (.iconst (-1), 1) := by decide +kernel
theorem dX5_wordOf_47 : decode cX5_wordOf 47 = .ok (.ireturn, 1) := by decide +kernel
theorem dX5_readRange_0 : decode cX5_readRange 0 = .ok (.aload_n 0, 1) := by decide +kernel
theorem dX5_readRange_1 : decode cX5_readRange 1 = .ok (.aload_n 1, 1) := by decide +kernel
theorem dX5_readRange_2 : decode cX5_readRange 2 = .ok (.iconst 2, 1) := by decide +kernel
theorem dX5_readRange_3 : decode cX5_readRange 3 = .ok (.iload_n 2, 1) := by decide +kernel
theorem dX5_readRange_4 : decode cX5_readRange 4 = .ok (.imul, 1) := by decide +kernel
theorem dX5_readRange_5 : decode cX5_readRange 5 = .ok (.iconst 0, 1) := by decide +kernel
theorem dX5_readRange_6 : decode cX5_readRange 6 = .ok (.getstatic 25, 3) := by decide +kernel
theorem dX5_readRange_9 : decode cX5_readRange 9 = .ok (.iload_n 2, 1) := by decide +kernel
theorem dX5_readRange_10 : decode cX5_readRange 10 = .ok (.iaload, 1) := by decide +kernel
theorem dX5_readRange_11 : decode cX5_readRange 11 = .ok (.invokevirtual 69, 3) := by decide +kernel
theorem dX5_readRange_14 : decode cX5_readRange 14 = .ok (.aload_n 0, 1) := by decide +kernel
theorem dX5_readRange_15 : decode cX5_readRange 15 = .ok (.aload_n 1, 1) := by decide +kernel
theorem dX5_readRange_16 : decode cX5_readRange 16 = .ok (.iconst 3, 1) := by decide +kernel
theorem dX5_readRange_17 : decode cX5_readRange 17 = .ok (.invokevirtual 54, 3) := by decide +kernel
theorem dX5_readRange_20 : decode cX5_readRange 20 = .ok (.iload_n 2, 1) := by decide +kernel
theorem dX5_readRange_21 : decode cX5_readRange 21 = .ok (.iconst 1, 1) := by decide +kernel
theorem dX5_readRange_22 : decode cX5_readRange 22 = .ok (.if_icmp .ne 7, 3) := by decide +kernel
theorem dX5_readRange_25 : decode cX5_readRange 25 = .ok (.iconst 0, 1) := by decide +kernel
theorem dX5_readRange_26 : decode cX5_readRange 26 = .ok (.goto 11, 3) := by decide +kernel
theorem dX5_readRange_29 : decode cX5_readRange 29 = .ok (.aload_n 0, 1) := by decide +kernel
theorem dX5_readRange_30 : decode cX5_readRange 30 = .ok (.getfield 9, 3) := by decide +kernel
theorem dX5_readRange_33 : decode cX5_readRange 33 = .ok (.iconst 2, 1) := by decide +kernel
theorem dX5_readRange_34 : decode cX5_readRange 34 = .ok (.iload_n 2, 1) := by decide +kernel
theorem dX5_readRange_35 : decode cX5_readRange 35 = .ok (.imul, 1) := by decide +kernel
theorem dX5_readRange_36 : decode cX5_readRange 36 = .ok (.iaload, 1) := by decide +kernel
theorem dX5_readRange_37 : decode cX5_readRange 37 = .ok (.istore_n 3, 1) := by decide +kernel
theorem dX5_readRange_38 : decode cX5_readRange 38 = .ok (.aload_n 0, 1) := by decide +kernel
theorem dX5_readRange_39 : decode cX5_readRange 39 = .ok (.aload_n 1, 1) := by decide +kernel
theorem dX5_readRange_40 : decode cX5_readRange 40 = .ok (.iconst 2, 1) := by decide +kernel
theorem dX5_readRange_41 : decode cX5_readRange 41 = .ok (.iload_n 2, 1) := by decide +kernel
theorem dX5_readRange_42 : decode cX5_readRange 42 = .ok (.imul, 1) := by decide +kernel
theorem dX5_readRange_43 : decode cX5_readRange 43 = .ok (.iconst 1, 1) := by decide +kernel
theorem dX5_readRange_44 : decode cX5_readRange 44 = .ok (.iadd, 1) := by decide +kernel
theorem dX5_readRange_45 : decode cX5_readRange 45 = .ok (.iload_n 3, 1) := by decide +kernel
theorem dX5_readRange_46 : decode cX5_readRange 46 = .ok (.getstatic 25, 3) := by decide +kernel
theorem dX5_readRange_49 : decode cX5_readRange 49 = .ok (.iload_n 2, 1) := by decide +kernel
theorem dX5_readRange_50 : decode cX5_readRange 50 = .ok (.iaload, 1) := by decide +kernel
theorem dX5_readRange_51 : decode cX5_readRange 51 = .ok (.invokevirtual 69, 3) := by decide +kernel
theorem dX5_readRange_54 : decode cX5_readRange 54 = .ok (.return_, 1) := by decide +kernel
theorem dX5_readNumber_0 : decode cX5_readNumber 0 = .ok (.aload_n 0, 1) := by decide +kernel
theorem dX5_readNumber_1 : decode cX5_readNumber 1 = .ok (.getfield 15, 3) := by decide +kernel
theorem dX5_readNumber_4 : decode cX5_readNumber 4 = .ok (.ifCond .eq 4, 3) := by decide +kernel
theorem dX5_readNumber_7 : decode cX5_readNumber 7 = .ok (.return_, 1) := by decide +kernel
theorem dX5_readNumber_8 : decode cX5_readNumber 8 = .ok (.aload_n 1, 1) := by decide +kernel
theorem dX5_readNumber_9 : decode cX5_readNumber 9 = .ok (.getfield 33, 3) := by decide +kernel
theorem dX5_readNumber_12 : decode cX5_readNumber 12 = .ok (.iconst 2, 1) := by decide +kernel
theorem dX5_readNumber_13 : decode cX5_readNumber 13 = .ok (.if_icmp .eq 10, 3) := by decide +kernel
theorem dX5_readNumber_16 : decode cX5_readNumber 16 = .ok (.aload_n 0, 1) := by decide +kernel
theorem dX5_readNumber_17 : decode cX5_readNumber 17 = .ok (.aload_n 1, 1) := by decide +kernel
theorem dX5_readNumber_18 : decode cX5_readNumber 18 = .ok (.iconst 1, 1) := by decide +kernel
theorem dX5_readNumber_19 : decode cX5_readNumber 19 = .ok (.invokevirtual 44, 3) := by decide +kernel
theorem dX5_readNumber_22 : decode cX5_readNumber 22 = .ok (.return_, 1) := by decide +kernel
theorem dX5_readNumber_23 : decode cX5_readNumber 23 = .ok (.aload_n 1, 1) := by decide +kernel
theorem dX5_readNumber_24 : decode cX5_readNumber 24 = .ok (.invokevirtual 73, 3) := by decide +kernel
theorem dX5_readNumber_27 : decode cX5_readNumber 27 = .ok (.istore 5, 2) := by decide +kernel
theorem dX5_readNumber_29 : decode cX5_readNumber 29 = .ok (.iload 5, 2) := by decide +kernel
theorem dX5_readNumber_31 : decode cX5_readNumber 31 = .ok (.iload_n 3, 1) := by decide +kernel
theorem dX5_readNumber_32 : decode cX5_readNumber 32 = .ok (.if_icmp .lt 10, 3) := by decide +kernel
theorem dX5_readNumber_35 : decode cX5_readNumber 35 = .ok (.iload 5, 2) := by decide +kernel
theorem dX5_readNumber_37 : decode cX5_readNumber 37 = .ok (.iload 4, 2) := by decide +kernel
theorem dX5_readNumber_39 : decode cX5_readNumber 39 = .ok (.if_icmp .le 10, 3) := by decide +kernel
theorem dX5_readNumber_42 : decode cX5_readNumber 42 = .ok (.aload_n 0, 1) := by decide +kernel
theorem dX5_readNumber_43 : decode cX5_readNumber 43 = .ok (.aload_n 1, 1) := by decide +kernel
theorem dX5_readNumber_44 : decode cX5_readNumber 44 = .ok (.iconst 3, 1) := by decide +kernel
theorem dX5_readNumber_45 : decode cX5_readNumber 45 = .ok (.invokevirtual 44, 3) := by decide +kernel
theorem dX5_readNumber_48 : decode cX5_readNumber 48 = .ok (.return_, 1) := by decide +kernel
theorem dX5_readNumber_49 : decode cX5_readNumber 49 = .ok (.aload_n 0, 1) := by decide +kernel
theorem dX5_readNumber_50 : decode cX5_readNumber 50 = .ok (.getfield 9, 3) := by decide +kernel
theorem dX5_readNumber_53 : decode cX5_readNumber 53 = .ok (.iload_n 2, 1) := by decide +kernel
theorem dX5_readNumber_54 : decode cX5_readNumber 54 = .ok (.iload 5, 2) := by decide +kernel
theorem dX5_readNumber_56 : decode cX5_readNumber 56 = .ok (.iastore, 1) := by decide +kernel
theorem dX5_readNumber_57 : decode cX5_readNumber 57 = .ok (.aload_n 1, 1) := by decide +kernel
theorem dX5_readNumber_58 : decode cX5_readNumber 58 = .ok (.invokevirtual 48, 3) := by decide +kernel
theorem dX5_readNumber_61 : decode cX5_readNumber 61 = .ok (.return_, 1) := by decide +kernel
theorem dX5_readSign_0 : decode cX5_readSign 0 = .ok (.aload_n 0, 1) := by decide +kernel
theorem dX5_readSign_1 : decode cX5_readSign 1 = .ok (.getfield 15, 3) := by decide +kernel
theorem dX5_readSign_4 : decode cX5_readSign 4 = .ok (.ifCond .eq 4, 3) := by decide +kernel
theorem dX5_readSign_7 : decode cX5_readSign 7 = .ok (.return_, 1) := by decide +kernel
theorem dX5_readSign_8 : decode cX5_readSign 8 = .ok (.aload_n 1, 1) := by decide +kernel
theorem dX5_readSign_9 : decode cX5_readSign 9 = .ok (.getfield 33, 3) := by decide +kernel
theorem dX5_readSign_12 : decode cX5_readSign 12 = .ok (.iload_n 2, 1) := by decide +kernel
theorem dX5_readSign_13 : decode cX5_readSign 13 = .ok (.if_icmp .eq 10, 3) := by decide +kernel
theorem dX5_readSign_16 : decode cX5_readSign 16 = .ok (.aload_n 0, 1) := by decide +kernel
theorem dX5_readSign_17 : decode cX5_readSign 17 = .ok (.aload_n 1, 1) := by decide +kernel
theorem dX5_readSign_18 : decode cX5_readSign 18 = .ok (.iconst 1, 1) := by decide +kernel
theorem dX5_readSign_19 : decode cX5_readSign 19 = .ok (.invokevirtual 44, 3) := by decide +kernel
theorem dX5_readSign_22 : decode cX5_readSign 22 = .ok (.return_, 1) := by decide +kernel
theorem dX5_readSign_23 : decode cX5_readSign 23 = .ok (.aload_n 1, 1) := by decide +kernel
theorem dX5_readSign_24 : decode cX5_readSign 24 = .ok (.invokevirtual 48, 3) := by decide +kernel
theorem dX5_readSign_27 : decode cX5_readSign 27 = .ok (.return_, 1) := by decide +kernel
theorem dX5_blame_0 : decode cX5_blame 0 = .ok (.aload_n 0, 1) := by decide +kernel
theorem dX5_blame_1 : decode cX5_blame 1 = .ok (.iload_n 2, 1) := by decide +kernel
theorem dX5_blame_2 : decode cX5_blame 2 = .ok (.putfield 15, 3) := by decide +kernel
theorem dX5_blame_5 : decode cX5_blame 5 = .ok (.aload_n 0, 1) := by decide +kernel
theorem dX5_blame_6 : decode cX5_blame 6 = .ok (.aload_n 1, 1) := by decide +kernel
theorem dX5_blame_7 : decode cX5_blame 7 = .ok (.getfield 77, 3) := by decide +kernel
theorem dX5_blame_10 : decode cX5_blame 10 = .ok (.putfield 19, 3) := by decide +kernel
theorem dX5_blame_13 : decode cX5_blame 13 = .ok (.return_, 1) := by decide +kernel
theorem dX6_init_0 : decode cX6_init 0 = .ok (.aload_n 0, 1) := by decide +kernel
theorem dX6_init_1 : decode cX6_init 1 = .ok (.invokespecial 3, 3) := by decide +kernel
theorem dX6_init_4 : decode cX6_init 4 = .ok (.aload_n 0, 1) := by decide +kernel
theorem dX6_init_5 : decode cX6_init 5 = .ok (.bipush 60, 2) := by decide +kernel
theorem dX6_init_7 : decode cX6_init 7 = .ok (.newarray .int, 2) := by decide +kernel
theorem dX6_init_9 : decode cX6_init 9 = .ok (.putfield 9, 3) := by decide +kernel
theorem dX6_init_12 : decode cX6_init 12 = .ok (.aload_n 0, 1) := by decide +kernel
theorem dX6_init_13 : decode cX6_init 13 = .ok (.bipush 32, 2) := by decide +kernel
theorem dX6_init_15 : decode cX6_init 15 = .ok (.newarray .int, 2) := by decide +kernel
theorem dX6_init_17 : decode cX6_init 17 = .ok (.putfield 15, 3) := by decide +kernel
theorem dX6_init_20 : decode cX6_init 20 = .ok (.return_, 1) := by decide +kernel
theorem dX6_draw_0 : decode cX6_draw 0 = .ok (.aload_n 0, 1) := by decide +kernel
theorem dX6_draw_1 : decode cX6_draw 1 = .ok (.iconst 0, 1) := by decide +kernel
theorem dX6_draw_2 : decode cX6_draw 2 = .ok (.putfield 18, 3) := by decide +kernel
theorem dX6_draw_5 : decode cX6_draw 5 = .ok (.aload_n 0, 1) := by decide +kernel
theorem dX6_draw_6 : decode cX6_draw 6 = .ok (.iconst (-1), 1) := by decide +kernel
theorem dX6_draw_7 : decode cX6_draw 7 = .ok (.putfield 22, 3) := by decide +kernel
theorem dX6_draw_10 : decode cX6_draw 10 = .ok (.aload_n 0, 1) := by decide +kernel
theorem dX6_draw_11 : decode cX6_draw 11 = .ok (.sipush 10000, 3) := by decide +kernel
theorem dX6_draw_14 : decode cX6_draw 14 = .ok (.putfield 25, 3) := by decide +kernel
theorem dX6_draw_17 : decode cX6_draw 17 = .ok (.aload_n 0, 1) := by decide +kernel
theorem dX6_draw_18 : decode cX6_draw 18 = .ok (.iconst (-1), 1) := by decide +kernel
theorem dX6_draw_19 : decode cX6_draw 19 = .ok (.putfield 28, 3) := by decide +kernel
theorem dX6_draw_22 : decode cX6_draw 22 = .ok (.aload_n 0, 1) := by decide +kernel
theorem dX6_draw_23 : decode cX6_draw 23 = .ok (.sipush 1000, 3) := by decide +kernel
theorem dX6_draw_26 : decode cX6_draw 26 = .ok (.putfield 31, 3) := by decide +kernel
theorem dX6_draw_29 : decode cX6_draw 29 = .ok (.aload_n 0, 1) := by decide +kernel
theorem dX6_draw_30 : decode cX6_draw 30 = .ok (.iconst (-1), 1) := by decide +kernel
theorem dX6_draw_31 : decode cX6_draw 31 = .ok (.putfield 34, 3) := by decide +kernel
theorem dX6_draw_34 : decode cX6_draw 34 = .ok (.aload_n 0, 1) := by decide +kernel
theorem dX6_draw_35 : decode cX6_draw 35 = .ok (.iconst 0, 1) := by decide +kernel
theorem dX6_draw_36 : decode cX6_draw 36 = .ok (.putfield 37, 3) := by decide +kernel
theorem dX6_draw_39 : decode cX6_draw 39 = .ok (.iconst 0, 1) := by decide +kernel
theorem dX6_draw_40 : decode cX6_draw 40 = .ok (.istore 4, 2) := by decide +kernel
theorem dX6_draw_42 : decode cX6_draw 42 = .ok (.iload 4, 2) := by decide +kernel
theorem dX6_draw_44 : decode cX6_draw 44 = .ok (.bipush 32, 2) := by decide +kernel
theorem dX6_draw_46 : decode cX6_draw 46 = .ok (.if_icmp .ge 17, 3) := by decide +kernel
theorem dX6_draw_49 : decode cX6_draw 49 = .ok (.aload_n 0, 1) := by decide +kernel
theorem dX6_draw_50 : decode cX6_draw 50 = .ok (.getfield 15, 3) := by decide +kernel
theorem dX6_draw_53 : decode cX6_draw 53 = .ok (.iload 4, 2) := by decide +kernel
theorem dX6_draw_55 : decode cX6_draw 55 = .ok (.iconst (-1), 1) := by decide +kernel
theorem dX6_draw_56 : decode cX6_draw 56 = .ok (.iastore, 1) := by decide +kernel
theorem dX6_draw_57 : decode cX6_draw 57 = .ok (.iinc 4 1, 3) := by decide +kernel
theorem dX6_draw_60 : decode cX6_draw 60 = .ok (.goto (-18), 3) := by decide +kernel
theorem dX6_draw_63 : decode cX6_draw 63 = .ok (.iconst 0, 1) := by decide +kernel
theorem dX6_draw_64 : decode cX6_draw 64 = .ok (.istore 4, 2) := by decide +kernel
theorem dX6_draw_66 : decode cX6_draw 66 = .ok (.iload 4, 2) := by decide +kernel
theorem dX6_draw_68 : decode cX6_draw 68 = .ok (.aload_n 1, 1) := by decide +kernel
theorem dX6_draw_69 : decode cX6_draw 69 = .ok (.getfield 40, 3) := by decide +kernel
theorem dX6_draw_72 : decode cX6_draw 72 = .ok (.getfield 46, 3) := by decide +kernel
theorem dX6_draw_75 : decode cX6_draw 75 = .ok (.if_icmp .ge 24, 3) := by decide +kernel
theorem dX6_draw_78 : decode cX6_draw 78 = .ok (.aload_n 2, 1) := by decide +kernel
theorem dX6_draw_79 : decode cX6_draw 79 = .ok (.iload 4, 2) := by decide +kernel
theorem dX6_draw_81 : decode cX6_draw 81 = .ok (.iaload, 1) := by decide +kernel
theorem dX6_draw_82 : decode cX6_draw 82 = .ok (.iload_n 3, 1) := by decide +kernel
theorem dX6_draw_83 : decode cX6_draw 83 = .ok (.if_icmp .ne 10, 3) := by decide +kernel
theorem dX6_draw_86 : decode cX6_draw 86 = .ok (.aload_n 0, 1) := by decide +kernel
theorem dX6_draw_87 : decode cX6_draw 87 = .ok (.aload_n 1, 1) := by decide +kernel
theorem dX6_draw_88 : decode cX6_draw 88 = .ok (.iload 4, 2) := by decide +kernel
theorem dX6_draw_90 : decode cX6_draw 90 = .ok (.invokevirtual 49, 3) := by decide +kernel
theorem dX6_draw_93 : decode cX6_draw 93 = .ok (.iinc 4 1, 3) := by decide +kernel
theorem dX6_draw_96 : decode cX6_draw 96 = .ok (.goto (-30), 3) := by decide +kernel
theorem dX6_draw_99 : decode cX6_draw 99 = .ok (.return_, 1) := by decide +kernel
theorem dX6_add_0 : decode cX6_add 0 = .ok (.aload_n 0, 1) := by decide +kernel
theorem dX6_add_1 : decode cX6_add 1 = .ok (.getfield 9, 3) := by decide +kernel
theorem dX6_add_4 : decode cX6_add 4 = .ok (.aload_n 0, 1) := by decide +kernel
theorem dX6_add_5 : decode cX6_add 5 = .ok (.getfield 18, 3) := by decide +kernel
theorem dX6_add_8 : decode cX6_add 8 = .ok (.iload_n 2, 1) := by decide +kernel
theorem dX6_add_9 : decode cX6_add 9 = .ok (.iastore, 1) := by decide +kernel
theorem dX6_add_10 : decode cX6_add 10 = .ok (.aload_n 0, 1) := by decide +kernel
theorem dX6_add_11 : decode cX6_add 11 = .ok (.dup, 1) := by decide +kernel
theorem dX6_add_12 : decode cX6_add 12 = .ok (.getfield 18, 3) := by decide +kernel
theorem dX6_add_15 : decode cX6_add 15 = .ok (.iconst 1, 1) := by decide +kernel
theorem dX6_add_16 : decode cX6_add 16 = .ok (.iadd, 1) := by decide +kernel
theorem dX6_add_17 : decode cX6_add 17 = .ok (.putfield 18, 3) := by decide +kernel
theorem dX6_add_20 : decode cX6_add 20 = .ok (.aload_n 0, 1) := by decide +kernel
theorem dX6_add_21 : decode cX6_add 21 = .ok (.aload_n 1, 1) := by decide +kernel
theorem dX6_add_22 : decode cX6_add 22 = .ok (.getfield 40, 3) := by decide +kernel
theorem dX6_add_25 : decode cX6_add 25 = .ok (.getfield 53, 3) := by decide +kernel
theorem dX6_add_28 : decode cX6_add 28 = .ok (.iload_n 2, 1) := by decide +kernel
theorem dX6_add_29 : decode cX6_add 29 = .ok (.iaload, 1) := by decide +kernel
theorem dX6_add_30 : decode cX6_add 30 = .ok (.putfield 22, 3) := by decide +kernel
theorem dX6_add_33 : decode cX6_add 33 = .ok (.aload_n 0, 1) := by decide +kernel
theorem dX6_add_34 : decode cX6_add 34 = .ok (.aload_n 0, 1) := by decide +kernel
theorem dX6_add_35 : decode cX6_add 35 = .ok (.getfield 25, 3) := by decide +kernel
theorem dX6_add_38 : decode cX6_add 38 = .ok (.aload_n 1, 1) := by decide +kernel
theorem dX6_add_39 : decode cX6_add 39 = .ok (.getfield 40, 3) := by decide +kernel
theorem dX6_add_42 : decode cX6_add 42 = .ok (.getfield 55, 3) := by decide +kernel
theorem dX6_add_45 : decode cX6_add 45 = .ok (.iload_n 2, 1) := by decide +kernel
theorem dX6_add_46 : decode cX6_add 46 = .ok (.iaload, 1) := by decide +kernel
theorem dX6_add_47 : decode cX6_add 47 = .ok (.invokestatic 58, 3) := by decide +kernel
theorem dX6_add_50 : decode cX6_add 50 = .ok (.putfield 25, 3) := by decide +kernel
theorem dX6_add_53 : decode cX6_add 53 = .ok (.aload_n 0, 1) := by decide +kernel
theorem dX6_add_54 : decode cX6_add 54 = .ok (.aload_n 0, 1) := by decide +kernel
theorem dX6_add_55 : decode cX6_add 55 = .ok (.getfield 28, 3) := by decide +kernel
theorem dX6_add_58 : decode cX6_add 58 = .ok (.aload_n 1, 1) := by decide +kernel
theorem dX6_add_59 : decode cX6_add 59 = .ok (.getfield 40, 3) := by decide +kernel
theorem dX6_add_62 : decode cX6_add 62 = .ok (.getfield 64, 3) := by decide +kernel
theorem dX6_add_65 : decode cX6_add 65 = .ok (.iload_n 2, 1) := by decide +kernel
theorem dX6_add_66 : decode cX6_add 66 = .ok (.iaload, 1) := by decide +kernel
theorem dX6_add_67 : decode cX6_add 67 = .ok (.invokestatic 67, 3) := by decide +kernel
theorem dX6_add_70 : decode cX6_add 70 = .ok (.putfield 28, 3) := by decide +kernel
theorem dX6_add_73 : decode cX6_add 73 = .ok (.aload_n 0, 1) := by decide +kernel
theorem dX6_add_74 : decode cX6_add 74 = .ok (.aload_n 0, 1) := by decide +kernel
theorem dX6_add_75 : decode cX6_add 75 = .ok (.getfield 31, 3) := by decide +kernel
theorem dX6_add_78 : decode cX6_add 78 = .ok (.aload_n 1, 1) := by decide +kernel
theorem dX6_add_79 : decode cX6_add 79 = .ok (.getfield 70, 3) := by decide +kernel
theorem dX6_add_82 : decode cX6_add 82 = .ok (.iload_n 2, 1) := by decide +kernel
theorem dX6_add_83 : decode cX6_add 83 = .ok (.iaload, 1) := by decide +kernel
theorem dX6_add_84 : decode cX6_add 84 = .ok (.invokestatic 58, 3) := by decide +kernel
theorem dX6_add_87 : decode cX6_add 87 = .ok (.putfield 31, 3) := by decide +kernel
theorem dX6_add_90 : decode cX6_add 90 = .ok (.aload_n 0, 1) := by decide +kernel
theorem dX6_add_91 : decode cX6_add 91 = .ok (.aload_n 0, 1) := by decide +kernel
theorem dX6_add_92 : decode cX6_add 92 = .ok (.getfield 34, 3) := by decide +kernel
theorem dX6_add_95 : decode cX6_add 95 = .ok (.aload_n 1, 1) := by decide +kernel
theorem dX6_add_96 : decode cX6_add 96 = .ok (.getfield 70, 3) := by decide +kernel
theorem dX6_add_99 : decode cX6_add 99 = .ok (.iload_n 2, 1) := by decide +kernel
theorem dX6_add_100 : decode cX6_add 100 = .ok (.iaload, 1) := by decide +kernel
theorem dX6_add_101 : decode cX6_add 101 = .ok (.invokestatic 67, 3) := by decide +kernel
theorem dX6_add_104 : decode cX6_add 104 = .ok (.putfield 34, 3) := by decide +kernel
theorem dX6_add_107 : decode cX6_add 107 = .ok (.aload_n 0, 1) := by decide +kernel
theorem dX6_add_108 : decode cX6_add 108 = .ok (.dup, 1) := by decide +kernel
theorem dX6_add_109 : decode cX6_add 109 = .ok (.getfield 37, 3) := by decide +kernel
theorem dX6_add_112 : decode cX6_add 112 = .ok (.iconst 1, 1) := by decide +kernel
theorem dX6_add_113 : decode cX6_add 113 = .ok (.aload_n 1, 1) := by decide +kernel
theorem dX6_add_114 : decode cX6_add 114 = .ok (.getfield 40, 3) := by decide +kernel
theorem dX6_add_117 : decode cX6_add 117 = .ok (.getfield 73, 3) := by decide +kernel
theorem dX6_add_120 : decode cX6_add 120 = .ok (.iload_n 2, 1) := by decide +kernel
theorem dX6_add_121 : decode cX6_add 121 = .ok (.iaload, 1) := by decide +kernel
theorem dX6_add_122 : decode cX6_add 122 = .ok (.ishl, 1) := by decide +kernel
theorem dX6_add_123 : decode cX6_add 123 = .ok (.ior, 1) := by decide +kernel
theorem dX6_add_124 : decode cX6_add 124 = .ok (.putfield 37, 3) := by decide +kernel
theorem dX6_add_127 : decode cX6_add 127 = .ok (.iconst 0, 1) := by decide +kernel
theorem dX6_add_128 : decode cX6_add 128 = .ok (.istore_n 3, 1) := by decide +kernel
theorem dX6_add_129 : decode cX6_add 129 = .ok (.aload_n 1, 1) := by decide +kernel
theorem dX6_add_130 : decode cX6_add 130 = .ok (.getfield 76, 3) := by decide +kernel
theorem dX6_add_133 : decode cX6_add 133 = .ok (.iload_n 2, 1) := by decide +kernel
theorem dX6_add_134 : decode cX6_add 134 = .ok (.baload, 1) := by decide +kernel
theorem dX6_add_135 : decode cX6_add 135 = .ok (.ifCond .eq 32, 3) := by decide +kernel
theorem dX6_add_138 : decode cX6_add 138 = .ok (.iload_n 3, 1) := by decide +kernel
theorem dX6_add_139 : decode cX6_add 139 = .ok (.bipush 32, 2) := by decide +kernel
theorem dX6_add_141 : decode cX6_add 141 = .ok (.if_icmp .ge 26, 3) := by decide +kernel
theorem dX6_add_144 : decode cX6_add 144 = .ok (.aload_n 0, 1) := by decide +kernel
theorem dX6_add_145 : decode cX6_add 145 = .ok (.getfield 15, 3) := by decide +kernel
theorem dX6_add_148 : decode cX6_add 148 = .ok (.iload_n 3, 1) := by decide +kernel
theorem dX6_add_149 : decode cX6_add 149 = .ok (.dup2, 1) := by decide +kernel
theorem dX6_add_150 : decode cX6_add 150 = .ok (.iaload, 1) := by decide +kernel
theorem dX6_add_151 : decode cX6_add 151 = .ok (.aload_n 1, 1) := by decide +kernel
theorem dX6_add_152 : decode cX6_add 152 = .ok (.getfield 80, 3) := by decide +kernel
theorem dX6_add_155 : decode cX6_add 155 = .ok (.iload_n 2, 1) := by decide +kernel
theorem dX6_add_156 : decode cX6_add 156 = .ok (.aaload, 1) := by decide +kernel
theorem dX6_add_157 : decode cX6_add 157 = .ok (.iload_n 3, 1) := by decide +kernel
theorem dX6_add_158 : decode cX6_add 158 = .ok (.iaload, 1) := by decide +kernel
theorem dX6_add_159 : decode cX6_add 159 = .ok (.iand, 1) := by decide +kernel
theorem dX6_add_160 : decode cX6_add 160 = .ok (.iastore, 1) := by decide +kernel
theorem dX6_add_161 : decode cX6_add 161 = .ok (.iinc 3 1, 3) := by decide +kernel
theorem dX6_add_164 : decode cX6_add 164 = .ok (.goto (-35), 3) := by decide +kernel
theorem dX6_add_167 : decode cX6_add 167 = .ok (.return_, 1) := by decide +kernel
theorem dX6_has_0 : decode cX6_has 0 = .ok (.aload_n 0, 1) := by decide +kernel
theorem dX6_has_1 : decode cX6_has 1 = .ok (.getfield 15, 3) := by decide +kernel
theorem dX6_has_4 : decode cX6_has 4 = .ok (.iload_n 1, 1) := by decide +kernel
theorem dX6_has_5 : decode cX6_has 5 = .ok (.bipush 32, 2) := by decide +kernel
theorem dX6_has_7 : decode cX6_has 7 = .ok (.idiv, 1) := by decide +kernel
theorem dX6_has_8 : decode cX6_has 8 = .ok (.iaload, 1) := by decide +kernel
theorem dX6_has_9 : decode cX6_has 9 = .ok (.iload_n 1, 1) := by decide +kernel
theorem dX6_has_10 : decode cX6_has 10 = .ok (.bipush 32, 2) := by decide +kernel
theorem dX6_has_12 : decode cX6_has 12 = .ok (.irem, 1) := by decide +kernel
theorem dX6_has_13 : decode cX6_has 13 = .ok (.ishr, 1) := by decide +kernel
theorem dX6_has_14 : decode cX6_has 14 = .ok (.iconst 1, 1) := by decide +kernel
theorem dX6_has_15 : decode cX6_has 15 = .ok (.iand, 1) := by decide +kernel
theorem dX6_has_16 : decode cX6_has 16 = .ok (.ifCond .eq 7, 3) := by decide +kernel
theorem dX6_has_19 : decode cX6_has 19 = .ok (.iconst 1, 1) := by decide +kernel
theorem dX6_has_20 : decode cX6_has 20 = .ok (.goto 4, 3) := by decide +kernel
theorem dX6_has_23 : decode cX6_has 23 = .ok (.iconst 0, 1) := by decide +kernel
theorem dX6_has_24 : decode cX6_has 24 = .ok (.ireturn, 1) := by decide +kernel
theorem dX6_countFields_0 : decode cX6_countFields 0 = .ok (.iconst 0, 1) := by decide +kernel
theorem dX6_countFields_1 : decode cX6_countFields 1 = .ok (.istore_n 1, 1) := by decide +kernel
theorem dX6_countFields_2 : decode cX6_countFields 2 = .ok (.iconst 0, 1) := by decide +kernel
theorem dX6_countFields_3 : decode cX6_countFields 3 = .ok (.istore_n 2, 1) := by decide +kernel
theorem dX6_countFields_4 : decode cX6_countFields 4 = .ok (.iload_n 2, 1) := by decide +kernel
theorem dX6_countFields_5 : decode cX6_countFields 5 = .ok (.bipush 32, 2) := by decide +kernel
theorem dX6_countFields_7 : decode cX6_countFields 7 = .ok (.if_icmp .ge 21, 3) := by decide +kernel
theorem dX6_countFields_10 : decode cX6_countFields 10 = .ok (.iload_n 1, 1) := by decide +kernel
theorem dX6_countFields_11 : decode cX6_countFields 11 = .ok (.aload_n 0, 1) := by decide +kernel
theorem dX6_countFields_12 : decode cX6_countFields 12 = .ok (.getfield 15, 3) := by decide +kernel
theorem dX6_countFields_15 : decode cX6_countFields 15 = .ok (.iload_n 2, 1) := by decide +kernel
theorem dX6_countFields_16 : decode cX6_countFields 16 = .ok (.iaload, 1) := by decide +kernel
theorem dX6_countFields_17 : decode cX6_countFields 17 = .ok (.invokestatic 83, 3) := by decide +kernel
theorem dX6_countFields_20 : decode cX6_countFields 20 = .ok (.iadd, 1) := by decide +kernel
theorem dX6_countFields_21 : decode cX6_countFields 21 = .ok (.istore_n 1, 1) := by decide +kernel
theorem dX6_countFields_22 : decode cX6_countFields 22 = .ok (.iinc 2 1, 3) := by decide +kernel
theorem dX6_countFields_25 : decode cX6_countFields 25 = .ok (.goto (-21), 3) := by decide +kernel
theorem dX6_countFields_28 : decode cX6_countFields 28 = .ok (.iload_n 1, 1) := by decide +kernel
theorem dX6_countFields_29 : decode cX6_countFields 29 = .ok (.ireturn, 1) := by decide +kernel
theorem dX6_fieldAt_0 : decode cX6_fieldAt 0 = .ok (.iconst 0, 1) := by decide +kernel
theorem dX6_fieldAt_1 : decode cX6_fieldAt 1 = .ok (.istore_n 2, 1) := by decide +kernel
theorem dX6_fieldAt_2 : decode cX6_fieldAt 2 = .ok (.iconst 0, 1) := by decide +kernel
theorem dX6_fieldAt_3 : decode cX6_fieldAt 3 = .ok (.istore_n 3, 1) := by decide +kernel
theorem dX6_fieldAt_4 : decode cX6_fieldAt 4 = .ok (.iload_n 3, 1) := by decide +kernel
theorem dX6_fieldAt_5 : decode cX6_fieldAt 5 = .ok (.sipush 1024, 3) := by decide +kernel
theorem dX6_fieldAt_8 : decode cX6_fieldAt 8 = .ok (.if_icmp .ge 27, 3) := by decide +kernel
theorem dX6_fieldAt_11 : decode cX6_fieldAt 11 = .ok (.aload_n 0, 1) := by decide +kernel
theorem dX6_fieldAt_12 : decode cX6_fieldAt 12 = .ok (.iload_n 3, 1) := by decide +kernel
theorem dX6_fieldAt_13 : decode cX6_fieldAt 13 = .ok (.invokevirtual 89, 3) := by decide +kernel
theorem dX6_fieldAt_16 : decode cX6_fieldAt 16 = .ok (.ifCond .eq 13, 3) := by decide +kernel
theorem dX6_fieldAt_19 : decode cX6_fieldAt 19 = .ok (.iload_n 2, 1) := by decide +kernel
theorem dX6_fieldAt_20 : decode cX6_fieldAt 20 = .ok (.iload_n 1, 1) := by decide +kernel
theorem dX6_fieldAt_21 : decode cX6_fieldAt 21 = .ok (.if_icmp .ne 5, 3) := by decide +kernel
theorem dX6_fieldAt_24 : decode cX6_fieldAt 24 = .ok (.iload_n 3, 1) := by decide +kernel
theorem dX6_fieldAt_25 : decode cX6_fieldAt 25 = .ok (.ireturn, 1) := by decide +kernel
theorem dX6_fieldAt_26 : decode cX6_fieldAt 26 = .ok (.iinc 2 1, 3) := by decide +kernel
theorem dX6_fieldAt_29 : decode cX6_fieldAt 29 = .ok (.iinc 3 1, 3) := by decide +kernel
theorem dX6_fieldAt_32 : decode cX6_fieldAt 32 = .ok (.goto (-28), 3) := by decide +kernel
theorem dX6_fieldAt_35 : decode cX6_fieldAt 35 = .ok (.iconst (-1), 1) := by decide +kernel
theorem dX6_fieldAt_36 : decode cX6_fieldAt 36 = .ok (.ireturn, 1) := by decide +kernel
theorem dX6_edge_0 : decode cX6_edge 0 = .ok (.iconst (-1), 1) := by decide +kernel
theorem dX6_edge_1 : decode cX6_edge 1 = .ok (.istore_n 3, 1) := by decide +kernel
theorem dX6_edge_2 : decode cX6_edge 2 = .ok (.iconst 0, 1) := by decide +kernel
theorem dX6_edge_3 : decode cX6_edge 3 = .ok (.istore 4, 2) := by decide +kernel
theorem dX6_edge_5 : decode cX6_edge 5 = .ok (.iload 4, 2) := by decide +kernel
theorem dX6_edge_7 : decode cX6_edge 7 = .ok (.sipush 1024, 3) := by decide +kernel
theorem dX6_edge_10 : decode cX6_edge 10 = .ok (.if_icmp .ge 81, 3) := by decide +kernel
theorem dX6_edge_13 : decode cX6_edge 13 = .ok (.iload_n 1, 1) := by decide +kernel
theorem dX6_edge_14 : decode cX6_edge 14 = .ok (.ifCond .eq 11, 3) := by decide +kernel
theorem dX6_edge_17 : decode cX6_edge 17 = .ok (.iload 4, 2) := by decide +kernel
theorem dX6_edge_19 : decode cX6_edge 19 = .ok (.bipush 32, 2) := by decide +kernel
theorem dX6_edge_21 : decode cX6_edge 21 = .ok (.idiv, 1) := by decide +kernel
theorem dX6_edge_22 : decode cX6_edge 22 = .ok (.goto 8, 3) := by decide +kernel
theorem dX6_edge_25 : decode cX6_edge 25 = .ok (.iload 4, 2) := by decide +kernel
theorem dX6_edge_27 : decode cX6_edge 27 = .ok (.bipush 32, 2) := by decide +kernel
theorem dX6_edge_29 : decode cX6_edge 29 = .ok (.irem, 1) := by decide +kernel
theorem dX6_edge_30 : decode cX6_edge 30 = .ok (.istore 5, 2) := by decide +kernel
theorem dX6_edge_32 : decode cX6_edge 32 = .ok (.iload_n 2, 1) := by decide +kernel
theorem dX6_edge_33 : decode cX6_edge 33 = .ok (.ifCond .eq 17, 3) := by decide +kernel
theorem dX6_edge_36 : decode cX6_edge 36 = .ok (.iload 5, 2) := by decide +kernel
theorem dX6_edge_38 : decode cX6_edge 38 = .ok (.iload_n 3, 1) := by decide +kernel
theorem dX6_edge_39 : decode cX6_edge 39 = .ok (.if_icmp .le 7, 3) := by decide +kernel
theorem dX6_edge_42 : decode cX6_edge 42 = .ok (.iconst 1, 1) := by decide +kernel
theorem dX6_edge_43 : decode cX6_edge 43 = .ok (.goto 18, 3) := by decide +kernel
theorem dX6_edge_46 : decode cX6_edge 46 = .ok (.iconst 0, 1) := by decide +kernel
theorem dX6_edge_47 : decode cX6_edge 47 = .ok (.goto 14, 3) := by decide +kernel
theorem dX6_edge_50 : decode cX6_edge 50 = .ok (.iload 5, 2) := by decide +kernel
theorem dX6_edge_52 : decode cX6_edge 52 = .ok (.iload_n 3, 1) := by decide +kernel
theorem dX6_edge_53 : decode cX6_edge 53 = .ok (.if_icmp .ge 7, 3) := by decide +kernel
theorem dX6_edge_56 : decode cX6_edge 56 = .ok (.iconst 1, 1) := by decide +kernel
theorem dX6_edge_57 : decode cX6_edge 57 = .ok (.goto 4, 3) := by decide +kernel
theorem dX6_edge_60 : decode cX6_edge 60 = .ok (.iconst 0, 1) := by decide +kernel
theorem dX6_edge_61 : decode cX6_edge 61 = .ok (.istore 6, 2) := by decide +kernel
theorem dX6_edge_63 : decode cX6_edge 63 = .ok (.aload_n 0, 1) := by decide +kernel
theorem dX6_edge_64 : decode cX6_edge 64 = .ok (.iload 4, 2) := by decide +kernel
theorem dX6_edge_66 : decode cX6_edge 66 = .ok (.invokevirtual 89, 3) := by decide +kernel
theorem dX6_edge_69 : decode cX6_edge 69 = .ok (.ifCond .eq 16, 3) := by decide +kernel
theorem dX6_edge_72 : decode cX6_edge 72 = .ok (.iload_n 3, 1) := by decide +kernel
theorem dX6_edge_73 : decode cX6_edge 73 = .ok (.iconst (-1), 1) := by decide +kernel
theorem dX6_edge_74 : decode cX6_edge 74 = .ok (.if_icmp .eq 8, 3) := by decide +kernel
theorem dX6_edge_77 : decode cX6_edge 77 = .ok (.iload 6, 2) := by decide +kernel
theorem dX6_edge_79 : decode cX6_edge 79 = .ok (.ifCond .eq 6, 3) := by decide +kernel
theorem dX6_edge_82 : decode cX6_edge 82 = .ok (.iload 5, 2) := by decide +kernel
theorem dX6_edge_84 : decode cX6_edge 84 = .ok (.istore_n 3, 1) := by decide +kernel
theorem dX6_edge_85 : decode cX6_edge 85 = .ok (.iinc 4 1, 3) := by decide +kernel
theorem dX6_edge_88 : decode cX6_edge 88 = .ok (.goto (-83), 3) := by decide +kernel
theorem dX6_edge_91 : decode cX6_edge 91 = .ok (.iload_n 3, 1) := by decide +kernel
theorem dX6_edge_92 : decode cX6_edge 92 = .ok (.ireturn, 1) := by decide +kernel
theorem dX7_init_0 : decode cX7_init 0 = .ok (.aload_n 0, 1) := by decide +kernel
theorem dX7_init_1 : decode cX7_init 1 = .ok (.invokespecial 3, 3) := by decide +kernel
theorem dX7_init_4 : decode cX7_init 4 = .ok (.iconst 0, 1) := by decide +kernel
theorem dX7_init_5 : decode cX7_init 5 = .ok (.iload_n 1, 1) := by decide +kernel
theorem dX7_init_6 : decode cX7_init 6 = .ok (.invokestatic 9, 3) := by decide +kernel
theorem dX7_init_9 : decode cX7_init 9 = .ok (.istore_n 2, 1) := by decide +kernel
theorem dX7_init_10 : decode cX7_init 10 = .ok (.aload_n 0, 1) := by decide +kernel
theorem dX7_init_11 : decode cX7_init 11 = .ok (.iload_n 2, 1) := by decide +kernel
theorem dX7_init_12 : decode cX7_init 12 = .ok (.newarray .int, 2) := by decide +kernel
theorem dX7_init_14 : decode cX7_init 14 = .ok (.putfield 15, 3) := by decide +kernel
theorem dX7_init_17 : decode cX7_init 17 = .ok (.aload_n 0, 1) := by decide +kernel
theorem dX7_init_18 : decode cX7_init 18 = .ok (.iload_n 2, 1) := by decide +kernel
theorem dX7_init_19 : decode cX7_init 19 = .ok (.newarray .int, 2) := by decide +kernel
theorem dX7_init_21 : decode cX7_init 21 = .ok (.putfield 21, 3) := by decide +kernel
theorem dX7_init_24 : decode cX7_init 24 = .ok (.aload_n 0, 1) := by decide +kernel
theorem dX7_init_25 : decode cX7_init 25 = .ok (.iload_n 2, 1) := by decide +kernel
theorem dX7_init_26 : decode cX7_init 26 = .ok (.newarray .int, 2) := by decide +kernel
theorem dX7_init_28 : decode cX7_init 28 = .ok (.putfield 24, 3) := by decide +kernel
theorem dX7_init_31 : decode cX7_init 31 = .ok (.aload_n 0, 1) := by decide +kernel
theorem dX7_init_32 : decode cX7_init 32 = .ok (.iload_n 2, 1) := by decide +kernel
theorem dX7_init_33 : decode cX7_init 33 = .ok (.newarray .int, 2) := by decide +kernel
theorem dX7_init_35 : decode cX7_init 35 = .ok (.putfield 27, 3) := by decide +kernel
theorem dX7_init_38 : decode cX7_init 38 = .ok (.return_, 1) := by decide +kernel
theorem dX7_add_0 : decode cX7_add 0 = .ok (.aload_n 0, 1) := by decide +kernel
theorem dX7_add_1 : decode cX7_add 1 = .ok (.getfield 30, 3) := by decide +kernel
theorem dX7_add_4 : decode cX7_add 4 = .ok (.aload_n 0, 1) := by decide +kernel
theorem dX7_add_5 : decode cX7_add 5 = .ok (.getfield 15, 3) := by decide +kernel
theorem dX7_add_8 : decode cX7_add 8 = .ok (.arraylength, 1) := by decide +kernel
theorem dX7_add_9 : decode cX7_add 9 = .ok (.if_icmp .lt 5, 3) := by decide +kernel
theorem dX7_add_12 : decode cX7_add 12 = .ok (.iconst (-1), 1) := by decide +kernel
theorem dX7_add_13 : decode cX7_add 13 = .ok (.ireturn, 1) := by decide +kernel
theorem dX7_add_14 : decode cX7_add 14 = .ok (.aload_n 0, 1) := by decide +kernel
theorem dX7_add_15 : decode cX7_add 15 = .ok (.getfield 15, 3) := by decide +kernel
theorem dX7_add_18 : decode cX7_add 18 = .ok (.aload_n 0, 1) := by decide +kernel
theorem dX7_add_19 : decode cX7_add 19 = .ok (.getfield 30, 3) := by decide +kernel
theorem dX7_add_22 : decode cX7_add 22 = .ok (.iload_n 1, 1) := by decide +kernel
theorem dX7_add_23 : decode cX7_add 23 = .ok (.iastore, 1) := by decide +kernel
theorem dX7_add_24 : decode cX7_add 24 = .ok (.aload_n 0, 1) := by decide +kernel
theorem dX7_add_25 : decode cX7_add 25 = .ok (.getfield 21, 3) := by decide +kernel
theorem dX7_add_28 : decode cX7_add 28 = .ok (.aload_n 0, 1) := by decide +kernel
theorem dX7_add_29 : decode cX7_add 29 = .ok (.getfield 30, 3) := by decide +kernel
theorem dX7_add_32 : decode cX7_add 32 = .ok (.iload_n 2, 1) := by decide +kernel
theorem dX7_add_33 : decode cX7_add 33 = .ok (.iastore, 1) := by decide +kernel
theorem dX7_add_34 : decode cX7_add 34 = .ok (.aload_n 0, 1) := by decide +kernel
theorem dX7_add_35 : decode cX7_add 35 = .ok (.getfield 24, 3) := by decide +kernel
theorem dX7_add_38 : decode cX7_add 38 = .ok (.aload_n 0, 1) := by decide +kernel
theorem dX7_add_39 : decode cX7_add 39 = .ok (.getfield 30, 3) := by decide +kernel
theorem dX7_add_42 : decode cX7_add 42 = .ok (.iload_n 3, 1) := by decide +kernel
theorem dX7_add_43 : decode cX7_add 43 = .ok (.iastore, 1) := by decide +kernel
theorem dX7_add_44 : decode cX7_add 44 = .ok (.aload_n 0, 1) := by decide +kernel
theorem dX7_add_45 : decode cX7_add 45 = .ok (.getfield 27, 3) := by decide +kernel
theorem dX7_add_48 : decode cX7_add 48 = .ok (.aload_n 0, 1) := by decide +kernel
theorem dX7_add_49 : decode cX7_add 49 = .ok (.getfield 30, 3) := by decide +kernel
theorem dX7_add_52 : decode cX7_add 52 = .ok (.iload 4, 2) := by decide +kernel
theorem dX7_add_54 : decode cX7_add 54 = .ok (.iastore, 1) := by decide +kernel
theorem dX7_add_55 : decode cX7_add 55 = .ok (.aload_n 0, 1) := by decide +kernel
theorem dX7_add_56 : decode cX7_add 56 = .ok (.dup, 1) := by decide +kernel
theorem dX7_add_57 : decode cX7_add 57 = .ok (.getfield 30, 3) := by decide +kernel
theorem dX7_add_60 : decode cX7_add 60 = .ok (.iconst 1, 1) := by decide +kernel
theorem dX7_add_61 : decode cX7_add 61 = .ok (.iadd, 1) := by decide +kernel
theorem dX7_add_62 : decode cX7_add 62 = .ok (.putfield 30, 3) := by decide +kernel
theorem dX7_add_65 : decode cX7_add 65 = .ok (.aload_n 0, 1) := by decide +kernel
theorem dX7_add_66 : decode cX7_add 66 = .ok (.getfield 30, 3) := by decide +kernel
theorem dX7_add_69 : decode cX7_add 69 = .ok (.iconst 1, 1) := by decide +kernel
theorem dX7_add_70 : decode cX7_add 70 = .ok (.isub, 1) := by decide +kernel
theorem dX7_add_71 : decode cX7_add 71 = .ok (.ireturn, 1) := by decide +kernel
theorem dX7_holds_0 : decode cX7_holds 0 = .ok (.iconst 0, 1) := by decide +kernel
theorem dX7_holds_1 : decode cX7_holds 1 = .ok (.istore_n 3, 1) := by decide +kernel
theorem dX7_holds_2 : decode cX7_holds 2 = .ok (.iload_n 3, 1) := by decide +kernel
theorem dX7_holds_3 : decode cX7_holds 3 = .ok (.aload_n 0, 1) := by decide +kernel
theorem dX7_holds_4 : decode cX7_holds 4 = .ok (.getfield 30, 3) := by decide +kernel
theorem dX7_holds_7 : decode cX7_holds 7 = .ok (.if_icmp .ge 41, 3) := by decide +kernel
theorem dX7_holds_10 : decode cX7_holds 10 = .ok (.aload_n 0, 1) := by decide +kernel
theorem dX7_holds_11 : decode cX7_holds 11 = .ok (.getfield 21, 3) := by decide +kernel
theorem dX7_holds_14 : decode cX7_holds 14 = .ok (.iload_n 3, 1) := by decide +kernel
theorem dX7_holds_15 : decode cX7_holds 15 = .ok (.iaload, 1) := by decide +kernel
theorem dX7_holds_16 : decode cX7_holds 16 = .ok (.iload_n 1, 1) := by decide +kernel
theorem dX7_holds_17 : decode cX7_holds 17 = .ok (.if_icmp .ne 25, 3) := by decide +kernel
theorem dX7_holds_20 : decode cX7_holds 20 = .ok (.aload_n 0, 1) := by decide +kernel
theorem dX7_holds_21 : decode cX7_holds 21 = .ok (.getfield 24, 3) := by decide +kernel
theorem dX7_holds_24 : decode cX7_holds 24 = .ok (.iload_n 3, 1) := by decide +kernel
theorem dX7_holds_25 : decode cX7_holds 25 = .ok (.iaload, 1) := by decide +kernel
theorem dX7_holds_26 : decode cX7_holds 26 = .ok (.iload_n 2, 1) := by decide +kernel
theorem dX7_holds_27 : decode cX7_holds 27 = .ok (.if_icmp .gt 15, 3) := by decide +kernel
theorem dX7_holds_30 : decode cX7_holds 30 = .ok (.iload_n 2, 1) := by decide +kernel
theorem dX7_holds_31 : decode cX7_holds 31 = .ok (.aload_n 0, 1) := by decide +kernel
theorem dX7_holds_32 : decode cX7_holds 32 = .ok (.getfield 27, 3) := by decide +kernel
theorem dX7_holds_35 : decode cX7_holds 35 = .ok (.iload_n 3, 1) := by decide +kernel
theorem dX7_holds_36 : decode cX7_holds 36 = .ok (.iaload, 1) := by decide +kernel
theorem dX7_holds_37 : decode cX7_holds 37 = .ok (.if_icmp .gt 5, 3) := by decide +kernel
theorem dX7_holds_40 : decode cX7_holds 40 = .ok (.iconst 1, 1) := by decide +kernel
theorem dX7_holds_41 : decode cX7_holds 41 = .ok (.ireturn, 1) := by decide +kernel
theorem dX7_holds_42 : decode cX7_holds 42 = .ok (.iinc 3 1, 3) := by decide +kernel
theorem dX7_holds_45 : decode cX7_holds 45 = .ok (.goto (-43), 3) := by decide +kernel
theorem dX7_holds_48 : decode cX7_holds 48 = .ok (.iconst 0, 1) := by decide +kernel
theorem dX7_holds_49 : decode cX7_holds 49 = .ok (.ireturn, 1) := by decide +kernel
theorem dX7_changeBehind_0 : decode cX7_changeBehind 0 = .ok (.iload_n 3, 1) := by decide +kernel
theorem dX7_changeBehind_1 : decode cX7_changeBehind 1 = .ok (.istore 4, 2) := by decide +kernel
theorem dX7_changeBehind_3 : decode cX7_changeBehind 3 = .ok (.iconst 0, 1) := by decide +kernel
theorem dX7_changeBehind_4 : decode cX7_changeBehind 4 = .ok (.istore 5, 2) := by decide +kernel
theorem dX7_changeBehind_6 : decode cX7_changeBehind 6 = .ok (.iload 5, 2) := by decide +kernel
theorem dX7_changeBehind_8 : decode cX7_changeBehind 8 = .ok (.aload_n 0, 1) := by decide +kernel
theorem dX7_changeBehind_9 : decode cX7_changeBehind 9 = .ok (.getfield 30, 3) := by decide +kernel
theorem dX7_changeBehind_12 : decode cX7_changeBehind 12 = .ok (.if_icmp .ge 86, 3) := by decide +kernel
theorem dX7_changeBehind_15 : decode cX7_changeBehind 15 = .ok (.aload_n 0, 1) := by decide +kernel
theorem dX7_changeBehind_16 : decode cX7_changeBehind 16 = .ok (.getfield 21, 3) := by decide +kernel
theorem dX7_changeBehind_19 : decode cX7_changeBehind 19 = .ok (.iload 5, 2) := by decide +kernel
theorem dX7_changeBehind_21 : decode cX7_changeBehind 21 = .ok (.iaload, 1) := by decide +kernel
theorem dX7_changeBehind_22 : decode cX7_changeBehind 22 = .ok (.iload_n 1, 1) := by decide +kernel
theorem dX7_changeBehind_23 : decode cX7_changeBehind 23 = .ok (.if_icmp .ne 31, 3) := by decide +kernel
theorem dX7_changeBehind_26 : decode cX7_changeBehind 26 = .ok (.aload_n 0, 1) := by decide +kernel
theorem dX7_changeBehind_27 : decode cX7_changeBehind 27 = .ok (.getfield 24, 3) := by decide +kernel
theorem dX7_changeBehind_30 : decode cX7_changeBehind 30 = .ok (.iload 5, 2) := by decide +kernel
theorem dX7_changeBehind_32 : decode cX7_changeBehind 32 = .ok (.iaload, 1) := by decide +kernel
theorem dX7_changeBehind_33 : decode cX7_changeBehind 33 = .ok (.iload_n 2, 1) := by decide +kernel
theorem dX7_changeBehind_34 : decode cX7_changeBehind 34 = .ok (.if_icmp .le 20, 3) := by decide +kernel
theorem dX7_changeBehind_37 : decode cX7_changeBehind 37 = .ok (.iload 4, 2) := by decide +kernel
theorem dX7_changeBehind_39 : decode cX7_changeBehind 39 = .ok (.aload_n 0, 1) := by decide +kernel
theorem dX7_changeBehind_40 : decode cX7_changeBehind 40 = .ok (.getfield 24, 3) := by decide +kernel
theorem dX7_changeBehind_43 : decode cX7_changeBehind 43 = .ok (.iload 5, 2) := by decide +kernel
theorem dX7_changeBehind_45 : decode cX7_changeBehind 45 = .ok (.iaload, 1) := by decide +kernel
theorem dX7_changeBehind_46 : decode cX7_changeBehind 46 = .ok (.invokestatic 34, 3) := by decide +kernel
theorem dX7_changeBehind_49 : decode cX7_changeBehind 49 = .ok (.istore 4, 2) := by decide +kernel
theorem dX7_changeBehind_51 : decode cX7_changeBehind 51 = .ok (.goto 41, 3) := by decide +kernel
theorem dX7_changeBehind_54 : decode cX7_changeBehind 54 = .ok (.aload_n 0, 1) := by decide +kernel
theorem dX7_changeBehind_55 : decode cX7_changeBehind 55 = .ok (.getfield 21, 3) := by decide +kernel
theorem dX7_changeBehind_58 : decode cX7_changeBehind 58 = .ok (.iload 5, 2) := by decide +kernel
theorem dX7_changeBehind_60 : decode cX7_changeBehind 60 = .ok (.iaload, 1) := by decide +kernel
theorem dX7_changeBehind_61 : decode cX7_changeBehind 61 = .ok (.iload_n 1, 1) := by decide +kernel
theorem dX7_changeBehind_62 : decode cX7_changeBehind 62 = .ok (.if_icmp .ne 30, 3) := by decide +kernel
theorem dX7_changeBehind_65 : decode cX7_changeBehind 65 = .ok (.aload_n 0, 1) := by decide +kernel
theorem dX7_changeBehind_66 : decode cX7_changeBehind 66 = .ok (.getfield 27, 3) := by decide +kernel
theorem dX7_changeBehind_69 : decode cX7_changeBehind 69 = .ok (.iload 5, 2) := by decide +kernel
theorem dX7_changeBehind_71 : decode cX7_changeBehind 71 = .ok (.iaload, 1) := by decide +kernel
theorem dX7_changeBehind_72 : decode cX7_changeBehind 72 = .ok (.iload_n 2, 1) := by decide +kernel
theorem dX7_changeBehind_73 : decode cX7_changeBehind 73 = .ok (.if_icmp .lt 19, 3) := by decide +kernel
theorem dX7_changeBehind_76 : decode cX7_changeBehind 76 = .ok (.iload 4, 2) := by decide +kernel
theorem dX7_changeBehind_78 : decode cX7_changeBehind 78 = .ok (.aload_n 0, 1) := by decide +kernel
theorem dX7_changeBehind_79 : decode cX7_changeBehind 79 = .ok (.getfield 27, 3) := by decide +kernel
theorem dX7_changeBehind_82 : decode cX7_changeBehind 82 = .ok (.iload 5, 2) := by decide +kernel
theorem dX7_changeBehind_84 : decode cX7_changeBehind 84 = .ok (.iaload, 1) := by decide +kernel
theorem dX7_changeBehind_85 : decode cX7_changeBehind 85 = .ok (.iconst 1, 1) := by decide +kernel
theorem dX7_changeBehind_86 : decode cX7_changeBehind 86 = .ok (.iadd, 1) := by decide +kernel
theorem dX7_changeBehind_87 : decode cX7_changeBehind 87 = .ok (.invokestatic 34, 3) := by decide +kernel
theorem dX7_changeBehind_90 : decode cX7_changeBehind 90 = .ok (.istore 4, 2) := by decide +kernel
theorem dX7_changeBehind_92 : decode cX7_changeBehind 92 = .ok (.iinc 5 1, 3) := by decide +kernel
theorem dX7_changeBehind_95 : decode cX7_changeBehind 95 = .ok (.goto (-89), 3) := by decide +kernel
theorem dX7_changeBehind_98 : decode cX7_changeBehind 98 = .ok (.iload 4, 2) := by decide +kernel
theorem dX7_changeBehind_100 : decode cX7_changeBehind 100 = .ok (.ireturn, 1) := by decide +kernel
theorem dX7_holdsEach_0 : decode cX7_holdsEach 0 = .ok (.iload_n 3, 1) := by decide +kernel
theorem dX7_holdsEach_1 : decode cX7_holdsEach 1 = .ok (.istore 5, 2) := by decide +kernel
theorem dX7_holdsEach_3 : decode cX7_holdsEach 3 = .ok (.iconst 0, 1) := by decide +kernel
theorem dX7_holdsEach_4 : decode cX7_holdsEach 4 = .ok (.istore 6, 2) := by decide +kernel
theorem dX7_holdsEach_6 : decode cX7_holdsEach 6 = .ok (.iload 6, 2) := by decide +kernel
theorem dX7_holdsEach_8 : decode cX7_holdsEach 8 = .ok (.aload_n 0, 1) := by decide +kernel
theorem dX7_holdsEach_9 : decode cX7_holdsEach 9 = .ok (.getfield 30, 3) := by decide +kernel
theorem dX7_holdsEach_12 : decode cX7_holdsEach 12 = .ok (.if_icmp .ge 26, 3) := by decide +kernel
theorem dX7_holdsEach_15 : decode cX7_holdsEach 15 = .ok (.iload 5, 2) := by decide +kernel
theorem dX7_holdsEach_17 : decode cX7_holdsEach 17 = .ok (.iload 4, 2) := by decide +kernel
theorem dX7_holdsEach_19 : decode cX7_holdsEach 19 = .ok (.if_icmp .gt 19, 3) := by decide +kernel
theorem dX7_holdsEach_22 : decode cX7_holdsEach 22 = .ok (.aload_n 0, 1) := by decide +kernel
theorem dX7_holdsEach_23 : decode cX7_holdsEach 23 = .ok (.iload_n 1, 1) := by decide +kernel
theorem dX7_holdsEach_24 : decode cX7_holdsEach 24 = .ok (.iload_n 2, 1) := by decide +kernel
theorem dX7_holdsEach_25 : decode cX7_holdsEach 25 = .ok (.iload 5, 2) := by decide +kernel
theorem dX7_holdsEach_27 : decode cX7_holdsEach 27 = .ok (.invokevirtual 37, 3) := by decide +kernel
theorem dX7_holdsEach_30 : decode cX7_holdsEach 30 = .ok (.istore 5, 2) := by decide +kernel
theorem dX7_holdsEach_32 : decode cX7_holdsEach 32 = .ok (.iinc 6 1, 3) := by decide +kernel
theorem dX7_holdsEach_35 : decode cX7_holdsEach 35 = .ok (.goto (-29), 3) := by decide +kernel
theorem dX7_holdsEach_38 : decode cX7_holdsEach 38 = .ok (.iload 5, 2) := by decide +kernel
theorem dX7_holdsEach_40 : decode cX7_holdsEach 40 = .ok (.iload 4, 2) := by decide +kernel
theorem dX7_holdsEach_42 : decode cX7_holdsEach 42 = .ok (.if_icmp .le 7, 3) := by decide +kernel
theorem dX7_holdsEach_45 : decode cX7_holdsEach 45 = .ok (.iconst 1, 1) := by decide +kernel
theorem dX7_holdsEach_46 : decode cX7_holdsEach 46 = .ok (.goto 4, 3) := by decide +kernel
theorem dX7_holdsEach_49 : decode cX7_holdsEach 49 = .ok (.iconst 0, 1) := by decide +kernel
theorem dX7_holdsEach_50 : decode cX7_holdsEach 50 = .ok (.ireturn, 1) := by decide +kernel
theorem dX7_openBehind_0 : decode cX7_openBehind 0 = .ok (.iload_n 3, 1) := by decide +kernel
theorem dX7_openBehind_1 : decode cX7_openBehind 1 = .ok (.istore 4, 2) := by decide +kernel
theorem dX7_openBehind_3 : decode cX7_openBehind 3 = .ok (.iconst 0, 1) := by decide +kernel
theorem dX7_openBehind_4 : decode cX7_openBehind 4 = .ok (.istore 5, 2) := by decide +kernel
theorem dX7_openBehind_6 : decode cX7_openBehind 6 = .ok (.iload 5, 2) := by decide +kernel
theorem dX7_openBehind_8 : decode cX7_openBehind 8 = .ok (.aload_n 0, 1) := by decide +kernel
theorem dX7_openBehind_9 : decode cX7_openBehind 9 = .ok (.getfield 30, 3) := by decide +kernel
theorem dX7_openBehind_12 : decode cX7_openBehind 12 = .ok (.if_icmp .ge 58, 3) := by decide +kernel
theorem dX7_openBehind_15 : decode cX7_openBehind 15 = .ok (.aload_n 0, 1) := by decide +kernel
theorem dX7_openBehind_16 : decode cX7_openBehind 16 = .ok (.getfield 15, 3) := by decide +kernel
theorem dX7_openBehind_19 : decode cX7_openBehind 19 = .ok (.iload 5, 2) := by decide +kernel
theorem dX7_openBehind_21 : decode cX7_openBehind 21 = .ok (.iaload, 1) := by decide +kernel
theorem dX7_openBehind_22 : decode cX7_openBehind 22 = .ok (.iload_n 1, 1) := by decide +kernel
theorem dX7_openBehind_23 : decode cX7_openBehind 23 = .ok (.if_icmp .ne 41, 3) := by decide +kernel
theorem dX7_openBehind_26 : decode cX7_openBehind 26 = .ok (.aload_n 0, 1) := by decide +kernel
theorem dX7_openBehind_27 : decode cX7_openBehind 27 = .ok (.getfield 21, 3) := by decide +kernel
theorem dX7_openBehind_30 : decode cX7_openBehind 30 = .ok (.iload 5, 2) := by decide +kernel
theorem dX7_openBehind_32 : decode cX7_openBehind 32 = .ok (.iaload, 1) := by decide +kernel
theorem dX7_openBehind_33 : decode cX7_openBehind 33 = .ok (.iload_n 2, 1) := by decide +kernel
theorem dX7_openBehind_34 : decode cX7_openBehind 34 = .ok (.if_icmp .ne 30, 3) := by decide +kernel
theorem dX7_openBehind_37 : decode cX7_openBehind 37 = .ok (.aload_n 0, 1) := by decide +kernel
theorem dX7_openBehind_38 : decode cX7_openBehind 38 = .ok (.getfield 24, 3) := by decide +kernel
theorem dX7_openBehind_41 : decode cX7_openBehind 41 = .ok (.iload 5, 2) := by decide +kernel
theorem dX7_openBehind_43 : decode cX7_openBehind 43 = .ok (.iaload, 1) := by decide +kernel
theorem dX7_openBehind_44 : decode cX7_openBehind 44 = .ok (.iload_n 3, 1) := by decide +kernel
theorem dX7_openBehind_45 : decode cX7_openBehind 45 = .ok (.if_icmp .gt 19, 3) := by decide +kernel
theorem dX7_openBehind_48 : decode cX7_openBehind 48 = .ok (.iload 4, 2) := by decide +kernel
theorem dX7_openBehind_50 : decode cX7_openBehind 50 = .ok (.aload_n 0, 1) := by decide +kernel
theorem dX7_openBehind_51 : decode cX7_openBehind 51 = .ok (.getfield 27, 3) := by decide +kernel
theorem dX7_openBehind_54 : decode cX7_openBehind 54 = .ok (.iload 5, 2) := by decide +kernel
theorem dX7_openBehind_56 : decode cX7_openBehind 56 = .ok (.iaload, 1) := by decide +kernel
theorem dX7_openBehind_57 : decode cX7_openBehind 57 = .ok (.iconst 1, 1) := by decide +kernel
theorem dX7_openBehind_58 : decode cX7_openBehind 58 = .ok (.iadd, 1) := by decide +kernel
theorem dX7_openBehind_59 : decode cX7_openBehind 59 = .ok (.invokestatic 9, 3) := by decide +kernel
theorem dX7_openBehind_62 : decode cX7_openBehind 62 = .ok (.istore 4, 2) := by decide +kernel
theorem dX7_openBehind_64 : decode cX7_openBehind 64 = .ok (.iinc 5 1, 3) := by decide +kernel
theorem dX7_openBehind_67 : decode cX7_openBehind 67 = .ok (.goto (-61), 3) := by decide +kernel
theorem dX7_openBehind_70 : decode cX7_openBehind 70 = .ok (.iload 4, 2) := by decide +kernel
theorem dX7_openBehind_72 : decode cX7_openBehind 72 = .ok (.ireturn, 1) := by decide +kernel
theorem dX7_latestAhead_0 : decode cX7_latestAhead 0 = .ok (.iconst (-1), 1) := by decide +kernel
theorem dX7_latestAhead_1 : decode cX7_latestAhead 1 = .ok (.istore_n 3, 1) := by decide +kernel
theorem dX7_latestAhead_2 : decode cX7_latestAhead 2 = .ok (.iconst 0, 1) := by decide +kernel
theorem dX7_latestAhead_3 : decode cX7_latestAhead 3 = .ok (.istore 4, 2) := by decide +kernel
theorem dX7_latestAhead_5 : decode cX7_latestAhead 5 = .ok (.iload 4, 2) := by decide +kernel
theorem dX7_latestAhead_7 : decode cX7_latestAhead 7 = .ok (.aload_n 0, 1) := by decide +kernel
theorem dX7_latestAhead_8 : decode cX7_latestAhead 8 = .ok (.getfield 30, 3) := by decide +kernel
theorem dX7_latestAhead_11 : decode cX7_latestAhead 11 = .ok (.if_icmp .ge 49, 3) := by decide +kernel
theorem dX7_latestAhead_14 : decode cX7_latestAhead 14 = .ok (.aload_n 0, 1) := by decide +kernel
theorem dX7_latestAhead_15 : decode cX7_latestAhead 15 = .ok (.getfield 21, 3) := by decide +kernel
theorem dX7_latestAhead_18 : decode cX7_latestAhead 18 = .ok (.iload 4, 2) := by decide +kernel
theorem dX7_latestAhead_20 : decode cX7_latestAhead 20 = .ok (.iaload, 1) := by decide +kernel
theorem dX7_latestAhead_21 : decode cX7_latestAhead 21 = .ok (.iload_n 1, 1) := by decide +kernel
theorem dX7_latestAhead_22 : decode cX7_latestAhead 22 = .ok (.if_icmp .ne 32, 3) := by decide +kernel
theorem dX7_latestAhead_25 : decode cX7_latestAhead 25 = .ok (.aload_n 0, 1) := by decide +kernel
theorem dX7_latestAhead_26 : decode cX7_latestAhead 26 = .ok (.getfield 24, 3) := by decide +kernel
theorem dX7_latestAhead_29 : decode cX7_latestAhead 29 = .ok (.iload 4, 2) := by decide +kernel
theorem dX7_latestAhead_31 : decode cX7_latestAhead 31 = .ok (.iaload, 1) := by decide +kernel
theorem dX7_latestAhead_32 : decode cX7_latestAhead 32 = .ok (.iload_n 2, 1) := by decide +kernel
theorem dX7_latestAhead_33 : decode cX7_latestAhead 33 = .ok (.if_icmp .ge 21, 3) := by decide +kernel
theorem dX7_latestAhead_36 : decode cX7_latestAhead 36 = .ok (.iload_n 3, 1) := by decide +kernel
theorem dX7_latestAhead_37 : decode cX7_latestAhead 37 = .ok (.aload_n 0, 1) := by decide +kernel
theorem dX7_latestAhead_38 : decode cX7_latestAhead 38 = .ok (.getfield 27, 3) := by decide +kernel
theorem dX7_latestAhead_41 : decode cX7_latestAhead 41 = .ok (.iload 4, 2) := by decide +kernel
theorem dX7_latestAhead_43 : decode cX7_latestAhead 43 = .ok (.iaload, 1) := by decide +kernel
theorem dX7_latestAhead_44 : decode cX7_latestAhead 44 = .ok (.iload_n 2, 1) := by decide +kernel
theorem dX7_latestAhead_45 : decode cX7_latestAhead 45 = .ok (.iconst 1, 1) := by decide +kernel
theorem dX7_latestAhead_46 : decode cX7_latestAhead 46 = .ok (.isub, 1) := by decide +kernel
theorem dX7_latestAhead_47 : decode cX7_latestAhead 47 = .ok (.invokestatic 34, 3) := by decide +kernel
theorem dX7_latestAhead_50 : decode cX7_latestAhead 50 = .ok (.invokestatic 9, 3) := by decide +kernel
theorem dX7_latestAhead_53 : decode cX7_latestAhead 53 = .ok (.istore_n 3, 1) := by decide +kernel
theorem dX7_latestAhead_54 : decode cX7_latestAhead 54 = .ok (.iinc 4 1, 3) := by decide +kernel
theorem dX7_latestAhead_57 : decode cX7_latestAhead 57 = .ok (.goto (-52), 3) := by decide +kernel
theorem dX7_latestAhead_60 : decode cX7_latestAhead 60 = .ok (.iload_n 3, 1) := by decide +kernel
theorem dX7_latestAhead_61 : decode cX7_latestAhead 61 = .ok (.ireturn, 1) := by decide +kernel
theorem dX8_init_0 : decode cX8_init 0 = .ok (.aload_n 0, 1) := by decide +kernel
theorem dX8_init_1 : decode cX8_init 1 = .ok (.invokespecial 3, 3) := by decide +kernel
theorem dX8_init_4 : decode cX8_init 4 = .ok (.aload_n 0, 1) := by decide +kernel
theorem dX8_init_5 : decode cX8_init 5 = .ok (.bipush 100, 2) := by decide +kernel
theorem dX8_init_7 : decode cX8_init 7 = .ok (.newarray .int, 2) := by decide +kernel
theorem dX8_init_9 : decode cX8_init 9 = .ok (.putfield 9, 3) := by decide +kernel
theorem dX8_init_12 : decode cX8_init 12 = .ok (.return_, 1) := by decide +kernel
theorem dX8_add_0 : decode cX8_add 0 = .ok (.bipush 24, 2) := by decide +kernel
theorem dX8_add_2 : decode cX8_add 2 = .ok (.istore_n 2, 1) := by decide +kernel
theorem dX8_add_3 : decode cX8_add 3 = .ok (.iload_n 2, 1) := by decide +kernel
theorem dX8_add_4 : decode cX8_add 4 = .ok (.ifCond .lt 44, 3) := by decide +kernel
theorem dX8_add_7 : decode cX8_add 7 = .ok (.aload_n 0, 1) := by decide +kernel
theorem dX8_add_8 : decode cX8_add 8 = .ok (.getfield 15, 3) := by decide +kernel
theorem dX8_add_11 : decode cX8_add 11 = .ok (.bipush 100, 2) := by decide +kernel
theorem dX8_add_13 : decode cX8_add 13 = .ok (.if_icmp .ge 35, 3) := by decide +kernel
theorem dX8_add_16 : decode cX8_add 16 = .ok (.aload_n 0, 1) := by decide +kernel
theorem dX8_add_17 : decode cX8_add 17 = .ok (.getfield 9, 3) := by decide +kernel
theorem dX8_add_20 : decode cX8_add 20 = .ok (.aload_n 0, 1) := by decide +kernel
theorem dX8_add_21 : decode cX8_add 21 = .ok (.getfield 15, 3) := by decide +kernel
theorem dX8_add_24 : decode cX8_add 24 = .ok (.iload_n 1, 1) := by decide +kernel
theorem dX8_add_25 : decode cX8_add 25 = .ok (.iload_n 2, 1) := by decide +kernel
theorem dX8_add_26 : decode cX8_add 26 = .ok (.iushr, 1) := by decide +kernel
theorem dX8_add_27 : decode cX8_add 27 = .ok (.sipush 255, 3) := by decide +kernel
theorem dX8_add_30 : decode cX8_add 30 = .ok (.iand, 1) := by decide +kernel
theorem dX8_add_31 : decode cX8_add 31 = .ok (.iastore, 1) := by decide +kernel
theorem dX8_add_32 : decode cX8_add 32 = .ok (.aload_n 0, 1) := by decide +kernel
theorem dX8_add_33 : decode cX8_add 33 = .ok (.dup, 1) := by decide +kernel
theorem dX8_add_34 : decode cX8_add 34 = .ok (.getfield 15, 3) := by decide +kernel
theorem dX8_add_37 : decode cX8_add 37 = .ok (.iconst 1, 1) := by decide +kernel
theorem dX8_add_38 : decode cX8_add 38 = .ok (.iadd, 1) := by decide +kernel
theorem dX8_add_39 : decode cX8_add 39 = .ok (.putfield 15, 3) := by decide +kernel
theorem dX8_add_42 : decode cX8_add 42 = .ok (.iinc 2 (-8), 3) := by decide +kernel
theorem dX8_add_45 : decode cX8_add 45 = .ok (.goto (-42), 3) := by decide +kernel
theorem dX8_add_48 : decode cX8_add 48 = .ok (.return_, 1) := by decide +kernel
theorem dX8_rewind_0 : decode cX8_rewind 0 = .ok (.aload_n 0, 1) := by decide +kernel
theorem dX8_rewind_1 : decode cX8_rewind 1 = .ok (.iconst 0, 1) := by decide +kernel
theorem dX8_rewind_2 : decode cX8_rewind 2 = .ok (.putfield 19, 3) := by decide +kernel
theorem dX8_rewind_5 : decode cX8_rewind 5 = .ok (.aload_n 0, 1) := by decide +kernel
theorem dX8_rewind_6 : decode cX8_rewind 6 = .ok (.invokevirtual 22, 3) := by decide +kernel
theorem dX8_rewind_9 : decode cX8_rewind 9 = .ok (.return_, 1) := by decide +kernel
theorem dX8_step_0 : decode cX8_step 0 = .ok (.aload_n 0, 1) := by decide +kernel
theorem dX8_step_1 : decode cX8_step 1 = .ok (.aload_n 0, 1) := by decide +kernel
theorem dX8_step_2 : decode cX8_step 2 = .ok (.getfield 19, 3) := by decide +kernel
theorem dX8_step_5 : decode cX8_step 5 = .ok (.putfield 25, 3) := by decide +kernel
theorem dX8_step_8 : decode cX8_step 8 = .ok (.aload_n 0, 1) := by decide +kernel
theorem dX8_step_9 : decode cX8_step 9 = .ok (.getfield 25, 3) := by decide +kernel
theorem dX8_step_12 : decode cX8_step 12 = .ok (.aload_n 0, 1) := by decide +kernel
theorem dX8_step_13 : decode cX8_step 13 = .ok (.getfield 15, 3) := by decide +kernel
theorem dX8_step_16 : decode cX8_step 16 = .ok (.if_icmp .ge 30, 3) := by decide +kernel
theorem dX8_step_19 : decode cX8_step 19 = .ok (.aload_n 0, 1) := by decide +kernel
theorem dX8_step_20 : decode cX8_step 20 = .ok (.getfield 9, 3) := by decide +kernel
theorem dX8_step_23 : decode cX8_step 23 = .ok (.aload_n 0, 1) := by decide +kernel
theorem dX8_step_24 : decode cX8_step 24 = .ok (.getfield 25, 3) := by decide +kernel
theorem dX8_step_27 : decode cX8_step 27 = .ok (.iaload, 1) := by decide +kernel
theorem dX8_step_28 : decode cX8_step 28 = .ok (.bipush 32, 2) := by decide +kernel
theorem dX8_step_30 : decode cX8_step 30 = .ok (.if_icmp .ne 16, 3) := by decide +kernel
theorem dX8_step_33 : decode cX8_step 33 = .ok (.aload_n 0, 1) := by decide +kernel
theorem dX8_step_34 : decode cX8_step 34 = .ok (.dup, 1) := by decide +kernel
theorem dX8_step_35 : decode cX8_step 35 = .ok (.getfield 25, 3) := by decide +kernel
theorem dX8_step_38 : decode cX8_step 38 = .ok (.iconst 1, 1) := by decide +kernel
theorem dX8_step_39 : decode cX8_step 39 = .ok (.iadd, 1) := by decide +kernel
theorem dX8_step_40 : decode cX8_step 40 = .ok (.putfield 25, 3) := by decide +kernel
theorem dX8_step_43 : decode cX8_step 43 = .ok (.goto (-35), 3) := by decide +kernel
theorem dX8_step_46 : decode cX8_step 46 = .ok (.aload_n 0, 1) := by decide +kernel
theorem dX8_step_47 : decode cX8_step 47 = .ok (.aload_n 0, 1) := by decide +kernel
theorem dX8_step_48 : decode cX8_step 48 = .ok (.getfield 25, 3) := by decide +kernel
theorem dX8_step_51 : decode cX8_step 51 = .ok (.aload_n 0, 1) := by decide +kernel
theorem dX8_step_52 : decode cX8_step 52 = .ok (.getfield 15, 3) := by decide +kernel
theorem dX8_step_55 : decode cX8_step 55 = .ok (.if_icmp .ge 18, 3) := by decide +kernel
theorem dX8_step_58 : decode cX8_step 58 = .ok (.aload_n 0, 1) := by decide +kernel
theorem dX8_step_59 : decode cX8_step 59 = .ok (.getfield 9, 3) := by decide +kernel
theorem dX8_step_62 : decode cX8_step 62 = .ok (.aload_n 0, 1) := by decide +kernel
theorem dX8_step_63 : decode cX8_step 63 = .ok (.getfield 25, 3) := by decide +kernel
theorem dX8_step_66 : decode cX8_step 66 = .ok (.iaload, 1) := by decide +kernel
theorem dX8_step_67 : decode cX8_step 67 = .ok (.invokestatic 28, 3) := by decide +kernel
theorem dX8_step_70 : decode cX8_step 70 = .ok (.goto 4, 3) := by decide +kernel
theorem dX8_step_73 : decode cX8_step 73 = .ok (.iconst 0, 1) := by decide +kernel
theorem dX8_step_74 : decode cX8_step 74 = .ok (.putfield 32, 3) := by decide +kernel
theorem dX8_step_77 : decode cX8_step 77 = .ok (.aload_n 0, 1) := by decide +kernel
theorem dX8_step_78 : decode cX8_step 78 = .ok (.aload_n 0, 1) := by decide +kernel
theorem dX8_step_79 : decode cX8_step 79 = .ok (.getfield 32, 3) := by decide +kernel
theorem dX8_step_82 : decode cX8_step 82 = .ok (.ifCond .ne 10, 3) := by decide +kernel
theorem dX8_step_85 : decode cX8_step 85 = .ok (.aload_n 0, 1) := by decide +kernel
theorem dX8_step_86 : decode cX8_step 86 = .ok (.getfield 25, 3) := by decide +kernel
theorem dX8_step_89 : decode cX8_step 89 = .ok (.goto 9, 3) := by decide +kernel
theorem dX8_step_92 : decode cX8_step 92 = .ok (.aload_n 0, 1) := by decide +kernel
theorem dX8_step_93 : decode cX8_step 93 = .ok (.getfield 25, 3) := by decide +kernel
theorem dX8_step_96 : decode cX8_step 96 = .ok (.iconst 1, 1) := by decide +kernel
theorem dX8_step_97 : decode cX8_step 97 = .ok (.iadd, 1) := by decide +kernel
theorem dX8_step_98 : decode cX8_step 98 = .ok (.putfield 19, 3) := by decide +kernel
theorem dX8_step_101 : decode cX8_step 101 = .ok (.aload_n 0, 1) := by decide +kernel
theorem dX8_step_102 : decode cX8_step 102 = .ok (.getfield 32, 3) := by decide +kernel
theorem dX8_step_105 : decode cX8_step 105 = .ok (.iconst 1, 1) := by decide +kernel
theorem dX8_step_106 : decode cX8_step 106 = .ok (.if_icmp .eq 11, 3) := by decide +kernel
theorem dX8_step_109 : decode cX8_step 109 = .ok (.aload_n 0, 1) := by decide +kernel
theorem dX8_step_110 : decode cX8_step 110 = .ok (.getfield 32, 3) := by decide +kernel
theorem dX8_step_113 : decode cX8_step 113 = .ok (.iconst 2, 1) := by decide +kernel
theorem dX8_step_114 : decode cX8_step 114 = .ok (.if_icmp .ne 7, 3) := by decide +kernel
theorem dX8_step_117 : decode cX8_step 117 = .ok (.iconst 1, 1) := by decide +kernel
theorem dX8_step_118 : decode cX8_step 118 = .ok (.goto 4, 3) := by decide +kernel
theorem dX8_step_121 : decode cX8_step 121 = .ok (.iconst 0, 1) := by decide +kernel
theorem dX8_step_122 : decode cX8_step 122 = .ok (.istore_n 1, 1) := by decide +kernel
theorem dX8_step_123 : decode cX8_step 123 = .ok (.iload_n 1, 1) := by decide +kernel
theorem dX8_step_124 : decode cX8_step 124 = .ok (.ifCond .eq 46, 3) := by decide +kernel
theorem dX8_step_127 : decode cX8_step 127 = .ok (.aload_n 0, 1) := by decide +kernel
theorem dX8_step_128 : decode cX8_step 128 = .ok (.getfield 19, 3) := by decide +kernel
theorem dX8_step_131 : decode cX8_step 131 = .ok (.aload_n 0, 1) := by decide +kernel
theorem dX8_step_132 : decode cX8_step 132 = .ok (.getfield 15, 3) := by decide +kernel
theorem dX8_step_135 : decode cX8_step 135 = .ok (.if_icmp .ge 35, 3) := by decide +kernel
theorem dX8_step_138 : decode cX8_step 138 = .ok (.aload_n 0, 1) := by decide +kernel
theorem dX8_step_139 : decode cX8_step 139 = .ok (.getfield 9, 3) := by decide +kernel
theorem dX8_step_142 : decode cX8_step 142 = .ok (.aload_n 0, 1) := by decide +kernel
theorem dX8_step_143 : decode cX8_step 143 = .ok (.getfield 19, 3) := by decide +kernel
theorem dX8_step_146 : decode cX8_step 146 = .ok (.iaload, 1) := by decide +kernel
theorem dX8_step_147 : decode cX8_step 147 = .ok (.invokestatic 28, 3) := by decide +kernel
theorem dX8_step_150 : decode cX8_step 150 = .ok (.aload_n 0, 1) := by decide +kernel
theorem dX8_step_151 : decode cX8_step 151 = .ok (.getfield 32, 3) := by decide +kernel
theorem dX8_step_154 : decode cX8_step 154 = .ok (.if_icmp .ne 16, 3) := by decide +kernel
theorem dX8_step_157 : decode cX8_step 157 = .ok (.aload_n 0, 1) := by decide +kernel
theorem dX8_step_158 : decode cX8_step 158 = .ok (.dup, 1) := by decide +kernel
theorem dX8_step_159 : decode cX8_step 159 = .ok (.getfield 19, 3) := by decide +kernel
theorem dX8_step_162 : decode cX8_step 162 = .ok (.iconst 1, 1) := by decide +kernel
theorem dX8_step_163 : decode cX8_step 163 = .ok (.iadd, 1) := by decide +kernel
theorem dX8_step_164 : decode cX8_step 164 = .ok (.putfield 19, 3) := by decide +kernel
theorem dX8_step_167 : decode cX8_step 167 = .ok (.goto (-44), 3) := by decide +kernel
theorem dX8_step_170 : decode cX8_step 170 = .ok (.return_, 1) := by decide +kernel
theorem dX8_kindOf_0 : decode cX8_kindOf 0 = .ok (.iload_n 0, 1) := by decide +kernel
theorem dX8_kindOf_1 : decode cX8_kindOf 1 = .ok (.bipush 97, 2) := by decide +kernel
theorem dX8_kindOf_3 : decode cX8_kindOf 3 = .ok (.if_icmp .lt 9, 3) := by decide +kernel
theorem dX8_kindOf_6 : decode cX8_kindOf 6 = .ok (.iload_n 0, 1) := by decide +kernel
theorem dX8_kindOf_7 : decode cX8_kindOf 7 = .ok (.bipush 122, 2) := by decide +kernel
theorem dX8_kindOf_9 : decode cX8_kindOf 9 = .ok (.if_icmp .le 15, 3) := by decide +kernel
theorem dX8_kindOf_12 : decode cX8_kindOf 12 = .ok (.iload_n 0, 1) := by decide +kernel
theorem dX8_kindOf_13 : decode cX8_kindOf 13 = .ok (.bipush 65, 2) := by decide +kernel
theorem dX8_kindOf_15 : decode cX8_kindOf 15 = .ok (.if_icmp .lt 11, 3) := by decide +kernel
theorem dX8_kindOf_18 : decode cX8_kindOf 18 = .ok (.iload_n 0, 1) := by decide +kernel
theorem dX8_kindOf_19 : decode cX8_kindOf 19 = .ok (.bipush 90, 2) := by decide +kernel
theorem dX8_kindOf_21 : decode cX8_kindOf 21 = .ok (.if_icmp .gt 5, 3) := by decide +kernel
theorem dX8_kindOf_24 : decode cX8_kindOf 24 = .ok (.iconst 1, 1) := by decide +kernel
theorem dX8_kindOf_25 : decode cX8_kindOf 25 = .ok (.ireturn, 1) := by decide +kernel
theorem dX8_kindOf_26 : decode cX8_kindOf 26 = .ok (.iload_n 0, 1) := by decide +kernel
theorem dX8_kindOf_27 : decode cX8_kindOf 27 = .ok (.bipush 48, 2) := by decide +kernel
theorem dX8_kindOf_29 : decode cX8_kindOf 29 = .ok (.if_icmp .lt 11, 3) := by decide +kernel
theorem dX8_kindOf_32 : decode cX8_kindOf 32 = .ok (.iload_n 0, 1) := by decide +kernel
theorem dX8_kindOf_33 : decode cX8_kindOf 33 = .ok (.bipush 57, 2) := by decide +kernel
theorem dX8_kindOf_35 : decode cX8_kindOf 35 = .ok (.if_icmp .gt 5, 3) := by decide +kernel
theorem dX8_kindOf_38 : decode cX8_kindOf 38 = .ok (.iconst 2, 1) := by decide +kernel
theorem dX8_kindOf_39 : decode cX8_kindOf 39 = .ok (.ireturn, 1) := by decide +kernel
theorem dX8_kindOf_40 : decode cX8_kindOf 40 = .ok (.iload_n 0, 1) := by decide +kernel
theorem dX8_kindOf_41 : decode cX8_kindOf 41 = .ok (.bipush 45, 2) := by decide +kernel
theorem dX8_kindOf_43 : decode cX8_kindOf 43 = .ok (.if_icmp .ne 5, 3) := by decide +kernel
theorem dX8_kindOf_46 : decode cX8_kindOf 46 = .ok (.iconst 3, 1) := by decide +kernel
theorem dX8_kindOf_47 : decode cX8_kindOf 47 = .ok (.ireturn, 1) := by decide +kernel
theorem dX8_kindOf_48 : decode cX8_kindOf 48 = .ok (.iload_n 0, 1) := by decide +kernel
theorem dX8_kindOf_49 : decode cX8_kindOf 49 = .ok (.bipush 59, 2) := by decide +kernel
theorem dX8_kindOf_51 : decode cX8_kindOf 51 = .ok (.if_icmp .ne 7, 3) := by decide +kernel
theorem dX8_kindOf_54 : decode cX8_kindOf 54 = .ok (.iconst 4, 1) := by decide +kernel
theorem dX8_kindOf_55 : decode cX8_kindOf 55 = .ok (.goto 4, 3) := by decide +kernel
theorem dX8_kindOf_58 : decode cX8_kindOf 58 = .ok (.iconst 5, 1) := by decide +kernel
theorem dX8_kindOf_59 : decode cX8_kindOf 59 = .ok (.ireturn, 1) := by decide +kernel
theorem dX8_spells_0 : decode cX8_spells 0 = .ok (.aload_n 0, 1) := by decide +kernel
theorem dX8_spells_1 : decode cX8_spells 1 = .ok (.getfield 19, 3) := by decide +kernel
theorem dX8_spells_4 : decode cX8_spells 4 = .ok (.aload_n 0, 1) := by decide +kernel
theorem dX8_spells_5 : decode cX8_spells 5 = .ok (.getfield 25, 3) := by decide +kernel
theorem dX8_spells_8 : decode cX8_spells 8 = .ok (.isub, 1) := by decide +kernel
theorem dX8_spells_9 : decode cX8_spells 9 = .ok (.aload_n 1, 1) := by decide +kernel
theorem dX8_spells_10 : decode cX8_spells 10 = .ok (.invokevirtual 35, 3) := by decide +kernel
theorem dX8_spells_13 : decode cX8_spells 13 = .ok (.if_icmp .eq 5, 3) := by decide +kernel
theorem dX8_spells_16 : decode cX8_spells 16 = .ok (.iconst 0, 1) := by decide +kernel
theorem dX8_spells_17 : decode cX8_spells 17 = .ok (.ireturn, 1) := by decide +kernel
theorem dX8_spells_18 : decode cX8_spells 18 = .ok (.iconst 0, 1) := by decide +kernel
theorem dX8_spells_19 : decode cX8_spells 19 = .ok (.istore_n 2, 1) := by decide +kernel
theorem dX8_spells_20 : decode cX8_spells 20 = .ok (.iload_n 2, 1) := by decide +kernel
theorem dX8_spells_21 : decode cX8_spells 21 = .ok (.aload_n 1, 1) := by decide +kernel
theorem dX8_spells_22 : decode cX8_spells 22 = .ok (.invokevirtual 35, 3) := by decide +kernel
theorem dX8_spells_25 : decode cX8_spells 25 = .ok (.if_icmp .ge 30, 3) := by decide +kernel
theorem dX8_spells_28 : decode cX8_spells 28 = .ok (.aload_n 0, 1) := by decide +kernel
theorem dX8_spells_29 : decode cX8_spells 29 = .ok (.getfield 9, 3) := by decide +kernel
theorem dX8_spells_32 : decode cX8_spells 32 = .ok (.aload_n 0, 1) := by decide +kernel
theorem dX8_spells_33 : decode cX8_spells 33 = .ok (.getfield 25, 3) := by decide +kernel
theorem dX8_spells_36 : decode cX8_spells 36 = .ok (.iload_n 2, 1) := by decide +kernel
theorem dX8_spells_37 : decode cX8_spells 37 = .ok (.iadd, 1) := by decide +kernel
theorem dX8_spells_38 : decode cX8_spells 38 = .ok (.iaload, 1) := by decide +kernel
theorem dX8_spells_39 : decode cX8_spells 39 = .ok (.aload_n 1, 1) := by decide +kernel
theorem dX8_spells_40 : decode cX8_spells 40 = .ok (.iload_n 2, 1) := by decide +kernel
theorem dX8_spells_41 : decode cX8_spells 41 = .ok (.invokevirtual 40, 3) := by decide +kernel
theorem dX8_spells_44 : decode cX8_spells 44 = .ok (.if_icmp .eq 5, 3) := by decide +kernel
theorem dX8_spells_47 : decode cX8_spells 47 = .ok (.iconst 0, 1) := by decide +kernel
theorem dX8_spells_48 : decode cX8_spells 48 = .ok (.ireturn, 1) := by decide +kernel
theorem dX8_spells_49 : decode cX8_spells 49 = .ok (.iinc 2 1, 3) := by decide +kernel
theorem dX8_spells_52 : decode cX8_spells 52 = .ok (.goto (-32), 3) := by decide +kernel
theorem dX8_spells_55 : decode cX8_spells 55 = .ok (.iconst 1, 1) := by decide +kernel
theorem dX8_spells_56 : decode cX8_spells 56 = .ok (.ireturn, 1) := by decide +kernel
theorem dX8_value_0 : decode cX8_value 0 = .ok (.iconst 0, 1) := by decide +kernel
theorem dX8_value_1 : decode cX8_value 1 = .ok (.istore_n 1, 1) := by decide +kernel
theorem dX8_value_2 : decode cX8_value 2 = .ok (.aload_n 0, 1) := by decide +kernel
theorem dX8_value_3 : decode cX8_value 3 = .ok (.getfield 25, 3) := by decide +kernel
theorem dX8_value_6 : decode cX8_value 6 = .ok (.istore_n 2, 1) := by decide +kernel
theorem dX8_value_7 : decode cX8_value 7 = .ok (.iload_n 2, 1) := by decide +kernel
theorem dX8_value_8 : decode cX8_value 8 = .ok (.aload_n 0, 1) := by decide +kernel
theorem dX8_value_9 : decode cX8_value 9 = .ok (.getfield 19, 3) := by decide +kernel
theorem dX8_value_12 : decode cX8_value 12 = .ok (.if_icmp .ge 30, 3) := by decide +kernel
theorem dX8_value_15 : decode cX8_value 15 = .ok (.sipush 10000, 3) := by decide +kernel
theorem dX8_value_18 : decode cX8_value 18 = .ok (.iload_n 1, 1) := by decide +kernel
theorem dX8_value_19 : decode cX8_value 19 = .ok (.bipush 10, 2) := by decide +kernel
theorem dX8_value_21 : decode cX8_value 21 = .ok (.imul, 1) := by decide +kernel
theorem dX8_value_22 : decode cX8_value 22 = .ok (.aload_n 0, 1) := by decide +kernel
theorem dX8_value_23 : decode cX8_value 23 = .ok (.getfield 9, 3) := by decide +kernel
theorem dX8_value_26 : decode cX8_value 26 = .ok (.iload_n 2, 1) := by decide +kernel
theorem dX8_value_27 : decode cX8_value 27 = .ok (.iaload, 1) := by decide +kernel
theorem dX8_value_28 : decode cX8_value 28 = .ok (.iadd, 1) := by decide +kernel
theorem dX8_value_29 : decode cX8_value 29 = .ok (.bipush 48, 2) := by decide +kernel
theorem dX8_value_31 : decode cX8_value 31 = .ok (.isub, 1) := by decide +kernel
theorem dX8_value_32 : decode cX8_value 32 = .ok (.invokestatic 44, 3) := by decide +kernel
theorem dX8_value_35 : decode cX8_value 35 = .ok (.istore_n 1, 1) := by decide +kernel
theorem dX8_value_36 : decode cX8_value 36 = .ok (.iinc 2 1, 3) := by decide +kernel
theorem dX8_value_39 : decode cX8_value 39 = .ok (.goto (-32), 3) := by decide +kernel
theorem dX8_value_42 : decode cX8_value 42 = .ok (.iload_n 1, 1) := by decide +kernel
theorem dX8_value_43 : decode cX8_value 43 = .ok (.ireturn, 1) := by decide +kernel
end
section
theorem dX9_init_0 : decode cX9_init 0 = .ok (.aload_n 0, 1) := by decide +kernel
theorem dX9_init_1 : decode cX9_init 1 = .ok (.invokespecial 1, 3) := by decide +kernel
theorem dX9_init_4 : decode cX9_init 4 = .ok (.aload_n 0, 1) := by decide +kernel
theorem dX9_init_5 : decode cX9_init 5 = .ok (.new 7, 3) := by decide +kernel
theorem dX9_init_8 : decode cX9_init 8 = .ok (.dup, 1) := by decide +kernel
theorem dX9_init_9 : decode cX9_init 9 = .ok (.invokespecial 9, 3) := by decide +kernel
theorem dX9_init_12 : decode cX9_init 12 = .ok (.putfield 10, 3) := by decide +kernel
theorem dX9_init_15 : decode cX9_init 15 = .ok (.aload_n 0, 1) := by decide +kernel
theorem dX9_init_16 : decode cX9_init 16 = .ok (.new 16, 3) := by decide +kernel
theorem dX9_init_19 : decode cX9_init 19 = .ok (.dup, 1) := by decide +kernel
theorem dX9_init_20 : decode cX9_init 20 = .ok (.bipush 100, 2) := by decide +kernel
theorem dX9_init_22 : decode cX9_init 22 = .ok (.invokespecial 18, 3) := by decide +kernel
theorem dX9_init_25 : decode cX9_init 25 = .ok (.putfield 21, 3) := by decide +kernel
theorem dX9_init_28 : decode cX9_init 28 = .ok (.aload_n 0, 1) := by decide +kernel
theorem dX9_init_29 : decode cX9_init 29 = .ok (.new 25, 3) := by decide +kernel
theorem dX9_init_32 : decode cX9_init 32 = .ok (.dup, 1) := by decide +kernel
theorem dX9_init_33 : decode cX9_init 33 = .ok (.invokespecial 27, 3) := by decide +kernel
theorem dX9_init_36 : decode cX9_init 36 = .ok (.putfield 28, 3) := by decide +kernel
theorem dX9_init_39 : decode cX9_init 39 = .ok (.aload_n 0, 1) := by decide +kernel
theorem dX9_init_40 : decode cX9_init 40 = .ok (.new 32, 3) := by decide +kernel
theorem dX9_init_43 : decode cX9_init 43 = .ok (.dup, 1) := by decide +kernel
theorem dX9_init_44 : decode cX9_init 44 = .ok (.invokespecial 34, 3) := by decide +kernel
theorem dX9_init_47 : decode cX9_init 47 = .ok (.putfield 35, 3) := by decide +kernel
theorem dX9_init_50 : decode cX9_init 50 = .ok (.aload_n 0, 1) := by decide +kernel
theorem dX9_init_51 : decode cX9_init 51 = .ok (.new 39, 3) := by decide +kernel
theorem dX9_init_54 : decode cX9_init 54 = .ok (.dup, 1) := by decide +kernel
theorem dX9_init_55 : decode cX9_init 55 = .ok (.invokespecial 41, 3) := by decide +kernel
theorem dX9_init_58 : decode cX9_init 58 = .ok (.putfield 42, 3) := by decide +kernel
theorem dX9_init_61 : decode cX9_init 61 = .ok (.aload_n 0, 1) := by decide +kernel
theorem dX9_init_62 : decode cX9_init 62 = .ok (.new 46, 3) := by decide +kernel
theorem dX9_init_65 : decode cX9_init 65 = .ok (.dup, 1) := by decide +kernel
theorem dX9_init_66 : decode cX9_init 66 = .ok (.invokespecial 48, 3) := by decide +kernel
theorem dX9_init_69 : decode cX9_init 69 = .ok (.putfield 49, 3) := by decide +kernel
theorem dX9_init_72 : decode cX9_init 72 = .ok (.aload_n 0, 1) := by decide +kernel
theorem dX9_init_73 : decode cX9_init 73 = .ok (.new 53, 3) := by decide +kernel
theorem dX9_init_76 : decode cX9_init 76 = .ok (.dup, 1) := by decide +kernel
theorem dX9_init_77 : decode cX9_init 77 = .ok (.invokespecial 55, 3) := by decide +kernel
theorem dX9_init_80 : decode cX9_init 80 = .ok (.putfield 56, 3) := by decide +kernel
theorem dX9_init_83 : decode cX9_init 83 = .ok (.aload_n 0, 1) := by decide +kernel
theorem dX9_init_84 : decode cX9_init 84 = .ok (.new 60, 3) := by decide +kernel
theorem dX9_init_87 : decode cX9_init 87 = .ok (.dup, 1) := by decide +kernel
theorem dX9_init_88 : decode cX9_init 88 = .ok (.invokespecial 62, 3) := by decide +kernel
theorem dX9_init_91 : decode cX9_init 91 = .ok (.putfield 63, 3) := by decide +kernel
theorem dX9_init_94 : decode cX9_init 94 = .ok (.aload_n 0, 1) := by decide +kernel
theorem dX9_init_95 : decode cX9_init 95 = .ok (.new 67, 3) := by decide +kernel
theorem dX9_init_98 : decode cX9_init 98 = .ok (.dup, 1) := by decide +kernel
theorem dX9_init_99 : decode cX9_init 99 = .ok (.invokespecial 69, 3) := by decide +kernel
theorem dX9_init_102 : decode cX9_init 102 = .ok (.putfield 70, 3) := by decide +kernel
theorem dX9_init_105 : decode cX9_init 105 = .ok (.return_, 1) := by decide +kernel
theorem dX9_post_0 : decode cX9_post 0 = .ok (.iload_n 1, 1) := by decide +kernel
theorem dX9_post_1 : decode cX9_post 1 = .ok (.bipush 32, 2) := by decide +kernel
theorem dX9_post_3 : decode cX9_post 3 = .ok (.invokestatic 74, 3) := by decide +kernel
theorem dX9_post_6 : decode cX9_post 6 = .ok (.ifCond .eq 24, 3) := by decide +kernel
theorem dX9_post_9 : decode cX9_post 9 = .ok (.iload_n 2, 1) := by decide +kernel
theorem dX9_post_10 : decode cX9_post 10 = .ok (.bipush 32, 2) := by decide +kernel
theorem dX9_post_12 : decode cX9_post 12 = .ok (.invokestatic 74, 3) := by decide +kernel
theorem dX9_post_15 : decode cX9_post 15 = .ok (.ifCond .eq 15, 3) := by decide +kernel
theorem dX9_post_18 : decode cX9_post 18 = .ok (.aload_n 0, 1) := by decide +kernel
theorem dX9_post_19 : decode cX9_post 19 = .ok (.getfield 10, 3) := by decide +kernel
theorem dX9_post_22 : decode cX9_post 22 = .ok (.getfield 78, 3) := by decide +kernel
theorem dX9_post_25 : decode cX9_post 25 = .ok (.bipush 6, 2) := by decide +kernel
theorem dX9_post_27 : decode cX9_post 27 = .ok (.if_icmp .lt 5, 3) := by decide +kernel
theorem dX9_post_30 : decode cX9_post 30 = .ok (.iconst (-1), 1) := by decide +kernel
theorem dX9_post_31 : decode cX9_post 31 = .ok (.ireturn, 1) := by decide +kernel
theorem dX9_post_32 : decode cX9_post 32 = .ok (.aload_n 0, 1) := by decide +kernel
theorem dX9_post_33 : decode cX9_post 33 = .ok (.getfield 10, 3) := by decide +kernel
theorem dX9_post_36 : decode cX9_post 36 = .ok (.iload_n 1, 1) := by decide +kernel
theorem dX9_post_37 : decode cX9_post 37 = .ok (.iload_n 2, 1) := by decide +kernel
theorem dX9_post_38 : decode cX9_post 38 = .ok (.invokevirtual 82, 3) := by decide +kernel
theorem dX9_post_41 : decode cX9_post 41 = .ok (.ireturn, 1) := by decide +kernel
theorem dX9_listened_0 : decode cX9_listened 0 = .ok (.aload_n 0, 1) := by decide +kernel
theorem dX9_listened_1 : decode cX9_listened 1 = .ok (.iload_n 1, 1) := by decide +kernel
theorem dX9_listened_2 : decode cX9_listened 2 = .ok (.iload_n 2, 1) := by decide +kernel
theorem dX9_listened_3 : decode cX9_listened 3 = .ok (.iload_n 3, 1) := by decide +kernel
theorem dX9_listened_4 : decode cX9_listened 4 = .ok (.iload 4, 2) := by decide +kernel
theorem dX9_listened_6 : decode cX9_listened 6 = .ok (.invokevirtual 86, 3) := by decide +kernel
theorem dX9_listened_9 : decode cX9_listened 9 = .ok (.ifCond .eq 15, 3) := by decide +kernel
theorem dX9_listened_12 : decode cX9_listened 12 = .ok (.aload_n 0, 1) := by decide +kernel
theorem dX9_listened_13 : decode cX9_listened 13 = .ok (.getfield 21, 3) := by decide +kernel
theorem dX9_listened_16 : decode cX9_listened 16 = .ok (.getfield 90, 3) := by decide +kernel
theorem dX9_listened_19 : decode cX9_listened 19 = .ok (.bipush 100, 2) := by decide +kernel
theorem dX9_listened_21 : decode cX9_listened 21 = .ok (.if_icmp .lt 5, 3) := by decide +kernel
theorem dX9_listened_24 : decode cX9_listened 24 = .ok (.iconst (-1), 1) := by decide +kernel
theorem dX9_listened_25 : decode cX9_listened 25 = .ok (.ireturn, 1) := by decide +kernel
theorem dX9_listened_26 : decode cX9_listened 26 = .ok (.aload_n 0, 1) := by decide +kernel
theorem dX9_listened_27 : decode cX9_listened 27 = .ok (.getfield 21, 3) := by decide +kernel
theorem dX9_listened_30 : decode cX9_listened 30 = .ok (.iload_n 1, 1) := by decide +kernel
theorem dX9_listened_31 : decode cX9_listened 31 = .ok (.iload_n 2, 1) := by decide +kernel
theorem dX9_listened_32 : decode cX9_listened 32 = .ok (.iload_n 3, 1) := by decide +kernel
theorem dX9_listened_33 : decode cX9_listened 33 = .ok (.iload 4, 2) := by decide +kernel
theorem dX9_listened_35 : decode cX9_listened 35 = .ok (.invokevirtual 91, 3) := by decide +kernel
theorem dX9_listened_38 : decode cX9_listened 38 = .ok (.iconst 1, 1) := by decide +kernel
theorem dX9_listened_39 : decode cX9_listened 39 = .ok (.iadd, 1) := by decide +kernel
theorem dX9_listened_40 : decode cX9_listened 40 = .ok (.ireturn, 1) := by decide +kernel
theorem dX9_mark_0 : decode cX9_mark 0 = .ok (.aload_n 0, 1) := by decide +kernel
theorem dX9_mark_1 : decode cX9_mark 1 = .ok (.iload_n 1, 1) := by decide +kernel
theorem dX9_mark_2 : decode cX9_mark 2 = .ok (.iload_n 2, 1) := by decide +kernel
theorem dX9_mark_3 : decode cX9_mark 3 = .ok (.iload_n 3, 1) := by decide +kernel
theorem dX9_mark_4 : decode cX9_mark 4 = .ok (.iload 4, 2) := by decide +kernel
theorem dX9_mark_6 : decode cX9_mark 6 = .ok (.invokevirtual 86, 3) := by decide +kernel
theorem dX9_mark_9 : decode cX9_mark 9 = .ok (.ifCond .eq 44, 3) := by decide +kernel
theorem dX9_mark_12 : decode cX9_mark 12 = .ok (.iload 5, 2) := by decide +kernel
theorem dX9_mark_14 : decode cX9_mark 14 = .ok (.sipush 1000, 3) := by decide +kernel
theorem dX9_mark_17 : decode cX9_mark 17 = .ok (.invokestatic 74, 3) := by decide +kernel
theorem dX9_mark_20 : decode cX9_mark 20 = .ok (.ifCond .eq 33, 3) := by decide +kernel
theorem dX9_mark_23 : decode cX9_mark 23 = .ok (.aload_n 0, 1) := by decide +kernel
theorem dX9_mark_24 : decode cX9_mark 24 = .ok (.getfield 28, 3) := by decide +kernel
theorem dX9_mark_27 : decode cX9_mark 27 = .ok (.getfield 94, 3) := by decide +kernel
theorem dX9_mark_30 : decode cX9_mark 30 = .ok (.getfield 90, 3) := by decide +kernel
theorem dX9_mark_33 : decode cX9_mark 33 = .ok (.bipush 60, 2) := by decide +kernel
theorem dX9_mark_35 : decode cX9_mark 35 = .ok (.if_icmp .ge 18, 3) := by decide +kernel
theorem dX9_mark_38 : decode cX9_mark 38 = .ok (.aload_n 0, 1) := by decide +kernel
theorem dX9_mark_39 : decode cX9_mark 39 = .ok (.getfield 21, 3) := by decide +kernel
theorem dX9_mark_42 : decode cX9_mark 42 = .ok (.iload_n 1, 1) := by decide +kernel
theorem dX9_mark_43 : decode cX9_mark 43 = .ok (.iload_n 2, 1) := by decide +kernel
theorem dX9_mark_44 : decode cX9_mark 44 = .ok (.iload_n 3, 1) := by decide +kernel
theorem dX9_mark_45 : decode cX9_mark 45 = .ok (.iload 4, 2) := by decide +kernel
theorem dX9_mark_47 : decode cX9_mark 47 = .ok (.invokevirtual 97, 3) := by decide +kernel
theorem dX9_mark_50 : decode cX9_mark 50 = .ok (.ifCond .ne 5, 3) := by decide +kernel
theorem dX9_mark_53 : decode cX9_mark 53 = .ok (.iconst (-1), 1) := by decide +kernel
theorem dX9_mark_54 : decode cX9_mark 54 = .ok (.ireturn, 1) := by decide +kernel
theorem dX9_mark_55 : decode cX9_mark 55 = .ok (.aload_n 0, 1) := by decide +kernel
theorem dX9_mark_56 : decode cX9_mark 56 = .ok (.getfield 28, 3) := by decide +kernel
theorem dX9_mark_59 : decode cX9_mark 59 = .ok (.iload_n 1, 1) := by decide +kernel
theorem dX9_mark_60 : decode cX9_mark 60 = .ok (.iload_n 2, 1) := by decide +kernel
theorem dX9_mark_61 : decode cX9_mark 61 = .ok (.iload_n 3, 1) := by decide +kernel
theorem dX9_mark_62 : decode cX9_mark 62 = .ok (.iload 4, 2) := by decide +kernel
theorem dX9_mark_64 : decode cX9_mark 64 = .ok (.iload 5, 2) := by decide +kernel
theorem dX9_mark_66 : decode cX9_mark 66 = .ok (.invokevirtual 100, 3) := by decide +kernel
theorem dX9_mark_69 : decode cX9_mark 69 = .ok (.istore 6, 2) := by decide +kernel
theorem dX9_mark_71 : decode cX9_mark 71 = .ok (.aload_n 0, 1) := by decide +kernel
theorem dX9_mark_72 : decode cX9_mark 72 = .ok (.getfield 35, 3) := by decide +kernel
theorem dX9_mark_75 : decode cX9_mark 75 = .ok (.aload_n 0, 1) := by decide +kernel
theorem dX9_mark_76 : decode cX9_mark 76 = .ok (.getfield 28, 3) := by decide +kernel
theorem dX9_mark_79 : decode cX9_mark 79 = .ok (.invokevirtual 103, 3) := by decide +kernel
theorem dX9_mark_82 : decode cX9_mark 82 = .ok (.iload 6, 2) := by decide +kernel
theorem dX9_mark_84 : decode cX9_mark 84 = .ok (.ireturn, 1) := by decide +kernel
theorem dX9_wedge_0 : decode cX9_wedge 0 = .ok (.iload_n 1, 1) := by decide +kernel
theorem dX9_wedge_1 : decode cX9_wedge 1 = .ok (.aload_n 0, 1) := by decide +kernel
theorem dX9_wedge_2 : decode cX9_wedge 2 = .ok (.getfield 28, 3) := by decide +kernel
theorem dX9_wedge_5 : decode cX9_wedge 5 = .ok (.getfield 94, 3) := by decide +kernel
theorem dX9_wedge_8 : decode cX9_wedge 8 = .ok (.getfield 90, 3) := by decide +kernel
theorem dX9_wedge_11 : decode cX9_wedge 11 = .ok (.invokestatic 74, 3) := by decide +kernel
theorem dX9_wedge_14 : decode cX9_wedge 14 = .ok (.ifCond .eq 45, 3) := by decide +kernel
theorem dX9_wedge_17 : decode cX9_wedge 17 = .ok (.iload_n 2, 1) := by decide +kernel
theorem dX9_wedge_18 : decode cX9_wedge 18 = .ok (.invokestatic 107, 3) := by decide +kernel
theorem dX9_wedge_21 : decode cX9_wedge 21 = .ok (.ifCond .eq 38, 3) := by decide +kernel
theorem dX9_wedge_24 : decode cX9_wedge 24 = .ok (.iload_n 3, 1) := by decide +kernel
theorem dX9_wedge_25 : decode cX9_wedge 25 = .ok (.invokestatic 107, 3) := by decide +kernel
theorem dX9_wedge_28 : decode cX9_wedge 28 = .ok (.ifCond .eq 31, 3) := by decide +kernel
theorem dX9_wedge_31 : decode cX9_wedge 31 = .ok (.iload 4, 2) := by decide +kernel
theorem dX9_wedge_33 : decode cX9_wedge 33 = .ok (.invokestatic 107, 3) := by decide +kernel
theorem dX9_wedge_36 : decode cX9_wedge 36 = .ok (.ifCond .eq 23, 3) := by decide +kernel
theorem dX9_wedge_39 : decode cX9_wedge 39 = .ok (.iload 5, 2) := by decide +kernel
theorem dX9_wedge_41 : decode cX9_wedge 41 = .ok (.invokestatic 107, 3) := by decide +kernel
theorem dX9_wedge_44 : decode cX9_wedge 44 = .ok (.ifCond .eq 15, 3) := by decide +kernel
theorem dX9_wedge_47 : decode cX9_wedge 47 = .ok (.iload_n 2, 1) := by decide +kernel
theorem dX9_wedge_48 : decode cX9_wedge 48 = .ok (.iload 5, 2) := by decide +kernel
theorem dX9_wedge_50 : decode cX9_wedge 50 = .ok (.imul, 1) := by decide +kernel
theorem dX9_wedge_51 : decode cX9_wedge 51 = .ok (.iload_n 3, 1) := by decide +kernel
theorem dX9_wedge_52 : decode cX9_wedge 52 = .ok (.iload 4, 2) := by decide +kernel
theorem dX9_wedge_54 : decode cX9_wedge 54 = .ok (.imul, 1) := by decide +kernel
theorem dX9_wedge_55 : decode cX9_wedge 55 = .ok (.isub, 1) := by decide +kernel
theorem dX9_wedge_56 : decode cX9_wedge 56 = .ok (.ifCond .gt 5, 3) := by decide +kernel
theorem dX9_wedge_59 : decode cX9_wedge 59 = .ok (.iconst 0, 1) := by decide +kernel
theorem dX9_wedge_60 : decode cX9_wedge 60 = .ok (.ireturn, 1) := by decide +kernel
theorem dX9_wedge_61 : decode cX9_wedge 61 = .ok (.aload_n 0, 1) := by decide +kernel
theorem dX9_wedge_62 : decode cX9_wedge 62 = .ok (.getfield 28, 3) := by decide +kernel
theorem dX9_wedge_65 : decode cX9_wedge 65 = .ok (.getfield 94, 3) := by decide +kernel
theorem dX9_wedge_68 : decode cX9_wedge 68 = .ok (.getfield 111, 3) := by decide +kernel
theorem dX9_wedge_71 : decode cX9_wedge 71 = .ok (.iload_n 1, 1) := by decide +kernel
theorem dX9_wedge_72 : decode cX9_wedge 72 = .ok (.iaload, 1) := by decide +kernel
theorem dX9_wedge_73 : decode cX9_wedge 73 = .ok (.istore 6, 2) := by decide +kernel
theorem dX9_wedge_75 : decode cX9_wedge 75 = .ok (.aload_n 0, 1) := by decide +kernel
theorem dX9_wedge_76 : decode cX9_wedge 76 = .ok (.getfield 28, 3) := by decide +kernel
theorem dX9_wedge_79 : decode cX9_wedge 79 = .ok (.iload_n 1, 1) := by decide +kernel
theorem dX9_wedge_80 : decode cX9_wedge 80 = .ok (.invokevirtual 115, 3) := by decide +kernel
theorem dX9_wedge_83 : decode cX9_wedge 83 = .ok (.iconst 0, 1) := by decide +kernel
theorem dX9_wedge_84 : decode cX9_wedge 84 = .ok (.istore 7, 2) := by decide +kernel
theorem dX9_wedge_86 : decode cX9_wedge 86 = .ok (.iload 7, 2) := by decide +kernel
theorem dX9_wedge_88 : decode cX9_wedge 88 = .ok (.sipush 1024, 3) := by decide +kernel
theorem dX9_wedge_91 : decode cX9_wedge 91 = .ok (.if_icmp .ge 81, 3) := by decide +kernel
theorem dX9_wedge_94 : decode cX9_wedge 94 = .ok (.iload 7, 2) := by decide +kernel
theorem dX9_wedge_96 : decode cX9_wedge 96 = .ok (.bipush 32, 2) := by decide +kernel
theorem dX9_wedge_98 : decode cX9_wedge 98 = .ok (.irem, 1) := by decide +kernel
theorem dX9_wedge_99 : decode cX9_wedge 99 = .ok (.aload_n 0, 1) := by decide +kernel
theorem dX9_wedge_100 : decode cX9_wedge 100 = .ok (.getfield 10, 3) := by decide +kernel
theorem dX9_wedge_103 : decode cX9_wedge 103 = .ok (.getfield 118, 3) := by decide +kernel
theorem dX9_wedge_106 : decode cX9_wedge 106 = .ok (.iload 6, 2) := by decide +kernel
theorem dX9_wedge_108 : decode cX9_wedge 108 = .ok (.iaload, 1) := by decide +kernel
theorem dX9_wedge_109 : decode cX9_wedge 109 = .ok (.isub, 1) := by decide +kernel
theorem dX9_wedge_110 : decode cX9_wedge 110 = .ok (.istore 8, 2) := by decide +kernel
theorem dX9_wedge_112 : decode cX9_wedge 112 = .ok (.iload 7, 2) := by decide +kernel
theorem dX9_wedge_114 : decode cX9_wedge 114 = .ok (.bipush 32, 2) := by decide +kernel
theorem dX9_wedge_116 : decode cX9_wedge 116 = .ok (.idiv, 1) := by decide +kernel
theorem dX9_wedge_117 : decode cX9_wedge 117 = .ok (.aload_n 0, 1) := by decide +kernel
theorem dX9_wedge_118 : decode cX9_wedge 118 = .ok (.getfield 10, 3) := by decide +kernel
theorem dX9_wedge_121 : decode cX9_wedge 121 = .ok (.getfield 121, 3) := by decide +kernel
theorem dX9_wedge_124 : decode cX9_wedge 124 = .ok (.iload 6, 2) := by decide +kernel
theorem dX9_wedge_126 : decode cX9_wedge 126 = .ok (.iaload, 1) := by decide +kernel
theorem dX9_wedge_127 : decode cX9_wedge 127 = .ok (.isub, 1) := by decide +kernel
theorem dX9_wedge_128 : decode cX9_wedge 128 = .ok (.istore 9, 2) := by decide +kernel
theorem dX9_wedge_130 : decode cX9_wedge 130 = .ok (.iload_n 2, 1) := by decide +kernel
theorem dX9_wedge_131 : decode cX9_wedge 131 = .ok (.iload 9, 2) := by decide +kernel
theorem dX9_wedge_133 : decode cX9_wedge 133 = .ok (.imul, 1) := by decide +kernel
theorem dX9_wedge_134 : decode cX9_wedge 134 = .ok (.iload_n 3, 1) := by decide +kernel
theorem dX9_wedge_135 : decode cX9_wedge 135 = .ok (.iload 8, 2) := by decide +kernel
theorem dX9_wedge_137 : decode cX9_wedge 137 = .ok (.imul, 1) := by decide +kernel
theorem dX9_wedge_138 : decode cX9_wedge 138 = .ok (.isub, 1) := by decide +kernel
theorem dX9_wedge_139 : decode cX9_wedge 139 = .ok (.ifCond .lt 27, 3) := by decide +kernel
theorem dX9_wedge_142 : decode cX9_wedge 142 = .ok (.iload 8, 2) := by decide +kernel
theorem dX9_wedge_144 : decode cX9_wedge 144 = .ok (.iload 5, 2) := by decide +kernel
theorem dX9_wedge_146 : decode cX9_wedge 146 = .ok (.imul, 1) := by decide +kernel
theorem dX9_wedge_147 : decode cX9_wedge 147 = .ok (.iload 9, 2) := by decide +kernel
theorem dX9_wedge_149 : decode cX9_wedge 149 = .ok (.iload 4, 2) := by decide +kernel
theorem dX9_wedge_151 : decode cX9_wedge 151 = .ok (.imul, 1) := by decide +kernel
theorem dX9_wedge_152 : decode cX9_wedge 152 = .ok (.isub, 1) := by decide +kernel
theorem dX9_wedge_153 : decode cX9_wedge 153 = .ok (.ifCond .lt 13, 3) := by decide +kernel
theorem dX9_wedge_156 : decode cX9_wedge 156 = .ok (.aload_n 0, 1) := by decide +kernel
theorem dX9_wedge_157 : decode cX9_wedge 157 = .ok (.getfield 28, 3) := by decide +kernel
theorem dX9_wedge_160 : decode cX9_wedge 160 = .ok (.iload_n 1, 1) := by decide +kernel
theorem dX9_wedge_161 : decode cX9_wedge 161 = .ok (.iload 7, 2) := by decide +kernel
theorem dX9_wedge_163 : decode cX9_wedge 163 = .ok (.invokevirtual 124, 3) := by decide +kernel
theorem dX9_wedge_166 : decode cX9_wedge 166 = .ok (.iinc 7 1, 3) := by decide +kernel
theorem dX9_wedge_169 : decode cX9_wedge 169 = .ok (.goto (-83), 3) := by decide +kernel
theorem dX9_wedge_172 : decode cX9_wedge 172 = .ok (.iconst 1, 1) := by decide +kernel
theorem dX9_wedge_173 : decode cX9_wedge 173 = .ok (.ireturn, 1) := by decide +kernel
theorem dX9_joins_0 : decode cX9_joins 0 = .ok (.iload_n 1, 1) := by decide +kernel
theorem dX9_joins_1 : decode cX9_joins 1 = .ok (.bipush 100, 2) := by decide +kernel
theorem dX9_joins_3 : decode cX9_joins 3 = .ok (.invokestatic 74, 3) := by decide +kernel
theorem dX9_joins_6 : decode cX9_joins 6 = .ok (.ifCond .eq 13, 3) := by decide +kernel
theorem dX9_joins_9 : decode cX9_joins 9 = .ok (.iload_n 2, 1) := by decide +kernel
theorem dX9_joins_10 : decode cX9_joins 10 = .ok (.sipush 1000, 3) := by decide +kernel
theorem dX9_joins_13 : decode cX9_joins 13 = .ok (.invokestatic 74, 3) := by decide +kernel
theorem dX9_joins_16 : decode cX9_joins 16 = .ok (.ifCond .ne 5, 3) := by decide +kernel
theorem dX9_joins_19 : decode cX9_joins 19 = .ok (.iconst 0, 1) := by decide +kernel
theorem dX9_joins_20 : decode cX9_joins 20 = .ok (.ireturn, 1) := by decide +kernel
theorem dX9_joins_21 : decode cX9_joins 21 = .ok (.aload_n 0, 1) := by decide +kernel
theorem dX9_joins_22 : decode cX9_joins 22 = .ok (.getfield 35, 3) := by decide +kernel
theorem dX9_joins_25 : decode cX9_joins 25 = .ok (.iload_n 1, 1) := by decide +kernel
theorem dX9_joins_26 : decode cX9_joins 26 = .ok (.putfield 128, 3) := by decide +kernel
theorem dX9_joins_29 : decode cX9_joins 29 = .ok (.aload_n 0, 1) := by decide +kernel
theorem dX9_joins_30 : decode cX9_joins 30 = .ok (.getfield 35, 3) := by decide +kernel
theorem dX9_joins_33 : decode cX9_joins 33 = .ok (.iload_n 2, 1) := by decide +kernel
theorem dX9_joins_34 : decode cX9_joins 34 = .ok (.putfield 131, 3) := by decide +kernel
theorem dX9_joins_37 : decode cX9_joins 37 = .ok (.aload_n 0, 1) := by decide +kernel
theorem dX9_joins_38 : decode cX9_joins 38 = .ok (.getfield 35, 3) := by decide +kernel
theorem dX9_joins_41 : decode cX9_joins 41 = .ok (.aload_n 0, 1) := by decide +kernel
theorem dX9_joins_42 : decode cX9_joins 42 = .ok (.getfield 28, 3) := by decide +kernel
theorem dX9_joins_45 : decode cX9_joins 45 = .ok (.invokevirtual 103, 3) := by decide +kernel
theorem dX9_joins_48 : decode cX9_joins 48 = .ok (.iconst 1, 1) := by decide +kernel
theorem dX9_joins_49 : decode cX9_joins 49 = .ok (.ireturn, 1) := by decide +kernel
theorem dX9_senders_0 : decode cX9_senders 0 = .ok (.aload_n 0, 1) := by decide +kernel
theorem dX9_senders_1 : decode cX9_senders 1 = .ok (.getfield 35, 3) := by decide +kernel
theorem dX9_senders_4 : decode cX9_senders 4 = .ok (.getfield 134, 3) := by decide +kernel
theorem dX9_senders_7 : decode cX9_senders 7 = .ok (.ireturn, 1) := by decide +kernel
theorem dX9_senderOf_0 : decode cX9_senderOf 0 = .ok (.iload_n 1, 1) := by decide +kernel
theorem dX9_senderOf_1 : decode cX9_senderOf 1 = .ok (.aload_n 0, 1) := by decide +kernel
theorem dX9_senderOf_2 : decode cX9_senderOf 2 = .ok (.getfield 28, 3) := by decide +kernel
theorem dX9_senderOf_5 : decode cX9_senderOf 5 = .ok (.getfield 94, 3) := by decide +kernel
theorem dX9_senderOf_8 : decode cX9_senderOf 8 = .ok (.getfield 90, 3) := by decide +kernel
theorem dX9_senderOf_11 : decode cX9_senderOf 11 = .ok (.invokestatic 74, 3) := by decide +kernel
theorem dX9_senderOf_14 : decode cX9_senderOf 14 = .ok (.ifCond .eq 15, 3) := by decide +kernel
theorem dX9_senderOf_17 : decode cX9_senderOf 17 = .ok (.aload_n 0, 1) := by decide +kernel
theorem dX9_senderOf_18 : decode cX9_senderOf 18 = .ok (.getfield 35, 3) := by decide +kernel
theorem dX9_senderOf_21 : decode cX9_senderOf 21 = .ok (.getfield 135, 3) := by decide +kernel
theorem dX9_senderOf_24 : decode cX9_senderOf 24 = .ok (.iload_n 1, 1) := by decide +kernel
theorem dX9_senderOf_25 : decode cX9_senderOf 25 = .ok (.iaload, 1) := by decide +kernel
theorem dX9_senderOf_26 : decode cX9_senderOf 26 = .ok (.goto 4, 3) := by decide +kernel
theorem dX9_senderOf_29 : decode cX9_senderOf 29 = .ok (.iconst (-1), 1) := by decide +kernel
theorem dX9_senderOf_30 : decode cX9_senderOf 30 = .ok (.ireturn, 1) := by decide +kernel
theorem dX9_sender_0 : decode cX9_sender 0 = .ok (.iload_n 1, 1) := by decide +kernel
theorem dX9_sender_1 : decode cX9_sender 1 = .ok (.aload_n 0, 1) := by decide +kernel
theorem dX9_sender_2 : decode cX9_sender 2 = .ok (.getfield 35, 3) := by decide +kernel
theorem dX9_sender_5 : decode cX9_sender 5 = .ok (.getfield 134, 3) := by decide +kernel
theorem dX9_sender_8 : decode cX9_sender 8 = .ok (.invokestatic 74, 3) := by decide +kernel
theorem dX9_sender_11 : decode cX9_sender 11 = .ok (.ifCond .ne 5, 3) := by decide +kernel
theorem dX9_sender_14 : decode cX9_sender 14 = .ok (.iconst (-1), 1) := by decide +kernel
theorem dX9_sender_15 : decode cX9_sender 15 = .ok (.ireturn, 1) := by decide +kernel
theorem dX9_sender_16 : decode cX9_sender 16 = .ok (.aload_n 0, 1) := by decide +kernel
theorem dX9_sender_17 : decode cX9_sender 17 = .ok (.getfield 42, 3) := by decide +kernel
theorem dX9_sender_20 : decode cX9_sender 20 = .ok (.aload_n 0, 1) := by decide +kernel
theorem dX9_sender_21 : decode cX9_sender 21 = .ok (.getfield 28, 3) := by decide +kernel
theorem dX9_sender_24 : decode cX9_sender 24 = .ok (.aload_n 0, 1) := by decide +kernel
theorem dX9_sender_25 : decode cX9_sender 25 = .ok (.getfield 35, 3) := by decide +kernel
theorem dX9_sender_28 : decode cX9_sender 28 = .ok (.getfield 135, 3) := by decide +kernel
theorem dX9_sender_31 : decode cX9_sender 31 = .ok (.iload_n 1, 1) := by decide +kernel
theorem dX9_sender_32 : decode cX9_sender 32 = .ok (.invokevirtual 138, 3) := by decide +kernel
theorem dX9_sender_35 : decode cX9_sender 35 = .ok (.iload_n 2, 1) := by decide +kernel
theorem dX9_sender_36 : decode cX9_sender 36 = .ok (.tableswitch 129 0 8 #[52, 62, 70, 78, 86, 94, 102, 110, 118], 52) := by decide +kernel
theorem dX9_sender_88 : decode cX9_sender 88 = .ok (.aload_n 0, 1) := by decide +kernel
theorem dX9_sender_89 : decode cX9_sender 89 = .ok (.getfield 42, 3) := by decide +kernel
theorem dX9_sender_92 : decode cX9_sender 92 = .ok (.getfield 142, 3) := by decide +kernel
theorem dX9_sender_95 : decode cX9_sender 95 = .ok (.iconst 0, 1) := by decide +kernel
theorem dX9_sender_96 : decode cX9_sender 96 = .ok (.iaload, 1) := by decide +kernel
theorem dX9_sender_97 : decode cX9_sender 97 = .ok (.ireturn, 1) := by decide +kernel
theorem dX9_sender_98 : decode cX9_sender 98 = .ok (.aload_n 0, 1) := by decide +kernel
theorem dX9_sender_99 : decode cX9_sender 99 = .ok (.getfield 42, 3) := by decide +kernel
theorem dX9_sender_102 : decode cX9_sender 102 = .ok (.getfield 145, 3) := by decide +kernel
theorem dX9_sender_105 : decode cX9_sender 105 = .ok (.ireturn, 1) := by decide +kernel
theorem dX9_sender_106 : decode cX9_sender 106 = .ok (.aload_n 0, 1) := by decide +kernel
theorem dX9_sender_107 : decode cX9_sender 107 = .ok (.getfield 42, 3) := by decide +kernel
theorem dX9_sender_110 : decode cX9_sender 110 = .ok (.getfield 146, 3) := by decide +kernel
theorem dX9_sender_113 : decode cX9_sender 113 = .ok (.ireturn, 1) := by decide +kernel
theorem dX9_sender_114 : decode cX9_sender 114 = .ok (.aload_n 0, 1) := by decide +kernel
theorem dX9_sender_115 : decode cX9_sender 115 = .ok (.getfield 42, 3) := by decide +kernel
theorem dX9_sender_118 : decode cX9_sender 118 = .ok (.getfield 149, 3) := by decide +kernel
theorem dX9_sender_121 : decode cX9_sender 121 = .ok (.ireturn, 1) := by decide +kernel
theorem dX9_sender_122 : decode cX9_sender 122 = .ok (.aload_n 0, 1) := by decide +kernel
theorem dX9_sender_123 : decode cX9_sender 123 = .ok (.getfield 42, 3) := by decide +kernel
theorem dX9_sender_126 : decode cX9_sender 126 = .ok (.getfield 152, 3) := by decide +kernel
theorem dX9_sender_129 : decode cX9_sender 129 = .ok (.ireturn, 1) := by decide +kernel
theorem dX9_sender_130 : decode cX9_sender 130 = .ok (.aload_n 0, 1) := by decide +kernel
theorem dX9_sender_131 : decode cX9_sender 131 = .ok (.getfield 42, 3) := by decide +kernel
theorem dX9_sender_134 : decode cX9_sender 134 = .ok (.getfield 155, 3) := by decide +kernel
theorem dX9_sender_137 : decode cX9_sender 137 = .ok (.ireturn, 1) := by decide +kernel
theorem dX9_sender_138 : decode cX9_sender 138 = .ok (.aload_n 0, 1) := by decide +kernel
theorem dX9_sender_139 : decode cX9_sender 139 = .ok (.getfield 42, 3) := by decide +kernel
theorem dX9_sender_142 : decode cX9_sender 142 = .ok (.getfield 158, 3) := by decide +kernel
theorem dX9_sender_145 : decode cX9_sender 145 = .ok (.ireturn, 1) := by decide +kernel
theorem dX9_sender_146 : decode cX9_sender 146 = .ok (.aload_n 0, 1) := by decide +kernel
theorem dX9_sender_147 : decode cX9_sender 147 = .ok (.getfield 42, 3) := by decide +kernel
theorem dX9_sender_150 : decode cX9_sender 150 = .ok (.invokevirtual 161, 3) := by decide +kernel
theorem dX9_sender_153 : decode cX9_sender 153 = .ok (.ireturn, 1) := by decide +kernel
theorem dX9_sender_154 : decode cX9_sender 154 = .ok (.aload_n 0, 1) := by decide +kernel
theorem dX9_sender_155 : decode cX9_sender 155 = .ok (.getfield 42, 3) := by decide +kernel
theorem dX9_sender_158 : decode cX9_sender 158 = .ok (.getfield 165, 3) := by decide +kernel
theorem dX9_sender_161 : decode cX9_sender 161 = .ok (.invokestatic 167, 3) := by decide +kernel
theorem dX9_sender_164 : decode cX9_sender 164 = .ok (.ireturn, 1) := by decide +kernel
theorem dX9_sender_165 : decode cX9_sender 165 = .ok (.iconst (-1), 1) := by decide +kernel
theorem dX9_sender_166 : decode cX9_sender 166 = .ok (.ireturn, 1) := by decide +kernel
theorem dX9_place_0 : decode cX9_place 0 = .ok (.iload_n 1, 1) := by decide +kernel
theorem dX9_place_1 : decode cX9_place 1 = .ok (.aload_n 0, 1) := by decide +kernel
theorem dX9_place_2 : decode cX9_place 2 = .ok (.getfield 35, 3) := by decide +kernel
theorem dX9_place_5 : decode cX9_place 5 = .ok (.getfield 134, 3) := by decide +kernel
theorem dX9_place_8 : decode cX9_place 8 = .ok (.invokestatic 74, 3) := by decide +kernel
theorem dX9_place_11 : decode cX9_place 11 = .ok (.ifCond .eq 13, 3) := by decide +kernel
theorem dX9_place_14 : decode cX9_place 14 = .ok (.iload_n 2, 1) := by decide +kernel
theorem dX9_place_15 : decode cX9_place 15 = .ok (.sipush 1024, 3) := by decide +kernel
theorem dX9_place_18 : decode cX9_place 18 = .ok (.invokestatic 74, 3) := by decide +kernel
theorem dX9_place_21 : decode cX9_place 21 = .ok (.ifCond .ne 5, 3) := by decide +kernel
theorem dX9_place_24 : decode cX9_place 24 = .ok (.iconst (-1), 1) := by decide +kernel
theorem dX9_place_25 : decode cX9_place 25 = .ok (.ireturn, 1) := by decide +kernel
theorem dX9_place_26 : decode cX9_place 26 = .ok (.aload_n 0, 1) := by decide +kernel
theorem dX9_place_27 : decode cX9_place 27 = .ok (.getfield 42, 3) := by decide +kernel
theorem dX9_place_30 : decode cX9_place 30 = .ok (.aload_n 0, 1) := by decide +kernel
theorem dX9_place_31 : decode cX9_place 31 = .ok (.getfield 28, 3) := by decide +kernel
theorem dX9_place_34 : decode cX9_place 34 = .ok (.aload_n 0, 1) := by decide +kernel
theorem dX9_place_35 : decode cX9_place 35 = .ok (.getfield 35, 3) := by decide +kernel
theorem dX9_place_38 : decode cX9_place 38 = .ok (.getfield 135, 3) := by decide +kernel
theorem dX9_place_41 : decode cX9_place 41 = .ok (.iload_n 1, 1) := by decide +kernel
theorem dX9_place_42 : decode cX9_place 42 = .ok (.invokevirtual 138, 3) := by decide +kernel
theorem dX9_place_45 : decode cX9_place 45 = .ok (.aload_n 0, 1) := by decide +kernel
theorem dX9_place_46 : decode cX9_place 46 = .ok (.getfield 42, 3) := by decide +kernel
theorem dX9_place_49 : decode cX9_place 49 = .ok (.iload_n 2, 1) := by decide +kernel
theorem dX9_place_50 : decode cX9_place 50 = .ok (.invokevirtual 173, 3) := by decide +kernel
theorem dX9_place_53 : decode cX9_place 53 = .ok (.ireturn, 1) := by decide +kernel
theorem dX9_box_0 : decode cX9_box 0 = .ok (.iload_n 1, 1) := by decide +kernel
theorem dX9_box_1 : decode cX9_box 1 = .ok (.aload_n 0, 1) := by decide +kernel
theorem dX9_box_2 : decode cX9_box 2 = .ok (.getfield 35, 3) := by decide +kernel
theorem dX9_box_5 : decode cX9_box 5 = .ok (.getfield 134, 3) := by decide +kernel
theorem dX9_box_8 : decode cX9_box 8 = .ok (.invokestatic 74, 3) := by decide +kernel
theorem dX9_box_11 : decode cX9_box 11 = .ok (.ifCond .eq 11, 3) := by decide +kernel
theorem dX9_box_14 : decode cX9_box 14 = .ok (.iload_n 2, 1) := by decide +kernel
theorem dX9_box_15 : decode cX9_box 15 = .ok (.iconst 4, 1) := by decide +kernel
theorem dX9_box_16 : decode cX9_box 16 = .ok (.invokestatic 74, 3) := by decide +kernel
theorem dX9_box_19 : decode cX9_box 19 = .ok (.ifCond .ne 5, 3) := by decide +kernel
theorem dX9_box_22 : decode cX9_box 22 = .ok (.iconst (-1), 1) := by decide +kernel
theorem dX9_box_23 : decode cX9_box 23 = .ok (.ireturn, 1) := by decide +kernel
theorem dX9_box_24 : decode cX9_box 24 = .ok (.aload_n 0, 1) := by decide +kernel
theorem dX9_box_25 : decode cX9_box 25 = .ok (.getfield 42, 3) := by decide +kernel
theorem dX9_box_28 : decode cX9_box 28 = .ok (.aload_n 0, 1) := by decide +kernel
theorem dX9_box_29 : decode cX9_box 29 = .ok (.getfield 28, 3) := by decide +kernel
theorem dX9_box_32 : decode cX9_box 32 = .ok (.aload_n 0, 1) := by decide +kernel
theorem dX9_box_33 : decode cX9_box 33 = .ok (.getfield 35, 3) := by decide +kernel
theorem dX9_box_36 : decode cX9_box 36 = .ok (.getfield 135, 3) := by decide +kernel
theorem dX9_box_39 : decode cX9_box 39 = .ok (.iload_n 1, 1) := by decide +kernel
theorem dX9_box_40 : decode cX9_box 40 = .ok (.invokevirtual 138, 3) := by decide +kernel
theorem dX9_box_43 : decode cX9_box 43 = .ok (.aload_n 0, 1) := by decide +kernel
theorem dX9_box_44 : decode cX9_box 44 = .ok (.getfield 42, 3) := by decide +kernel
theorem dX9_box_47 : decode cX9_box 47 = .ok (.iload_n 2, 1) := by decide +kernel
theorem dX9_box_48 : decode cX9_box 48 = .ok (.iconst 2, 1) := by decide +kernel
theorem dX9_box_49 : decode cX9_box 49 = .ok (.if_icmp .lt 7, 3) := by decide +kernel
theorem dX9_box_52 : decode cX9_box 52 = .ok (.iconst 1, 1) := by decide +kernel
theorem dX9_box_53 : decode cX9_box 53 = .ok (.goto 4, 3) := by decide +kernel
theorem dX9_box_56 : decode cX9_box 56 = .ok (.iconst 0, 1) := by decide +kernel
theorem dX9_box_57 : decode cX9_box 57 = .ok (.iload_n 2, 1) := by decide +kernel
theorem dX9_box_58 : decode cX9_box 58 = .ok (.iconst 2, 1) := by decide +kernel
theorem dX9_box_59 : decode cX9_box 59 = .ok (.irem, 1) := by decide +kernel
theorem dX9_box_60 : decode cX9_box 60 = .ok (.iconst 1, 1) := by decide +kernel
theorem dX9_box_61 : decode cX9_box 61 = .ok (.if_icmp .ne 7, 3) := by decide +kernel
theorem dX9_box_64 : decode cX9_box 64 = .ok (.iconst 1, 1) := by decide +kernel
theorem dX9_box_65 : decode cX9_box 65 = .ok (.goto 4, 3) := by decide +kernel
theorem dX9_box_68 : decode cX9_box 68 = .ok (.iconst 0, 1) := by decide +kernel
theorem dX9_box_69 : decode cX9_box 69 = .ok (.invokevirtual 176, 3) := by decide +kernel
theorem dX9_box_72 : decode cX9_box 72 = .ok (.ireturn, 1) := by decide +kernel
theorem dX9_minutes_0 : decode cX9_minutes 0 = .ok (.iload_n 1, 1) := by decide +kernel
theorem dX9_minutes_1 : decode cX9_minutes 1 = .ok (.bipush 16, 2) := by decide +kernel
theorem dX9_minutes_3 : decode cX9_minutes 3 = .ok (.invokestatic 74, 3) := by decide +kernel
theorem dX9_minutes_6 : decode cX9_minutes 6 = .ok (.ifCond .eq 20, 3) := by decide +kernel
theorem dX9_minutes_9 : decode cX9_minutes 9 = .ok (.iload_n 2, 1) := by decide +kernel
theorem dX9_minutes_10 : decode cX9_minutes 10 = .ok (.iload_n 3, 1) := by decide +kernel
theorem dX9_minutes_11 : decode cX9_minutes 11 = .ok (.invokestatic 180, 3) := by decide +kernel
theorem dX9_minutes_14 : decode cX9_minutes 14 = .ok (.ifCond .eq 12, 3) := by decide +kernel
theorem dX9_minutes_17 : decode cX9_minutes 17 = .ok (.iload 4, 2) := by decide +kernel
theorem dX9_minutes_19 : decode cX9_minutes 19 = .ok (.iconst 3, 1) := by decide +kernel
theorem dX9_minutes_20 : decode cX9_minutes 20 = .ok (.invokestatic 74, 3) := by decide +kernel
theorem dX9_minutes_23 : decode cX9_minutes 23 = .ok (.ifCond .ne 5, 3) := by decide +kernel
theorem dX9_minutes_26 : decode cX9_minutes 26 = .ok (.iconst (-1), 1) := by decide +kernel
theorem dX9_minutes_27 : decode cX9_minutes 27 = .ok (.ireturn, 1) := by decide +kernel
theorem dX9_minutes_28 : decode cX9_minutes 28 = .ok (.iconst 0, 1) := by decide +kernel
theorem dX9_minutes_29 : decode cX9_minutes 29 = .ok (.istore 5, 2) := by decide +kernel
theorem dX9_minutes_31 : decode cX9_minutes 31 = .ok (.iload_n 2, 1) := by decide +kernel
theorem dX9_minutes_32 : decode cX9_minutes 32 = .ok (.istore 6, 2) := by decide +kernel
theorem dX9_minutes_34 : decode cX9_minutes 34 = .ok (.iload_n 2, 1) := by decide +kernel
theorem dX9_minutes_35 : decode cX9_minutes 35 = .ok (.istore 7, 2) := by decide +kernel
theorem dX9_minutes_37 : decode cX9_minutes 37 = .ok (.iload 7, 2) := by decide +kernel
theorem dX9_minutes_39 : decode cX9_minutes 39 = .ok (.iload_n 3, 1) := by decide +kernel
theorem dX9_minutes_40 : decode cX9_minutes 40 = .ok (.if_icmp .gt 51, 3) := by decide +kernel
theorem dX9_minutes_43 : decode cX9_minutes 43 = .ok (.aload_n 0, 1) := by decide +kernel
theorem dX9_minutes_44 : decode cX9_minutes 44 = .ok (.iload_n 1, 1) := by decide +kernel
theorem dX9_minutes_45 : decode cX9_minutes 45 = .ok (.iload 7, 2) := by decide +kernel
theorem dX9_minutes_47 : decode cX9_minutes 47 = .ok (.iload_n 3, 1) := by decide +kernel
theorem dX9_minutes_48 : decode cX9_minutes 48 = .ok (.iconst 1, 1) := by decide +kernel
theorem dX9_minutes_49 : decode cX9_minutes 49 = .ok (.iadd, 1) := by decide +kernel
theorem dX9_minutes_50 : decode cX9_minutes 50 = .ok (.invokevirtual 183, 3) := by decide +kernel
theorem dX9_minutes_53 : decode cX9_minutes 53 = .ok (.istore 6, 2) := by decide +kernel
theorem dX9_minutes_55 : decode cX9_minutes 55 = .ok (.aload_n 0, 1) := by decide +kernel
theorem dX9_minutes_56 : decode cX9_minutes 56 = .ok (.iload_n 1, 1) := by decide +kernel
theorem dX9_minutes_57 : decode cX9_minutes 57 = .ok (.iload 7, 2) := by decide +kernel
theorem dX9_minutes_59 : decode cX9_minutes 59 = .ok (.invokevirtual 187, 3) := by decide +kernel
theorem dX9_minutes_62 : decode cX9_minutes 62 = .ok (.iload 4, 2) := by decide +kernel
theorem dX9_minutes_64 : decode cX9_minutes 64 = .ok (.if_icmp .ne 13, 3) := by decide +kernel
theorem dX9_minutes_67 : decode cX9_minutes 67 = .ok (.iload 5, 2) := by decide +kernel
theorem dX9_minutes_69 : decode cX9_minutes 69 = .ok (.iload 6, 2) := by decide +kernel
theorem dX9_minutes_71 : decode cX9_minutes 71 = .ok (.iload 7, 2) := by decide +kernel
theorem dX9_minutes_73 : decode cX9_minutes 73 = .ok (.isub, 1) := by decide +kernel
theorem dX9_minutes_74 : decode cX9_minutes 74 = .ok (.iadd, 1) := by decide +kernel
theorem dX9_minutes_75 : decode cX9_minutes 75 = .ok (.istore 5, 2) := by decide +kernel
theorem dX9_minutes_77 : decode cX9_minutes 77 = .ok (.iload 7, 2) := by decide +kernel
theorem dX9_minutes_79 : decode cX9_minutes 79 = .ok (.iconst 1, 1) := by decide +kernel
theorem dX9_minutes_80 : decode cX9_minutes 80 = .ok (.iadd, 1) := by decide +kernel
theorem dX9_minutes_81 : decode cX9_minutes 81 = .ok (.iload 6, 2) := by decide +kernel
theorem dX9_minutes_83 : decode cX9_minutes 83 = .ok (.invokestatic 190, 3) := by decide +kernel
theorem dX9_minutes_86 : decode cX9_minutes 86 = .ok (.istore 7, 2) := by decide +kernel
theorem dX9_minutes_88 : decode cX9_minutes 88 = .ok (.goto (-51), 3) := by decide +kernel
theorem dX9_minutes_91 : decode cX9_minutes 91 = .ok (.iload 5, 2) := by decide +kernel
theorem dX9_minutes_93 : decode cX9_minutes 93 = .ok (.ireturn, 1) := by decide +kernel
theorem dX9_blind_0 : decode cX9_blind 0 = .ok (.iload_n 1, 1) := by decide +kernel
theorem dX9_blind_1 : decode cX9_blind 1 = .ok (.bipush 16, 2) := by decide +kernel
theorem dX9_blind_3 : decode cX9_blind 3 = .ok (.invokestatic 74, 3) := by decide +kernel
theorem dX9_blind_6 : decode cX9_blind 6 = .ok (.ifCond .eq 11, 3) := by decide +kernel
theorem dX9_blind_9 : decode cX9_blind 9 = .ok (.iload_n 2, 1) := by decide +kernel
theorem dX9_blind_10 : decode cX9_blind 10 = .ok (.iload_n 3, 1) := by decide +kernel
theorem dX9_blind_11 : decode cX9_blind 11 = .ok (.invokestatic 180, 3) := by decide +kernel
theorem dX9_blind_14 : decode cX9_blind 14 = .ok (.ifCond .ne 5, 3) := by decide +kernel
theorem dX9_blind_17 : decode cX9_blind 17 = .ok (.iconst (-1), 1) := by decide +kernel
theorem dX9_blind_18 : decode cX9_blind 18 = .ok (.ireturn, 1) := by decide +kernel
theorem dX9_blind_19 : decode cX9_blind 19 = .ok (.iconst 0, 1) := by decide +kernel
theorem dX9_blind_20 : decode cX9_blind 20 = .ok (.istore 4, 2) := by decide +kernel
theorem dX9_blind_22 : decode cX9_blind 22 = .ok (.iload_n 2, 1) := by decide +kernel
theorem dX9_blind_23 : decode cX9_blind 23 = .ok (.istore 5, 2) := by decide +kernel
theorem dX9_blind_25 : decode cX9_blind 25 = .ok (.iload_n 2, 1) := by decide +kernel
theorem dX9_blind_26 : decode cX9_blind 26 = .ok (.istore 6, 2) := by decide +kernel
theorem dX9_blind_28 : decode cX9_blind 28 = .ok (.iload 6, 2) := by decide +kernel
theorem dX9_blind_30 : decode cX9_blind 30 = .ok (.iload_n 3, 1) := by decide +kernel
theorem dX9_blind_31 : decode cX9_blind 31 = .ok (.if_icmp .gt 52, 3) := by decide +kernel
theorem dX9_blind_34 : decode cX9_blind 34 = .ok (.aload_n 0, 1) := by decide +kernel
theorem dX9_blind_35 : decode cX9_blind 35 = .ok (.iload_n 1, 1) := by decide +kernel
theorem dX9_blind_36 : decode cX9_blind 36 = .ok (.iload 6, 2) := by decide +kernel
theorem dX9_blind_38 : decode cX9_blind 38 = .ok (.iload_n 3, 1) := by decide +kernel
theorem dX9_blind_39 : decode cX9_blind 39 = .ok (.iconst 1, 1) := by decide +kernel
theorem dX9_blind_40 : decode cX9_blind 40 = .ok (.iadd, 1) := by decide +kernel
theorem dX9_blind_41 : decode cX9_blind 41 = .ok (.invokevirtual 183, 3) := by decide +kernel
theorem dX9_blind_44 : decode cX9_blind 44 = .ok (.istore 5, 2) := by decide +kernel
theorem dX9_blind_46 : decode cX9_blind 46 = .ok (.aload_n 0, 1) := by decide +kernel
theorem dX9_blind_47 : decode cX9_blind 47 = .ok (.iload_n 1, 1) := by decide +kernel
theorem dX9_blind_48 : decode cX9_blind 48 = .ok (.iload 6, 2) := by decide +kernel
theorem dX9_blind_50 : decode cX9_blind 50 = .ok (.invokevirtual 187, 3) := by decide +kernel
theorem dX9_blind_53 : decode cX9_blind 53 = .ok (.iconst 2, 1) := by decide +kernel
theorem dX9_blind_54 : decode cX9_blind 54 = .ok (.if_icmp .ne 15, 3) := by decide +kernel
theorem dX9_blind_57 : decode cX9_blind 57 = .ok (.iload 4, 2) := by decide +kernel
theorem dX9_blind_59 : decode cX9_blind 59 = .ok (.iload 5, 2) := by decide +kernel
theorem dX9_blind_61 : decode cX9_blind 61 = .ok (.iload 6, 2) := by decide +kernel
theorem dX9_blind_63 : decode cX9_blind 63 = .ok (.isub, 1) := by decide +kernel
theorem dX9_blind_64 : decode cX9_blind 64 = .ok (.invokestatic 190, 3) := by decide +kernel
theorem dX9_blind_67 : decode cX9_blind 67 = .ok (.istore 4, 2) := by decide +kernel
theorem dX9_blind_69 : decode cX9_blind 69 = .ok (.iload 6, 2) := by decide +kernel
theorem dX9_blind_71 : decode cX9_blind 71 = .ok (.iconst 1, 1) := by decide +kernel
theorem dX9_blind_72 : decode cX9_blind 72 = .ok (.iadd, 1) := by decide +kernel
theorem dX9_blind_73 : decode cX9_blind 73 = .ok (.iload 5, 2) := by decide +kernel
theorem dX9_blind_75 : decode cX9_blind 75 = .ok (.invokestatic 190, 3) := by decide +kernel
theorem dX9_blind_78 : decode cX9_blind 78 = .ok (.istore 6, 2) := by decide +kernel
theorem dX9_blind_80 : decode cX9_blind 80 = .ok (.goto (-52), 3) := by decide +kernel
theorem dX9_blind_83 : decode cX9_blind 83 = .ok (.iload 4, 2) := by decide +kernel
theorem dX9_blind_85 : decode cX9_blind 85 = .ok (.ireturn, 1) := by decide +kernel
theorem dX9_feed_0 : decode cX9_feed 0 = .ok (.aload_n 0, 1) := by decide +kernel
theorem dX9_feed_1 : decode cX9_feed 1 = .ok (.getfield 49, 3) := by decide +kernel
theorem dX9_feed_4 : decode cX9_feed 4 = .ok (.getfield 195, 3) := by decide +kernel
theorem dX9_feed_7 : decode cX9_feed 7 = .ok (.bipush 20, 2) := by decide +kernel
theorem dX9_feed_9 : decode cX9_feed 9 = .ok (.iadd, 1) := by decide +kernel
theorem dX9_feed_10 : decode cX9_feed 10 = .ok (.bipush 100, 2) := by decide +kernel
theorem dX9_feed_12 : decode cX9_feed 12 = .ok (.if_icmp .le 5, 3) := by decide +kernel
theorem dX9_feed_15 : decode cX9_feed 15 = .ok (.iconst (-1), 1) := by decide +kernel
theorem dX9_feed_16 : decode cX9_feed 16 = .ok (.ireturn, 1) := by decide +kernel
theorem dX9_feed_17 : decode cX9_feed 17 = .ok (.aload_n 0, 1) := by decide +kernel
theorem dX9_feed_18 : decode cX9_feed 18 = .ok (.getfield 49, 3) := by decide +kernel
theorem dX9_feed_21 : decode cX9_feed 21 = .ok (.iload_n 1, 1) := by decide +kernel
theorem dX9_feed_22 : decode cX9_feed 22 = .ok (.invokevirtual 198, 3) := by decide +kernel
theorem dX9_feed_25 : decode cX9_feed 25 = .ok (.aload_n 0, 1) := by decide +kernel
theorem dX9_feed_26 : decode cX9_feed 26 = .ok (.getfield 49, 3) := by decide +kernel
theorem dX9_feed_29 : decode cX9_feed 29 = .ok (.iload_n 2, 1) := by decide +kernel
theorem dX9_feed_30 : decode cX9_feed 30 = .ok (.invokevirtual 198, 3) := by decide +kernel
theorem dX9_feed_33 : decode cX9_feed 33 = .ok (.aload_n 0, 1) := by decide +kernel
theorem dX9_feed_34 : decode cX9_feed 34 = .ok (.getfield 49, 3) := by decide +kernel
theorem dX9_feed_37 : decode cX9_feed 37 = .ok (.iload_n 3, 1) := by decide +kernel
theorem dX9_feed_38 : decode cX9_feed 38 = .ok (.invokevirtual 198, 3) := by decide +kernel
theorem dX9_feed_41 : decode cX9_feed 41 = .ok (.aload_n 0, 1) := by decide +kernel
theorem dX9_feed_42 : decode cX9_feed 42 = .ok (.getfield 49, 3) := by decide +kernel
theorem dX9_feed_45 : decode cX9_feed 45 = .ok (.iload 4, 2) := by decide +kernel
theorem dX9_feed_47 : decode cX9_feed 47 = .ok (.invokevirtual 198, 3) := by decide +kernel
theorem dX9_feed_50 : decode cX9_feed 50 = .ok (.aload_n 0, 1) := by decide +kernel
theorem dX9_feed_51 : decode cX9_feed 51 = .ok (.getfield 49, 3) := by decide +kernel
theorem dX9_feed_54 : decode cX9_feed 54 = .ok (.iload 5, 2) := by decide +kernel
theorem dX9_feed_56 : decode cX9_feed 56 = .ok (.invokevirtual 198, 3) := by decide +kernel
theorem dX9_feed_59 : decode cX9_feed 59 = .ok (.aload_n 0, 1) := by decide +kernel
theorem dX9_feed_60 : decode cX9_feed 60 = .ok (.getfield 49, 3) := by decide +kernel
theorem dX9_feed_63 : decode cX9_feed 63 = .ok (.getfield 195, 3) := by decide +kernel
theorem dX9_feed_66 : decode cX9_feed 66 = .ok (.ireturn, 1) := by decide +kernel
theorem dX9_end_0 : decode cX9_end 0 = .ok (.iload_n 1, 1) := by decide +kernel
theorem dX9_end_1 : decode cX9_end 1 = .ok (.ifCond .lt 14, 3) := by decide +kernel
theorem dX9_end_4 : decode cX9_end 4 = .ok (.iload_n 1, 1) := by decide +kernel
theorem dX9_end_5 : decode cX9_end 5 = .ok (.aload_n 0, 1) := by decide +kernel
theorem dX9_end_6 : decode cX9_end 6 = .ok (.getfield 49, 3) := by decide +kernel
theorem dX9_end_9 : decode cX9_end 9 = .ok (.getfield 195, 3) := by decide +kernel
theorem dX9_end_12 : decode cX9_end 12 = .ok (.if_icmp .le 5, 3) := by decide +kernel
theorem dX9_end_15 : decode cX9_end 15 = .ok (.iconst (-1), 1) := by decide +kernel
theorem dX9_end_16 : decode cX9_end 16 = .ok (.ireturn, 1) := by decide +kernel
theorem dX9_end_17 : decode cX9_end 17 = .ok (.aload_n 0, 1) := by decide +kernel
theorem dX9_end_18 : decode cX9_end 18 = .ok (.getfield 49, 3) := by decide +kernel
theorem dX9_end_21 : decode cX9_end 21 = .ok (.iload_n 1, 1) := by decide +kernel
theorem dX9_end_22 : decode cX9_end 22 = .ok (.putfield 195, 3) := by decide +kernel
theorem dX9_end_25 : decode cX9_end 25 = .ok (.iload_n 1, 1) := by decide +kernel
theorem dX9_end_26 : decode cX9_end 26 = .ok (.ireturn, 1) := by decide +kernel
theorem dX9_licence_0 : decode cX9_licence 0 = .ok (.aload_n 0, 1) := by decide +kernel
theorem dX9_licence_1 : decode cX9_licence 1 = .ok (.getfield 63, 3) := by decide +kernel
theorem dX9_licence_4 : decode cX9_licence 4 = .ok (.getfield 200, 3) := by decide +kernel
theorem dX9_licence_7 : decode cX9_licence 7 = .ok (.bipush 10, 2) := by decide +kernel
theorem dX9_licence_9 : decode cX9_licence 9 = .ok (.if_icmp .lt 5, 3) := by decide +kernel
theorem dX9_licence_12 : decode cX9_licence 12 = .ok (.iconst (-1), 1) := by decide +kernel
theorem dX9_licence_13 : decode cX9_licence 13 = .ok (.ireturn, 1) := by decide +kernel
theorem dX9_licence_14 : decode cX9_licence 14 = .ok (.aload_n 0, 1) := by decide +kernel
theorem dX9_licence_15 : decode cX9_licence 15 = .ok (.getfield 56, 3) := by decide +kernel
theorem dX9_licence_18 : decode cX9_licence 18 = .ok (.aload_n 0, 1) := by decide +kernel
theorem dX9_licence_19 : decode cX9_licence 19 = .ok (.getfield 49, 3) := by decide +kernel
theorem dX9_licence_22 : decode cX9_licence 22 = .ok (.invokevirtual 201, 3) := by decide +kernel
theorem dX9_licence_25 : decode cX9_licence 25 = .ok (.aload_n 0, 1) := by decide +kernel
theorem dX9_licence_26 : decode cX9_licence 26 = .ok (.getfield 49, 3) := by decide +kernel
theorem dX9_licence_29 : decode cX9_licence 29 = .ok (.iconst 0, 1) := by decide +kernel
theorem dX9_licence_30 : decode cX9_licence 30 = .ok (.putfield 195, 3) := by decide +kernel
theorem dX9_licence_33 : decode cX9_licence 33 = .ok (.aload_n 0, 1) := by decide +kernel
theorem dX9_licence_34 : decode cX9_licence 34 = .ok (.getfield 56, 3) := by decide +kernel
theorem dX9_licence_37 : decode cX9_licence 37 = .ok (.getfield 205, 3) := by decide +kernel
theorem dX9_licence_40 : decode cX9_licence 40 = .ok (.ifCond .ne 20, 3) := by decide +kernel
theorem dX9_licence_43 : decode cX9_licence 43 = .ok (.aload_n 0, 1) := by decide +kernel
theorem dX9_licence_44 : decode cX9_licence 44 = .ok (.getfield 63, 3) := by decide +kernel
theorem dX9_licence_47 : decode cX9_licence 47 = .ok (.aload_n 0, 1) := by decide +kernel
theorem dX9_licence_48 : decode cX9_licence 48 = .ok (.getfield 56, 3) := by decide +kernel
theorem dX9_licence_51 : decode cX9_licence 51 = .ok (.getfield 208, 3) := by decide +kernel
theorem dX9_licence_54 : decode cX9_licence 54 = .ok (.invokevirtual 211, 3) := by decide +kernel
theorem dX9_licence_57 : decode cX9_licence 57 = .ok (.goto 4, 3) := by decide +kernel
theorem dX9_licence_60 : decode cX9_licence 60 = .ok (.iconst (-1), 1) := by decide +kernel
theorem dX9_licence_61 : decode cX9_licence 61 = .ok (.ireturn, 1) := by decide +kernel
theorem dX9_fault_0 : decode cX9_fault 0 = .ok (.iload_n 1, 1) := by decide +kernel
theorem dX9_fault_1 : decode cX9_fault 1 = .ok (.lookupswitch 43 #[(0, 27), (1, 35)], 27) := by decide +kernel
theorem dX9_fault_28 : decode cX9_fault 28 = .ok (.aload_n 0, 1) := by decide +kernel
theorem dX9_fault_29 : decode cX9_fault 29 = .ok (.getfield 56, 3) := by decide +kernel
theorem dX9_fault_32 : decode cX9_fault 32 = .ok (.getfield 205, 3) := by decide +kernel
theorem dX9_fault_35 : decode cX9_fault 35 = .ok (.ireturn, 1) := by decide +kernel
theorem dX9_fault_36 : decode cX9_fault 36 = .ok (.aload_n 0, 1) := by decide +kernel
theorem dX9_fault_37 : decode cX9_fault 37 = .ok (.getfield 56, 3) := by decide +kernel
theorem dX9_fault_40 : decode cX9_fault 40 = .ok (.getfield 214, 3) := by decide +kernel
theorem dX9_fault_43 : decode cX9_fault 43 = .ok (.ireturn, 1) := by decide +kernel
theorem dX9_fault_44 : decode cX9_fault 44 = .ok (.iconst (-1), 1) := by decide +kernel
theorem dX9_fault_45 : decode cX9_fault 45 = .ok (.ireturn, 1) := by decide +kernel
theorem dX9_fits_0 : decode cX9_fits 0 = .ok (.iload_n 1, 1) := by decide +kernel
theorem dX9_fits_1 : decode cX9_fits 1 = .ok (.aload_n 0, 1) := by decide +kernel
theorem dX9_fits_2 : decode cX9_fits 2 = .ok (.getfield 35, 3) := by decide +kernel
theorem dX9_fits_5 : decode cX9_fits 5 = .ok (.getfield 134, 3) := by decide +kernel
theorem dX9_fits_8 : decode cX9_fits 8 = .ok (.invokestatic 74, 3) := by decide +kernel
theorem dX9_fits_11 : decode cX9_fits 11 = .ok (.ifCond .eq 17, 3) := by decide +kernel
theorem dX9_fits_14 : decode cX9_fits 14 = .ok (.iload_n 2, 1) := by decide +kernel
theorem dX9_fits_15 : decode cX9_fits 15 = .ok (.aload_n 0, 1) := by decide +kernel
theorem dX9_fits_16 : decode cX9_fits 16 = .ok (.getfield 63, 3) := by decide +kernel
theorem dX9_fits_19 : decode cX9_fits 19 = .ok (.getfield 200, 3) := by decide +kernel
theorem dX9_fits_22 : decode cX9_fits 22 = .ok (.invokestatic 74, 3) := by decide +kernel
theorem dX9_fits_25 : decode cX9_fits 25 = .ok (.ifCond .ne 5, 3) := by decide +kernel
theorem dX9_fits_28 : decode cX9_fits 28 = .ok (.iconst (-1), 1) := by decide +kernel
theorem dX9_fits_29 : decode cX9_fits 29 = .ok (.ireturn, 1) := by decide +kernel
theorem dX9_fits_30 : decode cX9_fits 30 = .ok (.aload_n 0, 1) := by decide +kernel
theorem dX9_fits_31 : decode cX9_fits 31 = .ok (.getfield 42, 3) := by decide +kernel
theorem dX9_fits_34 : decode cX9_fits 34 = .ok (.aload_n 0, 1) := by decide +kernel
theorem dX9_fits_35 : decode cX9_fits 35 = .ok (.getfield 28, 3) := by decide +kernel
theorem dX9_fits_38 : decode cX9_fits 38 = .ok (.aload_n 0, 1) := by decide +kernel
theorem dX9_fits_39 : decode cX9_fits 39 = .ok (.getfield 35, 3) := by decide +kernel
theorem dX9_fits_42 : decode cX9_fits 42 = .ok (.getfield 135, 3) := by decide +kernel
theorem dX9_fits_45 : decode cX9_fits 45 = .ok (.iload_n 1, 1) := by decide +kernel
theorem dX9_fits_46 : decode cX9_fits 46 = .ok (.invokevirtual 138, 3) := by decide +kernel
theorem dX9_fits_49 : decode cX9_fits 49 = .ok (.aload_n 0, 1) := by decide +kernel
theorem dX9_fits_50 : decode cX9_fits 50 = .ok (.getfield 63, 3) := by decide +kernel
theorem dX9_fits_53 : decode cX9_fits 53 = .ok (.iload_n 2, 1) := by decide +kernel
theorem dX9_fits_54 : decode cX9_fits 54 = .ok (.aload_n 0, 1) := by decide +kernel
theorem dX9_fits_55 : decode cX9_fits 55 = .ok (.getfield 42, 3) := by decide +kernel
theorem dX9_fits_58 : decode cX9_fits 58 = .ok (.aload_n 0, 1) := by decide +kernel
theorem dX9_fits_59 : decode cX9_fits 59 = .ok (.getfield 28, 3) := by decide +kernel
theorem dX9_fits_62 : decode cX9_fits 62 = .ok (.getfield 94, 3) := by decide +kernel
theorem dX9_fits_65 : decode cX9_fits 65 = .ok (.invokevirtual 217, 3) := by decide +kernel
theorem dX9_fits_68 : decode cX9_fits 68 = .ok (.ireturn, 1) := by decide +kernel
theorem dX9_best_0 : decode cX9_best 0 = .ok (.iload_n 1, 1) := by decide +kernel
theorem dX9_best_1 : decode cX9_best 1 = .ok (.aload_n 0, 1) := by decide +kernel
theorem dX9_best_2 : decode cX9_best 2 = .ok (.getfield 35, 3) := by decide +kernel
theorem dX9_best_5 : decode cX9_best 5 = .ok (.getfield 134, 3) := by decide +kernel
theorem dX9_best_8 : decode cX9_best 8 = .ok (.invokestatic 74, 3) := by decide +kernel
theorem dX9_best_11 : decode cX9_best 11 = .ok (.ifCond .eq 21, 3) := by decide +kernel
theorem dX9_best_14 : decode cX9_best 14 = .ok (.iload_n 2, 1) := by decide +kernel
theorem dX9_best_15 : decode cX9_best 15 = .ok (.iconst 2, 1) := by decide +kernel
theorem dX9_best_16 : decode cX9_best 16 = .ok (.invokestatic 74, 3) := by decide +kernel
theorem dX9_best_19 : decode cX9_best 19 = .ok (.ifCond .eq 13, 3) := by decide +kernel
theorem dX9_best_22 : decode cX9_best 22 = .ok (.aload_n 0, 1) := by decide +kernel
theorem dX9_best_23 : decode cX9_best 23 = .ok (.getfield 63, 3) := by decide +kernel
theorem dX9_best_26 : decode cX9_best 26 = .ok (.getfield 200, 3) := by decide +kernel
theorem dX9_best_29 : decode cX9_best 29 = .ok (.ifCond .ne 5, 3) := by decide +kernel
theorem dX9_best_32 : decode cX9_best 32 = .ok (.iconst (-1), 1) := by decide +kernel
theorem dX9_best_33 : decode cX9_best 33 = .ok (.ireturn, 1) := by decide +kernel
theorem dX9_best_34 : decode cX9_best 34 = .ok (.aload_n 0, 1) := by decide +kernel
theorem dX9_best_35 : decode cX9_best 35 = .ok (.getfield 42, 3) := by decide +kernel
theorem dX9_best_38 : decode cX9_best 38 = .ok (.aload_n 0, 1) := by decide +kernel
theorem dX9_best_39 : decode cX9_best 39 = .ok (.getfield 28, 3) := by decide +kernel
theorem dX9_best_42 : decode cX9_best 42 = .ok (.aload_n 0, 1) := by decide +kernel
theorem dX9_best_43 : decode cX9_best 43 = .ok (.getfield 35, 3) := by decide +kernel
theorem dX9_best_46 : decode cX9_best 46 = .ok (.getfield 135, 3) := by decide +kernel
theorem dX9_best_49 : decode cX9_best 49 = .ok (.iload_n 1, 1) := by decide +kernel
theorem dX9_best_50 : decode cX9_best 50 = .ok (.invokevirtual 138, 3) := by decide +kernel
theorem dX9_best_53 : decode cX9_best 53 = .ok (.aload_n 0, 1) := by decide +kernel
theorem dX9_best_54 : decode cX9_best 54 = .ok (.getfield 63, 3) := by decide +kernel
theorem dX9_best_57 : decode cX9_best 57 = .ok (.aload_n 0, 1) := by decide +kernel
theorem dX9_best_58 : decode cX9_best 58 = .ok (.getfield 42, 3) := by decide +kernel
theorem dX9_best_61 : decode cX9_best 61 = .ok (.aload_n 0, 1) := by decide +kernel
theorem dX9_best_62 : decode cX9_best 62 = .ok (.getfield 28, 3) := by decide +kernel
theorem dX9_best_65 : decode cX9_best 65 = .ok (.getfield 94, 3) := by decide +kernel
theorem dX9_best_68 : decode cX9_best 68 = .ok (.invokevirtual 221, 3) := by decide +kernel
theorem dX9_best_71 : decode cX9_best 71 = .ok (.istore_n 3, 1) := by decide +kernel
theorem dX9_best_72 : decode cX9_best 72 = .ok (.iload_n 2, 1) := by decide +kernel
theorem dX9_best_73 : decode cX9_best 73 = .ok (.ifCond .ne 7, 3) := by decide +kernel
theorem dX9_best_76 : decode cX9_best 76 = .ok (.iload_n 3, 1) := by decide +kernel
theorem dX9_best_77 : decode cX9_best 77 = .ok (.goto 22, 3) := by decide +kernel
theorem dX9_best_80 : decode cX9_best 80 = .ok (.aload_n 0, 1) := by decide +kernel
theorem dX9_best_81 : decode cX9_best 81 = .ok (.getfield 63, 3) := by decide +kernel
theorem dX9_best_84 : decode cX9_best 84 = .ok (.iload_n 3, 1) := by decide +kernel
theorem dX9_best_85 : decode cX9_best 85 = .ok (.aload_n 0, 1) := by decide +kernel
theorem dX9_best_86 : decode cX9_best 86 = .ok (.getfield 42, 3) := by decide +kernel
theorem dX9_best_89 : decode cX9_best 89 = .ok (.aload_n 0, 1) := by decide +kernel
theorem dX9_best_90 : decode cX9_best 90 = .ok (.getfield 28, 3) := by decide +kernel
theorem dX9_best_93 : decode cX9_best 93 = .ok (.getfield 94, 3) := by decide +kernel
theorem dX9_best_96 : decode cX9_best 96 = .ok (.invokevirtual 217, 3) := by decide +kernel
theorem dX9_best_99 : decode cX9_best 99 = .ok (.ireturn, 1) := by decide +kernel
theorem dX9_wanderers_0 : decode cX9_wanderers 0 = .ok (.iconst 0, 1) := by decide +kernel
theorem dX9_wanderers_1 : decode cX9_wanderers 1 = .ok (.istore_n 1, 1) := by decide +kernel
theorem dX9_wanderers_2 : decode cX9_wanderers 2 = .ok (.iconst 0, 1) := by decide +kernel
theorem dX9_wanderers_3 : decode cX9_wanderers 3 = .ok (.istore_n 2, 1) := by decide +kernel
theorem dX9_wanderers_4 : decode cX9_wanderers 4 = .ok (.iload_n 2, 1) := by decide +kernel
theorem dX9_wanderers_5 : decode cX9_wanderers 5 = .ok (.aload_n 0, 1) := by decide +kernel
theorem dX9_wanderers_6 : decode cX9_wanderers 6 = .ok (.getfield 35, 3) := by decide +kernel
theorem dX9_wanderers_9 : decode cX9_wanderers 9 = .ok (.getfield 134, 3) := by decide +kernel
theorem dX9_wanderers_12 : decode cX9_wanderers 12 = .ok (.if_icmp .ge 77, 3) := by decide +kernel
theorem dX9_wanderers_15 : decode cX9_wanderers 15 = .ok (.aload_n 0, 1) := by decide +kernel
theorem dX9_wanderers_16 : decode cX9_wanderers 16 = .ok (.getfield 42, 3) := by decide +kernel
theorem dX9_wanderers_19 : decode cX9_wanderers 19 = .ok (.aload_n 0, 1) := by decide +kernel
theorem dX9_wanderers_20 : decode cX9_wanderers 20 = .ok (.getfield 28, 3) := by decide +kernel
theorem dX9_wanderers_23 : decode cX9_wanderers 23 = .ok (.aload_n 0, 1) := by decide +kernel
theorem dX9_wanderers_24 : decode cX9_wanderers 24 = .ok (.getfield 35, 3) := by decide +kernel
theorem dX9_wanderers_27 : decode cX9_wanderers 27 = .ok (.getfield 135, 3) := by decide +kernel
theorem dX9_wanderers_30 : decode cX9_wanderers 30 = .ok (.iload_n 2, 1) := by decide +kernel
theorem dX9_wanderers_31 : decode cX9_wanderers 31 = .ok (.invokevirtual 138, 3) := by decide +kernel
theorem dX9_wanderers_34 : decode cX9_wanderers 34 = .ok (.aload_n 0, 1) := by decide +kernel
theorem dX9_wanderers_35 : decode cX9_wanderers 35 = .ok (.getfield 63, 3) := by decide +kernel
theorem dX9_wanderers_38 : decode cX9_wanderers 38 = .ok (.aload_n 0, 1) := by decide +kernel
theorem dX9_wanderers_39 : decode cX9_wanderers 39 = .ok (.getfield 42, 3) := by decide +kernel
theorem dX9_wanderers_42 : decode cX9_wanderers 42 = .ok (.aload_n 0, 1) := by decide +kernel
theorem dX9_wanderers_43 : decode cX9_wanderers 43 = .ok (.getfield 28, 3) := by decide +kernel
theorem dX9_wanderers_46 : decode cX9_wanderers 46 = .ok (.getfield 94, 3) := by decide +kernel
theorem dX9_wanderers_49 : decode cX9_wanderers 49 = .ok (.invokevirtual 221, 3) := by decide +kernel
theorem dX9_wanderers_52 : decode cX9_wanderers 52 = .ok (.istore_n 3, 1) := by decide +kernel
theorem dX9_wanderers_53 : decode cX9_wanderers 53 = .ok (.iload_n 3, 1) := by decide +kernel
theorem dX9_wanderers_54 : decode cX9_wanderers 54 = .ok (.iconst (-1), 1) := by decide +kernel
theorem dX9_wanderers_55 : decode cX9_wanderers 55 = .ok (.if_icmp .eq 25, 3) := by decide +kernel
theorem dX9_wanderers_58 : decode cX9_wanderers 58 = .ok (.aload_n 0, 1) := by decide +kernel
theorem dX9_wanderers_59 : decode cX9_wanderers 59 = .ok (.getfield 63, 3) := by decide +kernel
theorem dX9_wanderers_62 : decode cX9_wanderers 62 = .ok (.iload_n 3, 1) := by decide +kernel
theorem dX9_wanderers_63 : decode cX9_wanderers 63 = .ok (.aload_n 0, 1) := by decide +kernel
theorem dX9_wanderers_64 : decode cX9_wanderers 64 = .ok (.getfield 42, 3) := by decide +kernel
theorem dX9_wanderers_67 : decode cX9_wanderers 67 = .ok (.aload_n 0, 1) := by decide +kernel
theorem dX9_wanderers_68 : decode cX9_wanderers 68 = .ok (.getfield 28, 3) := by decide +kernel
theorem dX9_wanderers_71 : decode cX9_wanderers 71 = .ok (.getfield 94, 3) := by decide +kernel
theorem dX9_wanderers_74 : decode cX9_wanderers 74 = .ok (.invokevirtual 217, 3) := by decide +kernel
theorem dX9_wanderers_77 : decode cX9_wanderers 77 = .ok (.ifCond .eq 6, 3) := by decide +kernel
theorem dX9_wanderers_80 : decode cX9_wanderers 80 = .ok (.iinc 1 1, 3) := by decide +kernel
theorem dX9_wanderers_83 : decode cX9_wanderers 83 = .ok (.iinc 2 1, 3) := by decide +kernel
theorem dX9_wanderers_86 : decode cX9_wanderers 86 = .ok (.goto (-82), 3) := by decide +kernel
theorem dX9_wanderers_89 : decode cX9_wanderers 89 = .ok (.iload_n 1, 1) := by decide +kernel
theorem dX9_wanderers_90 : decode cX9_wanderers 90 = .ok (.ireturn, 1) := by decide +kernel
theorem dX9_sweep_0 : decode cX9_sweep 0 = .ok (.iload_n 1, 1) := by decide +kernel
theorem dX9_sweep_1 : decode cX9_sweep 1 = .ok (.ifCond .le 55, 3) := by decide +kernel
theorem dX9_sweep_4 : decode cX9_sweep 4 = .ok (.iload_n 1, 1) := by decide +kernel
theorem dX9_sweep_5 : decode cX9_sweep 5 = .ok (.ldc 225, 2) := by decide +kernel
theorem dX9_sweep_7 : decode cX9_sweep 7 = .ok (.if_icmp .ge 49, 3) := by decide +kernel
theorem dX9_sweep_10 : decode cX9_sweep 10 = .ok (.iload_n 2, 1) := by decide +kernel
theorem dX9_sweep_11 : decode cX9_sweep 11 = .ok (.sipush 10000, 3) := by decide +kernel
theorem dX9_sweep_14 : decode cX9_sweep 14 = .ok (.invokestatic 74, 3) := by decide +kernel
theorem dX9_sweep_17 : decode cX9_sweep 17 = .ok (.ifCond .eq 39, 3) := by decide +kernel
theorem dX9_sweep_20 : decode cX9_sweep 20 = .ok (.iload_n 3, 1) := by decide +kernel
theorem dX9_sweep_21 : decode cX9_sweep 21 = .ok (.iconst 1, 1) := by decide +kernel
theorem dX9_sweep_22 : decode cX9_sweep 22 = .ok (.if_icmp .lt 34, 3) := by decide +kernel
theorem dX9_sweep_25 : decode cX9_sweep 25 = .ok (.iload_n 3, 1) := by decide +kernel
theorem dX9_sweep_26 : decode cX9_sweep 26 = .ok (.iconst 4, 1) := by decide +kernel
theorem dX9_sweep_27 : decode cX9_sweep 27 = .ok (.if_icmp .gt 29, 3) := by decide +kernel
theorem dX9_sweep_30 : decode cX9_sweep 30 = .ok (.iload 4, 2) := by decide +kernel
theorem dX9_sweep_32 : decode cX9_sweep 32 = .ok (.iconst 1, 1) := by decide +kernel
theorem dX9_sweep_33 : decode cX9_sweep 33 = .ok (.if_icmp .lt 23, 3) := by decide +kernel
theorem dX9_sweep_36 : decode cX9_sweep 36 = .ok (.iload 4, 2) := by decide +kernel
theorem dX9_sweep_38 : decode cX9_sweep 38 = .ok (.sipush 240, 3) := by decide +kernel
theorem dX9_sweep_41 : decode cX9_sweep 41 = .ok (.if_icmp .gt 15, 3) := by decide +kernel
theorem dX9_sweep_44 : decode cX9_sweep 44 = .ok (.iload_n 2, 1) := by decide +kernel
theorem dX9_sweep_45 : decode cX9_sweep 45 = .ok (.iload_n 3, 1) := by decide +kernel
theorem dX9_sweep_46 : decode cX9_sweep 46 = .ok (.iload 4, 2) := by decide +kernel
theorem dX9_sweep_48 : decode cX9_sweep 48 = .ok (.imul, 1) := by decide +kernel
theorem dX9_sweep_49 : decode cX9_sweep 49 = .ok (.iadd, 1) := by decide +kernel
theorem dX9_sweep_50 : decode cX9_sweep 50 = .ok (.sipush 10000, 3) := by decide +kernel
theorem dX9_sweep_53 : decode cX9_sweep 53 = .ok (.if_icmp .le 5, 3) := by decide +kernel
theorem dX9_sweep_56 : decode cX9_sweep 56 = .ok (.iconst (-1), 1) := by decide +kernel
theorem dX9_sweep_57 : decode cX9_sweep 57 = .ok (.ireturn, 1) := by decide +kernel
theorem dX9_sweep_58 : decode cX9_sweep 58 = .ok (.aload_n 0, 1) := by decide +kernel
theorem dX9_sweep_59 : decode cX9_sweep 59 = .ok (.getfield 70, 3) := by decide +kernel
theorem dX9_sweep_62 : decode cX9_sweep 62 = .ok (.iload_n 2, 1) := by decide +kernel
theorem dX9_sweep_63 : decode cX9_sweep 63 = .ok (.iload_n 3, 1) := by decide +kernel
theorem dX9_sweep_64 : decode cX9_sweep 64 = .ok (.iload 4, 2) := by decide +kernel
theorem dX9_sweep_66 : decode cX9_sweep 66 = .ok (.invokevirtual 226, 3) := by decide +kernel
theorem dX9_sweep_69 : decode cX9_sweep 69 = .ok (.aload_n 0, 1) := by decide +kernel
theorem dX9_sweep_70 : decode cX9_sweep 70 = .ok (.getfield 70, 3) := by decide +kernel
theorem dX9_sweep_73 : decode cX9_sweep 73 = .ok (.aload_n 0, 1) := by decide +kernel
theorem dX9_sweep_74 : decode cX9_sweep 74 = .ok (.getfield 21, 3) := by decide +kernel
theorem dX9_sweep_77 : decode cX9_sweep 77 = .ok (.iload_n 1, 1) := by decide +kernel
theorem dX9_sweep_78 : decode cX9_sweep 78 = .ok (.invokevirtual 230, 3) := by decide +kernel
theorem dX9_sweep_81 : decode cX9_sweep 81 = .ok (.aload_n 0, 1) := by decide +kernel
theorem dX9_sweep_82 : decode cX9_sweep 82 = .ok (.getfield 70, 3) := by decide +kernel
theorem dX9_sweep_85 : decode cX9_sweep 85 = .ok (.invokevirtual 234, 3) := by decide +kernel
theorem dX9_sweep_88 : decode cX9_sweep 88 = .ok (.ireturn, 1) := by decide +kernel
theorem dX9_slot_0 : decode cX9_slot 0 = .ok (.iload_n 1, 1) := by decide +kernel
theorem dX9_slot_1 : decode cX9_slot 1 = .ok (.aload_n 0, 1) := by decide +kernel
theorem dX9_slot_2 : decode cX9_slot 2 = .ok (.getfield 70, 3) := by decide +kernel
theorem dX9_slot_5 : decode cX9_slot 5 = .ok (.getfield 237, 3) := by decide +kernel
theorem dX9_slot_8 : decode cX9_slot 8 = .ok (.invokestatic 74, 3) := by decide +kernel
theorem dX9_slot_11 : decode cX9_slot 11 = .ok (.ifCond .eq 15, 3) := by decide +kernel
theorem dX9_slot_14 : decode cX9_slot 14 = .ok (.aload_n 0, 1) := by decide +kernel
theorem dX9_slot_15 : decode cX9_slot 15 = .ok (.getfield 70, 3) := by decide +kernel
theorem dX9_slot_18 : decode cX9_slot 18 = .ok (.getfield 240, 3) := by decide +kernel
theorem dX9_slot_21 : decode cX9_slot 21 = .ok (.iload_n 1, 1) := by decide +kernel
theorem dX9_slot_22 : decode cX9_slot 22 = .ok (.iaload, 1) := by decide +kernel
theorem dX9_slot_23 : decode cX9_slot 23 = .ok (.goto 4, 3) := by decide +kernel
theorem dX9_slot_26 : decode cX9_slot 26 = .ok (.iconst (-1), 1) := by decide +kernel
theorem dX9_slot_27 : decode cX9_slot 27 = .ok (.ireturn, 1) := by decide +kernel
theorem dX9_about_0 : decode cX9_about 0 = .ok (.iload_n 1, 1) := by decide +kernel
theorem dX9_about_1 : decode cX9_about 1 = .ok (.tableswitch 114 0 7 #[47, 55, 63, 74, 82, 90, 98, 106], 47) := by decide +kernel
theorem dX9_about_48 : decode cX9_about 48 = .ok (.aload_n 0, 1) := by decide +kernel
theorem dX9_about_49 : decode cX9_about 49 = .ok (.getfield 10, 3) := by decide +kernel
theorem dX9_about_52 : decode cX9_about 52 = .ok (.getfield 78, 3) := by decide +kernel
theorem dX9_about_55 : decode cX9_about 55 = .ok (.ireturn, 1) := by decide +kernel
theorem dX9_about_56 : decode cX9_about 56 = .ok (.aload_n 0, 1) := by decide +kernel
theorem dX9_about_57 : decode cX9_about 57 = .ok (.getfield 21, 3) := by decide +kernel
theorem dX9_about_60 : decode cX9_about 60 = .ok (.getfield 90, 3) := by decide +kernel
theorem dX9_about_63 : decode cX9_about 63 = .ok (.ireturn, 1) := by decide +kernel
theorem dX9_about_64 : decode cX9_about 64 = .ok (.aload_n 0, 1) := by decide +kernel
theorem dX9_about_65 : decode cX9_about 65 = .ok (.getfield 28, 3) := by decide +kernel
theorem dX9_about_68 : decode cX9_about 68 = .ok (.getfield 94, 3) := by decide +kernel
theorem dX9_about_71 : decode cX9_about 71 = .ok (.getfield 90, 3) := by decide +kernel
theorem dX9_about_74 : decode cX9_about 74 = .ok (.ireturn, 1) := by decide +kernel
theorem dX9_about_75 : decode cX9_about 75 = .ok (.aload_n 0, 1) := by decide +kernel
theorem dX9_about_76 : decode cX9_about 76 = .ok (.getfield 63, 3) := by decide +kernel
theorem dX9_about_79 : decode cX9_about 79 = .ok (.getfield 200, 3) := by decide +kernel
theorem dX9_about_82 : decode cX9_about 82 = .ok (.ireturn, 1) := by decide +kernel
theorem dX9_about_83 : decode cX9_about 83 = .ok (.aload_n 0, 1) := by decide +kernel
theorem dX9_about_84 : decode cX9_about 84 = .ok (.getfield 35, 3) := by decide +kernel
theorem dX9_about_87 : decode cX9_about 87 = .ok (.getfield 128, 3) := by decide +kernel
theorem dX9_about_90 : decode cX9_about 90 = .ok (.ireturn, 1) := by decide +kernel
theorem dX9_about_91 : decode cX9_about 91 = .ok (.aload_n 0, 1) := by decide +kernel
theorem dX9_about_92 : decode cX9_about 92 = .ok (.getfield 35, 3) := by decide +kernel
theorem dX9_about_95 : decode cX9_about 95 = .ok (.getfield 131, 3) := by decide +kernel
theorem dX9_about_98 : decode cX9_about 98 = .ok (.ireturn, 1) := by decide +kernel
theorem dX9_about_99 : decode cX9_about 99 = .ok (.aload_n 0, 1) := by decide +kernel
theorem dX9_about_100 : decode cX9_about 100 = .ok (.getfield 49, 3) := by decide +kernel
theorem dX9_about_103 : decode cX9_about 103 = .ok (.getfield 195, 3) := by decide +kernel
theorem dX9_about_106 : decode cX9_about 106 = .ok (.ireturn, 1) := by decide +kernel
theorem dX9_about_107 : decode cX9_about 107 = .ok (.aload_n 0, 1) := by decide +kernel
theorem dX9_about_108 : decode cX9_about 108 = .ok (.getfield 28, 3) := by decide +kernel
theorem dX9_about_111 : decode cX9_about 111 = .ok (.getfield 243, 3) := by decide +kernel
theorem dX9_about_114 : decode cX9_about 114 = .ok (.ireturn, 1) := by decide +kernel
theorem dX9_about_115 : decode cX9_about 115 = .ok (.iconst (-1), 1) := by decide +kernel
theorem dX9_about_116 : decode cX9_about 116 = .ok (.ireturn, 1) := by decide +kernel
theorem dX9_isBelow_0 : decode cX9_isBelow 0 = .ok (.iload_n 0, 1) := by decide +kernel
theorem dX9_isBelow_1 : decode cX9_isBelow 1 = .ok (.ifCond .lt 12, 3) := by decide +kernel
theorem dX9_isBelow_4 : decode cX9_isBelow 4 = .ok (.iload_n 0, 1) := by decide +kernel
theorem dX9_isBelow_5 : decode cX9_isBelow 5 = .ok (.iload_n 1, 1) := by decide +kernel
theorem dX9_isBelow_6 : decode cX9_isBelow 6 = .ok (.if_icmp .ge 7, 3) := by decide +kernel
theorem dX9_isBelow_9 : decode cX9_isBelow 9 = .ok (.iconst 1, 1) := by decide +kernel
theorem dX9_isBelow_10 : decode cX9_isBelow 10 = .ok (.goto 4, 3) := by decide +kernel
theorem dX9_isBelow_13 : decode cX9_isBelow 13 = .ok (.iconst 0, 1) := by decide +kernel
theorem dX9_isBelow_14 : decode cX9_isBelow 14 = .ok (.ireturn, 1) := by decide +kernel
theorem dX9_isSide_0 : decode cX9_isSide 0 = .ok (.iload_n 0, 1) := by decide +kernel
theorem dX9_isSide_1 : decode cX9_isSide 1 = .ok (.bipush (-100), 2) := by decide +kernel
theorem dX9_isSide_3 : decode cX9_isSide 3 = .ok (.if_icmp .lt 13, 3) := by decide +kernel
theorem dX9_isSide_6 : decode cX9_isSide 6 = .ok (.iload_n 0, 1) := by decide +kernel
theorem dX9_isSide_7 : decode cX9_isSide 7 = .ok (.bipush 100, 2) := by decide +kernel
theorem dX9_isSide_9 : decode cX9_isSide 9 = .ok (.if_icmp .gt 7, 3) := by decide +kernel
theorem dX9_isSide_12 : decode cX9_isSide 12 = .ok (.iconst 1, 1) := by decide +kernel
theorem dX9_isSide_13 : decode cX9_isSide 13 = .ok (.goto 4, 3) := by decide +kernel
theorem dX9_isSide_16 : decode cX9_isSide 16 = .ok (.iconst 0, 1) := by decide +kernel
theorem dX9_isSide_17 : decode cX9_isSide 17 = .ok (.ireturn, 1) := by decide +kernel
theorem dX9_isStretch_0 : decode cX9_isStretch 0 = .ok (.iload_n 0, 1) := by decide +kernel
theorem dX9_isStretch_1 : decode cX9_isStretch 1 = .ok (.ifCond .lt 19, 3) := by decide +kernel
theorem dX9_isStretch_4 : decode cX9_isStretch 4 = .ok (.iload_n 0, 1) := by decide +kernel
theorem dX9_isStretch_5 : decode cX9_isStretch 5 = .ok (.iload_n 1, 1) := by decide +kernel
theorem dX9_isStretch_6 : decode cX9_isStretch 6 = .ok (.if_icmp .gt 14, 3) := by decide +kernel
theorem dX9_isStretch_9 : decode cX9_isStretch 9 = .ok (.iload_n 1, 1) := by decide +kernel
theorem dX9_isStretch_10 : decode cX9_isStretch 10 = .ok (.sipush 10000, 3) := by decide +kernel
theorem dX9_isStretch_13 : decode cX9_isStretch 13 = .ok (.if_icmp .ge 7, 3) := by decide +kernel
theorem dX9_isStretch_16 : decode cX9_isStretch 16 = .ok (.iconst 1, 1) := by decide +kernel
theorem dX9_isStretch_17 : decode cX9_isStretch 17 = .ok (.goto 4, 3) := by decide +kernel
theorem dX9_isStretch_20 : decode cX9_isStretch 20 = .ok (.iconst 0, 1) := by decide +kernel
theorem dX9_isStretch_21 : decode cX9_isStretch 21 = .ok (.ireturn, 1) := by decide +kernel
theorem dX9_isHearing_0 : decode cX9_isHearing 0 = .ok (.iload_n 1, 1) := by decide +kernel
theorem dX9_isHearing_1 : decode cX9_isHearing 1 = .ok (.aload_n 0, 1) := by decide +kernel
theorem dX9_isHearing_2 : decode cX9_isHearing 2 = .ok (.getfield 10, 3) := by decide +kernel
theorem dX9_isHearing_5 : decode cX9_isHearing 5 = .ok (.getfield 78, 3) := by decide +kernel
theorem dX9_isHearing_8 : decode cX9_isHearing 8 = .ok (.invokestatic 74, 3) := by decide +kernel
theorem dX9_isHearing_11 : decode cX9_isHearing 11 = .ok (.ifCond .eq 25, 3) := by decide +kernel
theorem dX9_isHearing_14 : decode cX9_isHearing 14 = .ok (.iload_n 2, 1) := by decide +kernel
theorem dX9_isHearing_15 : decode cX9_isHearing 15 = .ok (.bipush 16, 2) := by decide +kernel
theorem dX9_isHearing_17 : decode cX9_isHearing 17 = .ok (.invokestatic 74, 3) := by decide +kernel
theorem dX9_isHearing_20 : decode cX9_isHearing 20 = .ok (.ifCond .eq 16, 3) := by decide +kernel
theorem dX9_isHearing_23 : decode cX9_isHearing 23 = .ok (.iload_n 3, 1) := by decide +kernel
theorem dX9_isHearing_24 : decode cX9_isHearing 24 = .ok (.iload 4, 2) := by decide +kernel
theorem dX9_isHearing_26 : decode cX9_isHearing 26 = .ok (.invokestatic 180, 3) := by decide +kernel
theorem dX9_isHearing_29 : decode cX9_isHearing 29 = .ok (.ifCond .eq 7, 3) := by decide +kernel
theorem dX9_isHearing_32 : decode cX9_isHearing 32 = .ok (.iconst 1, 1) := by decide +kernel
theorem dX9_isHearing_33 : decode cX9_isHearing 33 = .ok (.goto 4, 3) := by decide +kernel
theorem dX9_isHearing_36 : decode cX9_isHearing 36 = .ok (.iconst 0, 1) := by decide +kernel
theorem dX9_isHearing_37 : decode cX9_isHearing 37 = .ok (.ireturn, 1) := by decide +kernel
theorem dX9_stateAt_0 : decode cX9_stateAt 0 = .ok (.aload_n 0, 1) := by decide +kernel
theorem dX9_stateAt_1 : decode cX9_stateAt 1 = .ok (.getfield 28, 3) := by decide +kernel
theorem dX9_stateAt_4 : decode cX9_stateAt 4 = .ok (.getfield 94, 3) := by decide +kernel
theorem dX9_stateAt_7 : decode cX9_stateAt 7 = .ok (.iload_n 1, 1) := by decide +kernel
theorem dX9_stateAt_8 : decode cX9_stateAt 8 = .ok (.iload_n 2, 1) := by decide +kernel
theorem dX9_stateAt_9 : decode cX9_stateAt 9 = .ok (.invokevirtual 246, 3) := by decide +kernel
theorem dX9_stateAt_12 : decode cX9_stateAt 12 = .ok (.ifCond .eq 5, 3) := by decide +kernel
theorem dX9_stateAt_15 : decode cX9_stateAt 15 = .ok (.iconst 0, 1) := by decide +kernel
theorem dX9_stateAt_16 : decode cX9_stateAt 16 = .ok (.ireturn, 1) := by decide +kernel
theorem dX9_stateAt_17 : decode cX9_stateAt 17 = .ok (.aload_n 0, 1) := by decide +kernel
theorem dX9_stateAt_18 : decode cX9_stateAt 18 = .ok (.getfield 21, 3) := by decide +kernel
theorem dX9_stateAt_21 : decode cX9_stateAt 21 = .ok (.iload_n 1, 1) := by decide +kernel
theorem dX9_stateAt_22 : decode cX9_stateAt 22 = .ok (.iload_n 2, 1) := by decide +kernel
theorem dX9_stateAt_23 : decode cX9_stateAt 23 = .ok (.invokevirtual 246, 3) := by decide +kernel
theorem dX9_stateAt_26 : decode cX9_stateAt 26 = .ok (.ifCond .eq 7, 3) := by decide +kernel
theorem dX9_stateAt_29 : decode cX9_stateAt 29 = .ok (.iconst 1, 1) := by decide +kernel
theorem dX9_stateAt_30 : decode cX9_stateAt 30 = .ok (.goto 4, 3) := by decide +kernel
theorem dX9_stateAt_33 : decode cX9_stateAt 33 = .ok (.iconst 2, 1) := by decide +kernel
theorem dX9_stateAt_34 : decode cX9_stateAt 34 = .ok (.ireturn, 1) := by decide +kernel
theorem dX9_changeBehind_0 : decode cX9_changeBehind 0 = .ok (.aload_n 0, 1) := by decide +kernel
theorem dX9_changeBehind_1 : decode cX9_changeBehind 1 = .ok (.getfield 28, 3) := by decide +kernel
theorem dX9_changeBehind_4 : decode cX9_changeBehind 4 = .ok (.getfield 94, 3) := by decide +kernel
theorem dX9_changeBehind_7 : decode cX9_changeBehind 7 = .ok (.iload_n 1, 1) := by decide +kernel
theorem dX9_changeBehind_8 : decode cX9_changeBehind 8 = .ok (.iload_n 2, 1) := by decide +kernel
theorem dX9_changeBehind_9 : decode cX9_changeBehind 9 = .ok (.aload_n 0, 1) := by decide +kernel
theorem dX9_changeBehind_10 : decode cX9_changeBehind 10 = .ok (.getfield 21, 3) := by decide +kernel
theorem dX9_changeBehind_13 : decode cX9_changeBehind 13 = .ok (.iload_n 1, 1) := by decide +kernel
theorem dX9_changeBehind_14 : decode cX9_changeBehind 14 = .ok (.iload_n 2, 1) := by decide +kernel
theorem dX9_changeBehind_15 : decode cX9_changeBehind 15 = .ok (.iload_n 3, 1) := by decide +kernel
theorem dX9_changeBehind_16 : decode cX9_changeBehind 16 = .ok (.invokevirtual 249, 3) := by decide +kernel
theorem dX9_changeBehind_19 : decode cX9_changeBehind 19 = .ok (.invokevirtual 249, 3) := by decide +kernel
theorem dX9_changeBehind_22 : decode cX9_changeBehind 22 = .ok (.ireturn, 1) := by decide +kernel
end
section
theorem dX10_init_0 : decode cX10_init 0 = .ok (.aload_n 0, 1) := by decide +kernel
theorem dX10_init_1 : decode cX10_init 1 = .ok (.invokespecial 1, 3) := by decide +kernel
theorem dX10_init_4 : decode cX10_init 4 = .ok (.aload_n 0, 1) := by decide +kernel
theorem dX10_init_5 : decode cX10_init 5 = .ok (.bipush 6, 2) := by decide +kernel
theorem dX10_init_7 : decode cX10_init 7 = .ok (.newarray .int, 2) := by decide +kernel
theorem dX10_init_9 : decode cX10_init 9 = .ok (.putfield 7, 3) := by decide +kernel
theorem dX10_init_12 : decode cX10_init 12 = .ok (.aload_n 0, 1) := by decide +kernel
theorem dX10_init_13 : decode cX10_init 13 = .ok (.bipush 6, 2) := by decide +kernel
theorem dX10_init_15 : decode cX10_init 15 = .ok (.newarray .int, 2) := by decide +kernel
theorem dX10_init_17 : decode cX10_init 17 = .ok (.putfield 13, 3) := by decide +kernel
theorem dX10_init_20 : decode cX10_init 20 = .ok (.aload_n 0, 1) := by decide +kernel
theorem dX10_init_21 : decode cX10_init 21 = .ok (.bipush 100, 2) := by decide +kernel
theorem dX10_init_23 : decode cX10_init 23 = .ok (.newarray .int, 2) := by decide +kernel
theorem dX10_init_25 : decode cX10_init 25 = .ok (.putfield 16, 3) := by decide +kernel
theorem dX10_init_28 : decode cX10_init 28 = .ok (.aload_n 0, 1) := by decide +kernel
theorem dX10_init_29 : decode cX10_init 29 = .ok (.bipush 100, 2) := by decide +kernel
theorem dX10_init_31 : decode cX10_init 31 = .ok (.newarray .int, 2) := by decide +kernel
theorem dX10_init_33 : decode cX10_init 33 = .ok (.putfield 19, 3) := by decide +kernel
theorem dX10_init_36 : decode cX10_init 36 = .ok (.aload_n 0, 1) := by decide +kernel
theorem dX10_init_37 : decode cX10_init 37 = .ok (.bipush 100, 2) := by decide +kernel
theorem dX10_init_39 : decode cX10_init 39 = .ok (.newarray .int, 2) := by decide +kernel
theorem dX10_init_41 : decode cX10_init 41 = .ok (.putfield 22, 3) := by decide +kernel
theorem dX10_init_44 : decode cX10_init 44 = .ok (.aload_n 0, 1) := by decide +kernel
theorem dX10_init_45 : decode cX10_init 45 = .ok (.bipush 100, 2) := by decide +kernel
theorem dX10_init_47 : decode cX10_init 47 = .ok (.newarray .int, 2) := by decide +kernel
theorem dX10_init_49 : decode cX10_init 49 = .ok (.putfield 25, 3) := by decide +kernel
theorem dX10_init_52 : decode cX10_init 52 = .ok (.aload_n 0, 1) := by decide +kernel
theorem dX10_init_53 : decode cX10_init 53 = .ok (.bipush 60, 2) := by decide +kernel
theorem dX10_init_55 : decode cX10_init 55 = .ok (.newarray .int, 2) := by decide +kernel
theorem dX10_init_57 : decode cX10_init 57 = .ok (.putfield 28, 3) := by decide +kernel
theorem dX10_init_60 : decode cX10_init 60 = .ok (.aload_n 0, 1) := by decide +kernel
theorem dX10_init_61 : decode cX10_init 61 = .ok (.bipush 60, 2) := by decide +kernel
theorem dX10_init_63 : decode cX10_init 63 = .ok (.newarray .int, 2) := by decide +kernel
theorem dX10_init_65 : decode cX10_init 65 = .ok (.putfield 31, 3) := by decide +kernel
theorem dX10_init_68 : decode cX10_init 68 = .ok (.aload_n 0, 1) := by decide +kernel
theorem dX10_init_69 : decode cX10_init 69 = .ok (.bipush 60, 2) := by decide +kernel
theorem dX10_init_71 : decode cX10_init 71 = .ok (.newarray .int, 2) := by decide +kernel
theorem dX10_init_73 : decode cX10_init 73 = .ok (.putfield 34, 3) := by decide +kernel
theorem dX10_init_76 : decode cX10_init 76 = .ok (.aload_n 0, 1) := by decide +kernel
theorem dX10_init_77 : decode cX10_init 77 = .ok (.bipush 60, 2) := by decide +kernel
theorem dX10_init_79 : decode cX10_init 79 = .ok (.newarray .int, 2) := by decide +kernel
theorem dX10_init_81 : decode cX10_init 81 = .ok (.putfield 37, 3) := by decide +kernel
theorem dX10_init_84 : decode cX10_init 84 = .ok (.aload_n 0, 1) := by decide +kernel
theorem dX10_init_85 : decode cX10_init 85 = .ok (.bipush 60, 2) := by decide +kernel
theorem dX10_init_87 : decode cX10_init 87 = .ok (.newarray .int, 2) := by decide +kernel
theorem dX10_init_89 : decode cX10_init 89 = .ok (.putfield 40, 3) := by decide +kernel
theorem dX10_init_92 : decode cX10_init 92 = .ok (.aload_n 0, 1) := by decide +kernel
theorem dX10_init_93 : decode cX10_init 93 = .ok (.bipush 60, 2) := by decide +kernel
theorem dX10_init_95 : decode cX10_init 95 = .ok (.newarray .boolean, 2) := by decide +kernel
theorem dX10_init_97 : decode cX10_init 97 = .ok (.putfield 43, 3) := by decide +kernel
theorem dX10_init_100 : decode cX10_init 100 = .ok (.aload_n 0, 1) := by decide +kernel
theorem dX10_init_101 : decode cX10_init 101 = .ok (.sipush 240, 3) := by decide +kernel
theorem dX10_init_104 : decode cX10_init 104 = .ok (.newarray .int, 2) := by decide +kernel
theorem dX10_init_106 : decode cX10_init 106 = .ok (.putfield 47, 3) := by decide +kernel
theorem dX10_init_109 : decode cX10_init 109 = .ok (.aload_n 0, 1) := by decide +kernel
theorem dX10_init_110 : decode cX10_init 110 = .ok (.iconst 5, 1) := by decide +kernel
theorem dX10_init_111 : decode cX10_init 111 = .ok (.putfield 50, 3) := by decide +kernel
theorem dX10_init_114 : decode cX10_init 114 = .ok (.aload_n 0, 1) := by decide +kernel
theorem dX10_init_115 : decode cX10_init 115 = .ok (.bipush 10, 2) := by decide +kernel
theorem dX10_init_117 : decode cX10_init 117 = .ok (.putfield 54, 3) := by decide +kernel
theorem dX10_init_120 : decode cX10_init 120 = .ok (.aload_n 0, 1) := by decide +kernel
theorem dX10_init_121 : decode cX10_init 121 = .ok (.bipush 60, 2) := by decide +kernel
theorem dX10_init_123 : decode cX10_init 123 = .ok (.newarray .int, 2) := by decide +kernel
theorem dX10_init_125 : decode cX10_init 125 = .ok (.putfield 57, 3) := by decide +kernel
theorem dX10_init_128 : decode cX10_init 128 = .ok (.aload_n 0, 1) := by decide +kernel
theorem dX10_init_129 : decode cX10_init 129 = .ok (.bipush 60, 2) := by decide +kernel
theorem dX10_init_131 : decode cX10_init 131 = .ok (.newarray .int, 2) := by decide +kernel
theorem dX10_init_133 : decode cX10_init 133 = .ok (.putfield 60, 3) := by decide +kernel
theorem dX10_init_136 : decode cX10_init 136 = .ok (.aload_n 0, 1) := by decide +kernel
theorem dX10_init_137 : decode cX10_init 137 = .ok (.bipush 100, 2) := by decide +kernel
theorem dX10_init_139 : decode cX10_init 139 = .ok (.newarray .int, 2) := by decide +kernel
theorem dX10_init_141 : decode cX10_init 141 = .ok (.putfield 63, 3) := by decide +kernel
theorem dX10_init_144 : decode cX10_init 144 = .ok (.aload_n 0, 1) := by decide +kernel
theorem dX10_init_145 : decode cX10_init 145 = .ok (.bipush 110, 2) := by decide +kernel
theorem dX10_init_147 : decode cX10_init 147 = .ok (.newarray .int, 2) := by decide +kernel
theorem dX10_init_149 : decode cX10_init 149 = .ok (.putfield 66, 3) := by decide +kernel
theorem dX10_init_152 : decode cX10_init 152 = .ok (.aload_n 0, 1) := by decide +kernel
theorem dX10_init_153 : decode cX10_init 153 = .ok (.iconst (-1), 1) := by decide +kernel
theorem dX10_init_154 : decode cX10_init 154 = .ok (.putfield 69, 3) := by decide +kernel
theorem dX10_init_157 : decode cX10_init 157 = .ok (.aload_n 0, 1) := by decide +kernel
theorem dX10_init_158 : decode cX10_init 158 = .ok (.iconst (-1), 1) := by decide +kernel
theorem dX10_init_159 : decode cX10_init 159 = .ok (.putfield 72, 3) := by decide +kernel
theorem dX10_init_162 : decode cX10_init 162 = .ok (.aload_n 0, 1) := by decide +kernel
theorem dX10_init_163 : decode cX10_init 163 = .ok (.iconst 4, 1) := by decide +kernel
theorem dX10_init_164 : decode cX10_init 164 = .ok (.newarray .int, 2) := by decide +kernel
theorem dX10_init_166 : decode cX10_init 166 = .ok (.putfield 75, 3) := by decide +kernel
theorem dX10_init_169 : decode cX10_init 169 = .ok (.aload_n 0, 1) := by decide +kernel
theorem dX10_init_170 : decode cX10_init 170 = .ok (.iconst 4, 1) := by decide +kernel
theorem dX10_init_171 : decode cX10_init 171 = .ok (.newarray .int, 2) := by decide +kernel
theorem dX10_init_173 : decode cX10_init 173 = .ok (.putfield 78, 3) := by decide +kernel
theorem dX10_init_176 : decode cX10_init 176 = .ok (.aload_n 0, 1) := by decide +kernel
theorem dX10_init_177 : decode cX10_init 177 = .ok (.bipush 64, 2) := by decide +kernel
theorem dX10_init_179 : decode cX10_init 179 = .ok (.newarray .int, 2) := by decide +kernel
theorem dX10_init_181 : decode cX10_init 181 = .ok (.putfield 81, 3) := by decide +kernel
theorem dX10_init_184 : decode cX10_init 184 = .ok (.aload_n 0, 1) := by decide +kernel
theorem dX10_init_185 : decode cX10_init 185 = .ok (.bipush 16, 2) := by decide +kernel
theorem dX10_init_187 : decode cX10_init 187 = .ok (.newarray .int, 2) := by decide +kernel
theorem dX10_init_189 : decode cX10_init 189 = .ok (.putfield 84, 3) := by decide +kernel
theorem dX10_init_192 : decode cX10_init 192 = .ok (.return_, 1) := by decide +kernel
theorem dX10_isIn_0 : decode cX10_isIn 0 = .ok (.iload_n 0, 1) := by decide +kernel
theorem dX10_isIn_1 : decode cX10_isIn 1 = .ok (.iload_n 1, 1) := by decide +kernel
theorem dX10_isIn_2 : decode cX10_isIn 2 = .ok (.if_icmp .lt 12, 3) := by decide +kernel
theorem dX10_isIn_5 : decode cX10_isIn 5 = .ok (.iload_n 0, 1) := by decide +kernel
theorem dX10_isIn_6 : decode cX10_isIn 6 = .ok (.iload_n 2, 1) := by decide +kernel
theorem dX10_isIn_7 : decode cX10_isIn 7 = .ok (.if_icmp .gt 7, 3) := by decide +kernel
theorem dX10_isIn_10 : decode cX10_isIn 10 = .ok (.iconst 1, 1) := by decide +kernel
theorem dX10_isIn_11 : decode cX10_isIn 11 = .ok (.goto 4, 3) := by decide +kernel
theorem dX10_isIn_14 : decode cX10_isIn 14 = .ok (.iconst 0, 1) := by decide +kernel
theorem dX10_isIn_15 : decode cX10_isIn 15 = .ok (.ireturn, 1) := by decide +kernel
theorem dX10_post_0 : decode cX10_post 0 = .ok (.iload_n 1, 1) := by decide +kernel
theorem dX10_post_1 : decode cX10_post 1 = .ok (.iconst 0, 1) := by decide +kernel
theorem dX10_post_2 : decode cX10_post 2 = .ok (.bipush 31, 2) := by decide +kernel
theorem dX10_post_4 : decode cX10_post 4 = .ok (.invokestatic 87, 3) := by decide +kernel
theorem dX10_post_7 : decode cX10_post 7 = .ok (.ifCond .eq 22, 3) := by decide +kernel
theorem dX10_post_10 : decode cX10_post 10 = .ok (.iload_n 2, 1) := by decide +kernel
theorem dX10_post_11 : decode cX10_post 11 = .ok (.iconst 0, 1) := by decide +kernel
theorem dX10_post_12 : decode cX10_post 12 = .ok (.bipush 31, 2) := by decide +kernel
theorem dX10_post_14 : decode cX10_post 14 = .ok (.invokestatic 87, 3) := by decide +kernel
theorem dX10_post_17 : decode cX10_post 17 = .ok (.ifCond .eq 12, 3) := by decide +kernel
theorem dX10_post_20 : decode cX10_post 20 = .ok (.aload_n 0, 1) := by decide +kernel
theorem dX10_post_21 : decode cX10_post 21 = .ok (.getfield 91, 3) := by decide +kernel
theorem dX10_post_24 : decode cX10_post 24 = .ok (.bipush 6, 2) := by decide +kernel
theorem dX10_post_26 : decode cX10_post 26 = .ok (.if_icmp .ne 5, 3) := by decide +kernel
theorem dX10_post_29 : decode cX10_post 29 = .ok (.iconst (-1), 1) := by decide +kernel
theorem dX10_post_30 : decode cX10_post 30 = .ok (.ireturn, 1) := by decide +kernel
theorem dX10_post_31 : decode cX10_post 31 = .ok (.aload_n 0, 1) := by decide +kernel
theorem dX10_post_32 : decode cX10_post 32 = .ok (.getfield 7, 3) := by decide +kernel
theorem dX10_post_35 : decode cX10_post 35 = .ok (.aload_n 0, 1) := by decide +kernel
theorem dX10_post_36 : decode cX10_post 36 = .ok (.getfield 91, 3) := by decide +kernel
theorem dX10_post_39 : decode cX10_post 39 = .ok (.iload_n 1, 1) := by decide +kernel
theorem dX10_post_40 : decode cX10_post 40 = .ok (.iastore, 1) := by decide +kernel
theorem dX10_post_41 : decode cX10_post 41 = .ok (.aload_n 0, 1) := by decide +kernel
theorem dX10_post_42 : decode cX10_post 42 = .ok (.getfield 13, 3) := by decide +kernel
theorem dX10_post_45 : decode cX10_post 45 = .ok (.aload_n 0, 1) := by decide +kernel
theorem dX10_post_46 : decode cX10_post 46 = .ok (.getfield 91, 3) := by decide +kernel
theorem dX10_post_49 : decode cX10_post 49 = .ok (.iload_n 2, 1) := by decide +kernel
theorem dX10_post_50 : decode cX10_post 50 = .ok (.iastore, 1) := by decide +kernel
theorem dX10_post_51 : decode cX10_post 51 = .ok (.aload_n 0, 1) := by decide +kernel
theorem dX10_post_52 : decode cX10_post 52 = .ok (.dup, 1) := by decide +kernel
theorem dX10_post_53 : decode cX10_post 53 = .ok (.getfield 91, 3) := by decide +kernel
theorem dX10_post_56 : decode cX10_post 56 = .ok (.iconst 1, 1) := by decide +kernel
theorem dX10_post_57 : decode cX10_post 57 = .ok (.iadd, 1) := by decide +kernel
theorem dX10_post_58 : decode cX10_post 58 = .ok (.putfield 91, 3) := by decide +kernel
theorem dX10_post_61 : decode cX10_post 61 = .ok (.aload_n 0, 1) := by decide +kernel
theorem dX10_post_62 : decode cX10_post 62 = .ok (.getfield 91, 3) := by decide +kernel
theorem dX10_post_65 : decode cX10_post 65 = .ok (.iconst 1, 1) := by decide +kernel
theorem dX10_post_66 : decode cX10_post 66 = .ok (.isub, 1) := by decide +kernel
theorem dX10_post_67 : decode cX10_post 67 = .ok (.ireturn, 1) := by decide +kernel
theorem dX10_isPost_0 : decode cX10_isPost 0 = .ok (.iload_n 1, 1) := by decide +kernel
theorem dX10_isPost_1 : decode cX10_isPost 1 = .ok (.iconst 0, 1) := by decide +kernel
theorem dX10_isPost_2 : decode cX10_isPost 2 = .ok (.aload_n 0, 1) := by decide +kernel
theorem dX10_isPost_3 : decode cX10_isPost 3 = .ok (.getfield 91, 3) := by decide +kernel
theorem dX10_isPost_6 : decode cX10_isPost 6 = .ok (.iconst 1, 1) := by decide +kernel
theorem dX10_isPost_7 : decode cX10_isPost 7 = .ok (.isub, 1) := by decide +kernel
theorem dX10_isPost_8 : decode cX10_isPost 8 = .ok (.invokestatic 87, 3) := by decide +kernel
theorem dX10_isPost_11 : decode cX10_isPost 11 = .ok (.ireturn, 1) := by decide +kernel
theorem dX10_isSpan_0 : decode cX10_isSpan 0 = .ok (.iload_n 0, 1) := by decide +kernel
theorem dX10_isSpan_1 : decode cX10_isSpan 1 = .ok (.iconst 0, 1) := by decide +kernel
theorem dX10_isSpan_2 : decode cX10_isSpan 2 = .ok (.sipush 9999, 3) := by decide +kernel
theorem dX10_isSpan_5 : decode cX10_isSpan 5 = .ok (.invokestatic 87, 3) := by decide +kernel
theorem dX10_isSpan_8 : decode cX10_isSpan 8 = .ok (.ifCond .eq 18, 3) := by decide +kernel
theorem dX10_isSpan_11 : decode cX10_isSpan 11 = .ok (.iload_n 1, 1) := by decide +kernel
theorem dX10_isSpan_12 : decode cX10_isSpan 12 = .ok (.iload_n 0, 1) := by decide +kernel
theorem dX10_isSpan_13 : decode cX10_isSpan 13 = .ok (.sipush 9999, 3) := by decide +kernel
theorem dX10_isSpan_16 : decode cX10_isSpan 16 = .ok (.invokestatic 87, 3) := by decide +kernel
theorem dX10_isSpan_19 : decode cX10_isSpan 19 = .ok (.ifCond .eq 7, 3) := by decide +kernel
theorem dX10_isSpan_22 : decode cX10_isSpan 22 = .ok (.iconst 1, 1) := by decide +kernel
theorem dX10_isSpan_23 : decode cX10_isSpan 23 = .ok (.goto 4, 3) := by decide +kernel
theorem dX10_isSpan_26 : decode cX10_isSpan 26 = .ok (.iconst 0, 1) := by decide +kernel
theorem dX10_isSpan_27 : decode cX10_isSpan 27 = .ok (.ireturn, 1) := by decide +kernel
theorem dX10_listened_0 : decode cX10_listened 0 = .ok (.aload_n 0, 1) := by decide +kernel
theorem dX10_listened_1 : decode cX10_listened 1 = .ok (.iload_n 1, 1) := by decide +kernel
theorem dX10_listened_2 : decode cX10_listened 2 = .ok (.invokevirtual 94, 3) := by decide +kernel
theorem dX10_listened_5 : decode cX10_listened 5 = .ok (.ifCond .eq 31, 3) := by decide +kernel
theorem dX10_listened_8 : decode cX10_listened 8 = .ok (.iload_n 2, 1) := by decide +kernel
theorem dX10_listened_9 : decode cX10_listened 9 = .ok (.iconst 0, 1) := by decide +kernel
theorem dX10_listened_10 : decode cX10_listened 10 = .ok (.bipush 15, 2) := by decide +kernel
theorem dX10_listened_12 : decode cX10_listened 12 = .ok (.invokestatic 87, 3) := by decide +kernel
theorem dX10_listened_15 : decode cX10_listened 15 = .ok (.ifCond .eq 21, 3) := by decide +kernel
theorem dX10_listened_18 : decode cX10_listened 18 = .ok (.iload_n 3, 1) := by decide +kernel
theorem dX10_listened_19 : decode cX10_listened 19 = .ok (.iload 4, 2) := by decide +kernel
theorem dX10_listened_21 : decode cX10_listened 21 = .ok (.invokestatic 98, 3) := by decide +kernel
theorem dX10_listened_24 : decode cX10_listened 24 = .ok (.ifCond .eq 12, 3) := by decide +kernel
theorem dX10_listened_27 : decode cX10_listened 27 = .ok (.aload_n 0, 1) := by decide +kernel
theorem dX10_listened_28 : decode cX10_listened 28 = .ok (.getfield 102, 3) := by decide +kernel
theorem dX10_listened_31 : decode cX10_listened 31 = .ok (.bipush 100, 2) := by decide +kernel
theorem dX10_listened_33 : decode cX10_listened 33 = .ok (.if_icmp .ne 5, 3) := by decide +kernel
theorem dX10_listened_36 : decode cX10_listened 36 = .ok (.iconst (-1), 1) := by decide +kernel
theorem dX10_listened_37 : decode cX10_listened 37 = .ok (.ireturn, 1) := by decide +kernel
theorem dX10_listened_38 : decode cX10_listened 38 = .ok (.aload_n 0, 1) := by decide +kernel
theorem dX10_listened_39 : decode cX10_listened 39 = .ok (.getfield 16, 3) := by decide +kernel
theorem dX10_listened_42 : decode cX10_listened 42 = .ok (.aload_n 0, 1) := by decide +kernel
theorem dX10_listened_43 : decode cX10_listened 43 = .ok (.getfield 102, 3) := by decide +kernel
theorem dX10_listened_46 : decode cX10_listened 46 = .ok (.iload_n 1, 1) := by decide +kernel
theorem dX10_listened_47 : decode cX10_listened 47 = .ok (.iastore, 1) := by decide +kernel
theorem dX10_listened_48 : decode cX10_listened 48 = .ok (.aload_n 0, 1) := by decide +kernel
theorem dX10_listened_49 : decode cX10_listened 49 = .ok (.getfield 19, 3) := by decide +kernel
theorem dX10_listened_52 : decode cX10_listened 52 = .ok (.aload_n 0, 1) := by decide +kernel
theorem dX10_listened_53 : decode cX10_listened 53 = .ok (.getfield 102, 3) := by decide +kernel
theorem dX10_listened_56 : decode cX10_listened 56 = .ok (.iload_n 2, 1) := by decide +kernel
theorem dX10_listened_57 : decode cX10_listened 57 = .ok (.iastore, 1) := by decide +kernel
theorem dX10_listened_58 : decode cX10_listened 58 = .ok (.aload_n 0, 1) := by decide +kernel
theorem dX10_listened_59 : decode cX10_listened 59 = .ok (.getfield 22, 3) := by decide +kernel
theorem dX10_listened_62 : decode cX10_listened 62 = .ok (.aload_n 0, 1) := by decide +kernel
theorem dX10_listened_63 : decode cX10_listened 63 = .ok (.getfield 102, 3) := by decide +kernel
theorem dX10_listened_66 : decode cX10_listened 66 = .ok (.iload_n 3, 1) := by decide +kernel
theorem dX10_listened_67 : decode cX10_listened 67 = .ok (.iastore, 1) := by decide +kernel
theorem dX10_listened_68 : decode cX10_listened 68 = .ok (.aload_n 0, 1) := by decide +kernel
theorem dX10_listened_69 : decode cX10_listened 69 = .ok (.getfield 25, 3) := by decide +kernel
theorem dX10_listened_72 : decode cX10_listened 72 = .ok (.aload_n 0, 1) := by decide +kernel
theorem dX10_listened_73 : decode cX10_listened 73 = .ok (.getfield 102, 3) := by decide +kernel
theorem dX10_listened_76 : decode cX10_listened 76 = .ok (.iload 4, 2) := by decide +kernel
theorem dX10_listened_78 : decode cX10_listened 78 = .ok (.iastore, 1) := by decide +kernel
theorem dX10_listened_79 : decode cX10_listened 79 = .ok (.aload_n 0, 1) := by decide +kernel
theorem dX10_listened_80 : decode cX10_listened 80 = .ok (.dup, 1) := by decide +kernel
theorem dX10_listened_81 : decode cX10_listened 81 = .ok (.getfield 102, 3) := by decide +kernel
theorem dX10_listened_84 : decode cX10_listened 84 = .ok (.iconst 1, 1) := by decide +kernel
theorem dX10_listened_85 : decode cX10_listened 85 = .ok (.iadd, 1) := by decide +kernel
theorem dX10_listened_86 : decode cX10_listened 86 = .ok (.putfield 102, 3) := by decide +kernel
theorem dX10_listened_89 : decode cX10_listened 89 = .ok (.aload_n 0, 1) := by decide +kernel
theorem dX10_listened_90 : decode cX10_listened 90 = .ok (.getfield 102, 3) := by decide +kernel
theorem dX10_listened_93 : decode cX10_listened 93 = .ok (.ireturn, 1) := by decide +kernel
theorem dX10_wasListened_0 : decode cX10_wasListened 0 = .ok (.iconst 0, 1) := by decide +kernel
theorem dX10_wasListened_1 : decode cX10_wasListened 1 = .ok (.istore 4, 2) := by decide +kernel
theorem dX10_wasListened_3 : decode cX10_wasListened 3 = .ok (.iload 4, 2) := by decide +kernel
theorem dX10_wasListened_5 : decode cX10_wasListened 5 = .ok (.aload_n 0, 1) := by decide +kernel
theorem dX10_wasListened_6 : decode cX10_wasListened 6 = .ok (.getfield 102, 3) := by decide +kernel
theorem dX10_wasListened_9 : decode cX10_wasListened 9 = .ok (.if_icmp .ge 58, 3) := by decide +kernel
theorem dX10_wasListened_12 : decode cX10_wasListened 12 = .ok (.iload_n 1, 1) := by decide +kernel
theorem dX10_wasListened_13 : decode cX10_wasListened 13 = .ok (.ifCond .lt 14, 3) := by decide +kernel
theorem dX10_wasListened_16 : decode cX10_wasListened 16 = .ok (.aload_n 0, 1) := by decide +kernel
theorem dX10_wasListened_17 : decode cX10_wasListened 17 = .ok (.getfield 16, 3) := by decide +kernel
theorem dX10_wasListened_20 : decode cX10_wasListened 20 = .ok (.iload 4, 2) := by decide +kernel
theorem dX10_wasListened_22 : decode cX10_wasListened 22 = .ok (.iaload, 1) := by decide +kernel
theorem dX10_wasListened_23 : decode cX10_wasListened 23 = .ok (.iload_n 1, 1) := by decide +kernel
theorem dX10_wasListened_24 : decode cX10_wasListened 24 = .ok (.if_icmp .ne 37, 3) := by decide +kernel
theorem dX10_wasListened_27 : decode cX10_wasListened 27 = .ok (.aload_n 0, 1) := by decide +kernel
theorem dX10_wasListened_28 : decode cX10_wasListened 28 = .ok (.getfield 19, 3) := by decide +kernel
theorem dX10_wasListened_31 : decode cX10_wasListened 31 = .ok (.iload 4, 2) := by decide +kernel
theorem dX10_wasListened_33 : decode cX10_wasListened 33 = .ok (.iaload, 1) := by decide +kernel
theorem dX10_wasListened_34 : decode cX10_wasListened 34 = .ok (.iload_n 2, 1) := by decide +kernel
theorem dX10_wasListened_35 : decode cX10_wasListened 35 = .ok (.if_icmp .ne 26, 3) := by decide +kernel
theorem dX10_wasListened_38 : decode cX10_wasListened 38 = .ok (.iload_n 3, 1) := by decide +kernel
theorem dX10_wasListened_39 : decode cX10_wasListened 39 = .ok (.aload_n 0, 1) := by decide +kernel
theorem dX10_wasListened_40 : decode cX10_wasListened 40 = .ok (.getfield 22, 3) := by decide +kernel
theorem dX10_wasListened_43 : decode cX10_wasListened 43 = .ok (.iload 4, 2) := by decide +kernel
theorem dX10_wasListened_45 : decode cX10_wasListened 45 = .ok (.iaload, 1) := by decide +kernel
theorem dX10_wasListened_46 : decode cX10_wasListened 46 = .ok (.aload_n 0, 1) := by decide +kernel
theorem dX10_wasListened_47 : decode cX10_wasListened 47 = .ok (.getfield 25, 3) := by decide +kernel
theorem dX10_wasListened_50 : decode cX10_wasListened 50 = .ok (.iload 4, 2) := by decide +kernel
theorem dX10_wasListened_52 : decode cX10_wasListened 52 = .ok (.iaload, 1) := by decide +kernel
theorem dX10_wasListened_53 : decode cX10_wasListened 53 = .ok (.invokestatic 87, 3) := by decide +kernel
theorem dX10_wasListened_56 : decode cX10_wasListened 56 = .ok (.ifCond .eq 5, 3) := by decide +kernel
theorem dX10_wasListened_59 : decode cX10_wasListened 59 = .ok (.iconst 1, 1) := by decide +kernel
theorem dX10_wasListened_60 : decode cX10_wasListened 60 = .ok (.ireturn, 1) := by decide +kernel
theorem dX10_wasListened_61 : decode cX10_wasListened 61 = .ok (.iinc 4 1, 3) := by decide +kernel
theorem dX10_wasListened_64 : decode cX10_wasListened 64 = .ok (.goto (-61), 3) := by decide +kernel
theorem dX10_wasListened_67 : decode cX10_wasListened 67 = .ok (.iconst 0, 1) := by decide +kernel
theorem dX10_wasListened_68 : decode cX10_wasListened 68 = .ok (.ireturn, 1) := by decide +kernel
theorem dX10_mark_0 : decode cX10_mark 0 = .ok (.aload_n 0, 1) := by decide +kernel
theorem dX10_mark_1 : decode cX10_mark 1 = .ok (.iload_n 1, 1) := by decide +kernel
theorem dX10_mark_2 : decode cX10_mark 2 = .ok (.invokevirtual 94, 3) := by decide +kernel
theorem dX10_mark_5 : decode cX10_mark 5 = .ok (.ifCond .eq 43, 3) := by decide +kernel
theorem dX10_mark_8 : decode cX10_mark 8 = .ok (.iload_n 2, 1) := by decide +kernel
theorem dX10_mark_9 : decode cX10_mark 9 = .ok (.iconst 0, 1) := by decide +kernel
theorem dX10_mark_10 : decode cX10_mark 10 = .ok (.bipush 15, 2) := by decide +kernel
theorem dX10_mark_12 : decode cX10_mark 12 = .ok (.invokestatic 87, 3) := by decide +kernel
theorem dX10_mark_15 : decode cX10_mark 15 = .ok (.ifCond .eq 33, 3) := by decide +kernel
theorem dX10_mark_18 : decode cX10_mark 18 = .ok (.iload_n 3, 1) := by decide +kernel
theorem dX10_mark_19 : decode cX10_mark 19 = .ok (.iload 4, 2) := by decide +kernel
theorem dX10_mark_21 : decode cX10_mark 21 = .ok (.invokestatic 98, 3) := by decide +kernel
theorem dX10_mark_24 : decode cX10_mark 24 = .ok (.ifCond .eq 24, 3) := by decide +kernel
theorem dX10_mark_27 : decode cX10_mark 27 = .ok (.iload 5, 2) := by decide +kernel
theorem dX10_mark_29 : decode cX10_mark 29 = .ok (.iconst 0, 1) := by decide +kernel
theorem dX10_mark_30 : decode cX10_mark 30 = .ok (.sipush 999, 3) := by decide +kernel
theorem dX10_mark_33 : decode cX10_mark 33 = .ok (.invokestatic 87, 3) := by decide +kernel
theorem dX10_mark_36 : decode cX10_mark 36 = .ok (.ifCond .eq 12, 3) := by decide +kernel
theorem dX10_mark_39 : decode cX10_mark 39 = .ok (.aload_n 0, 1) := by decide +kernel
theorem dX10_mark_40 : decode cX10_mark 40 = .ok (.getfield 105, 3) := by decide +kernel
theorem dX10_mark_43 : decode cX10_mark 43 = .ok (.bipush 60, 2) := by decide +kernel
theorem dX10_mark_45 : decode cX10_mark 45 = .ok (.if_icmp .ne 5, 3) := by decide +kernel
theorem dX10_mark_48 : decode cX10_mark 48 = .ok (.iconst (-1), 1) := by decide +kernel
theorem dX10_mark_49 : decode cX10_mark 49 = .ok (.ireturn, 1) := by decide +kernel
theorem dX10_mark_50 : decode cX10_mark 50 = .ok (.iload_n 3, 1) := by decide +kernel
theorem dX10_mark_51 : decode cX10_mark 51 = .ok (.istore 6, 2) := by decide +kernel
theorem dX10_mark_53 : decode cX10_mark 53 = .ok (.iload 6, 2) := by decide +kernel
theorem dX10_mark_55 : decode cX10_mark 55 = .ok (.iload 4, 2) := by decide +kernel
theorem dX10_mark_57 : decode cX10_mark 57 = .ok (.if_icmp .gt 22, 3) := by decide +kernel
theorem dX10_mark_60 : decode cX10_mark 60 = .ok (.aload_n 0, 1) := by decide +kernel
theorem dX10_mark_61 : decode cX10_mark 61 = .ok (.iload_n 1, 1) := by decide +kernel
theorem dX10_mark_62 : decode cX10_mark 62 = .ok (.iload_n 2, 1) := by decide +kernel
theorem dX10_mark_63 : decode cX10_mark 63 = .ok (.iload 6, 2) := by decide +kernel
theorem dX10_mark_65 : decode cX10_mark 65 = .ok (.invokevirtual 108, 3) := by decide +kernel
theorem dX10_mark_68 : decode cX10_mark 68 = .ok (.ifCond .ne 5, 3) := by decide +kernel
theorem dX10_mark_71 : decode cX10_mark 71 = .ok (.iconst (-1), 1) := by decide +kernel
theorem dX10_mark_72 : decode cX10_mark 72 = .ok (.ireturn, 1) := by decide +kernel
theorem dX10_mark_73 : decode cX10_mark 73 = .ok (.iinc 6 1, 3) := by decide +kernel
theorem dX10_mark_76 : decode cX10_mark 76 = .ok (.goto (-23), 3) := by decide +kernel
theorem dX10_mark_79 : decode cX10_mark 79 = .ok (.aload_n 0, 1) := by decide +kernel
theorem dX10_mark_80 : decode cX10_mark 80 = .ok (.getfield 28, 3) := by decide +kernel
theorem dX10_mark_83 : decode cX10_mark 83 = .ok (.aload_n 0, 1) := by decide +kernel
theorem dX10_mark_84 : decode cX10_mark 84 = .ok (.getfield 105, 3) := by decide +kernel
theorem dX10_mark_87 : decode cX10_mark 87 = .ok (.iload_n 1, 1) := by decide +kernel
theorem dX10_mark_88 : decode cX10_mark 88 = .ok (.iastore, 1) := by decide +kernel
theorem dX10_mark_89 : decode cX10_mark 89 = .ok (.aload_n 0, 1) := by decide +kernel
theorem dX10_mark_90 : decode cX10_mark 90 = .ok (.getfield 31, 3) := by decide +kernel
theorem dX10_mark_93 : decode cX10_mark 93 = .ok (.aload_n 0, 1) := by decide +kernel
theorem dX10_mark_94 : decode cX10_mark 94 = .ok (.getfield 105, 3) := by decide +kernel
theorem dX10_mark_97 : decode cX10_mark 97 = .ok (.iload_n 2, 1) := by decide +kernel
theorem dX10_mark_98 : decode cX10_mark 98 = .ok (.iastore, 1) := by decide +kernel
theorem dX10_mark_99 : decode cX10_mark 99 = .ok (.aload_n 0, 1) := by decide +kernel
theorem dX10_mark_100 : decode cX10_mark 100 = .ok (.getfield 34, 3) := by decide +kernel
theorem dX10_mark_103 : decode cX10_mark 103 = .ok (.aload_n 0, 1) := by decide +kernel
theorem dX10_mark_104 : decode cX10_mark 104 = .ok (.getfield 105, 3) := by decide +kernel
theorem dX10_mark_107 : decode cX10_mark 107 = .ok (.iload_n 3, 1) := by decide +kernel
theorem dX10_mark_108 : decode cX10_mark 108 = .ok (.iastore, 1) := by decide +kernel
theorem dX10_mark_109 : decode cX10_mark 109 = .ok (.aload_n 0, 1) := by decide +kernel
theorem dX10_mark_110 : decode cX10_mark 110 = .ok (.getfield 37, 3) := by decide +kernel
theorem dX10_mark_113 : decode cX10_mark 113 = .ok (.aload_n 0, 1) := by decide +kernel
theorem dX10_mark_114 : decode cX10_mark 114 = .ok (.getfield 105, 3) := by decide +kernel
theorem dX10_mark_117 : decode cX10_mark 117 = .ok (.iload 4, 2) := by decide +kernel
theorem dX10_mark_119 : decode cX10_mark 119 = .ok (.iastore, 1) := by decide +kernel
theorem dX10_mark_120 : decode cX10_mark 120 = .ok (.aload_n 0, 1) := by decide +kernel
theorem dX10_mark_121 : decode cX10_mark 121 = .ok (.getfield 40, 3) := by decide +kernel
theorem dX10_mark_124 : decode cX10_mark 124 = .ok (.aload_n 0, 1) := by decide +kernel
theorem dX10_mark_125 : decode cX10_mark 125 = .ok (.getfield 105, 3) := by decide +kernel
theorem dX10_mark_128 : decode cX10_mark 128 = .ok (.iload 5, 2) := by decide +kernel
theorem dX10_mark_130 : decode cX10_mark 130 = .ok (.iastore, 1) := by decide +kernel
theorem dX10_mark_131 : decode cX10_mark 131 = .ok (.aload_n 0, 1) := by decide +kernel
theorem dX10_mark_132 : decode cX10_mark 132 = .ok (.dup, 1) := by decide +kernel
theorem dX10_mark_133 : decode cX10_mark 133 = .ok (.getfield 105, 3) := by decide +kernel
theorem dX10_mark_136 : decode cX10_mark 136 = .ok (.iconst 1, 1) := by decide +kernel
theorem dX10_mark_137 : decode cX10_mark 137 = .ok (.iadd, 1) := by decide +kernel
theorem dX10_mark_138 : decode cX10_mark 138 = .ok (.putfield 105, 3) := by decide +kernel
theorem dX10_mark_141 : decode cX10_mark 141 = .ok (.aload_n 0, 1) := by decide +kernel
theorem dX10_mark_142 : decode cX10_mark 142 = .ok (.getfield 105, 3) := by decide +kernel
theorem dX10_mark_145 : decode cX10_mark 145 = .ok (.iconst 1, 1) := by decide +kernel
theorem dX10_mark_146 : decode cX10_mark 146 = .ok (.isub, 1) := by decide +kernel
theorem dX10_mark_147 : decode cX10_mark 147 = .ok (.ireturn, 1) := by decide +kernel
theorem dX10_isWay_0 : decode cX10_isWay 0 = .ok (.iload_n 0, 1) := by decide +kernel
theorem dX10_isWay_1 : decode cX10_isWay 1 = .ok (.bipush (-100), 2) := by decide +kernel
theorem dX10_isWay_3 : decode cX10_isWay 3 = .ok (.bipush 100, 2) := by decide +kernel
theorem dX10_isWay_5 : decode cX10_isWay 5 = .ok (.invokestatic 87, 3) := by decide +kernel
theorem dX10_isWay_8 : decode cX10_isWay 8 = .ok (.ifCond .eq 26, 3) := by decide +kernel
theorem dX10_isWay_11 : decode cX10_isWay 11 = .ok (.iload_n 1, 1) := by decide +kernel
theorem dX10_isWay_12 : decode cX10_isWay 12 = .ok (.bipush (-100), 2) := by decide +kernel
theorem dX10_isWay_14 : decode cX10_isWay 14 = .ok (.bipush 100, 2) := by decide +kernel
theorem dX10_isWay_16 : decode cX10_isWay 16 = .ok (.invokestatic 87, 3) := by decide +kernel
theorem dX10_isWay_19 : decode cX10_isWay 19 = .ok (.ifCond .eq 15, 3) := by decide +kernel
theorem dX10_isWay_22 : decode cX10_isWay 22 = .ok (.iload_n 0, 1) := by decide +kernel
theorem dX10_isWay_23 : decode cX10_isWay 23 = .ok (.ifCond .ne 7, 3) := by decide +kernel
theorem dX10_isWay_26 : decode cX10_isWay 26 = .ok (.iload_n 1, 1) := by decide +kernel
theorem dX10_isWay_27 : decode cX10_isWay 27 = .ok (.ifCond .eq 7, 3) := by decide +kernel
theorem dX10_isWay_30 : decode cX10_isWay 30 = .ok (.iconst 1, 1) := by decide +kernel
theorem dX10_isWay_31 : decode cX10_isWay 31 = .ok (.goto 4, 3) := by decide +kernel
theorem dX10_isWay_34 : decode cX10_isWay 34 = .ok (.iconst 0, 1) := by decide +kernel
theorem dX10_isWay_35 : decode cX10_isWay 35 = .ok (.ireturn, 1) := by decide +kernel
theorem dX10_wedge_0 : decode cX10_wedge 0 = .ok (.iload_n 1, 1) := by decide +kernel
theorem dX10_wedge_1 : decode cX10_wedge 1 = .ok (.iconst 0, 1) := by decide +kernel
theorem dX10_wedge_2 : decode cX10_wedge 2 = .ok (.aload_n 0, 1) := by decide +kernel
theorem dX10_wedge_3 : decode cX10_wedge 3 = .ok (.getfield 105, 3) := by decide +kernel
theorem dX10_wedge_6 : decode cX10_wedge 6 = .ok (.iconst 1, 1) := by decide +kernel
theorem dX10_wedge_7 : decode cX10_wedge 7 = .ok (.isub, 1) := by decide +kernel
theorem dX10_wedge_8 : decode cX10_wedge 8 = .ok (.invokestatic 87, 3) := by decide +kernel
theorem dX10_wedge_11 : decode cX10_wedge 11 = .ok (.ifCond .eq 33, 3) := by decide +kernel
theorem dX10_wedge_14 : decode cX10_wedge 14 = .ok (.iload_n 2, 1) := by decide +kernel
theorem dX10_wedge_15 : decode cX10_wedge 15 = .ok (.iload_n 3, 1) := by decide +kernel
theorem dX10_wedge_16 : decode cX10_wedge 16 = .ok (.invokestatic 111, 3) := by decide +kernel
theorem dX10_wedge_19 : decode cX10_wedge 19 = .ok (.ifCond .eq 25, 3) := by decide +kernel
theorem dX10_wedge_22 : decode cX10_wedge 22 = .ok (.iload 4, 2) := by decide +kernel
theorem dX10_wedge_24 : decode cX10_wedge 24 = .ok (.iload 5, 2) := by decide +kernel
theorem dX10_wedge_26 : decode cX10_wedge 26 = .ok (.invokestatic 111, 3) := by decide +kernel
theorem dX10_wedge_29 : decode cX10_wedge 29 = .ok (.ifCond .eq 15, 3) := by decide +kernel
theorem dX10_wedge_32 : decode cX10_wedge 32 = .ok (.iload_n 2, 1) := by decide +kernel
theorem dX10_wedge_33 : decode cX10_wedge 33 = .ok (.iload 5, 2) := by decide +kernel
theorem dX10_wedge_35 : decode cX10_wedge 35 = .ok (.imul, 1) := by decide +kernel
theorem dX10_wedge_36 : decode cX10_wedge 36 = .ok (.iload_n 3, 1) := by decide +kernel
theorem dX10_wedge_37 : decode cX10_wedge 37 = .ok (.iload 4, 2) := by decide +kernel
theorem dX10_wedge_39 : decode cX10_wedge 39 = .ok (.imul, 1) := by decide +kernel
theorem dX10_wedge_40 : decode cX10_wedge 40 = .ok (.isub, 1) := by decide +kernel
theorem dX10_wedge_41 : decode cX10_wedge 41 = .ok (.ifCond .gt 5, 3) := by decide +kernel
theorem dX10_wedge_44 : decode cX10_wedge 44 = .ok (.iconst 0, 1) := by decide +kernel
theorem dX10_wedge_45 : decode cX10_wedge 45 = .ok (.ireturn, 1) := by decide +kernel
theorem dX10_wedge_46 : decode cX10_wedge 46 = .ok (.aload_n 0, 1) := by decide +kernel
theorem dX10_wedge_47 : decode cX10_wedge 47 = .ok (.getfield 43, 3) := by decide +kernel
theorem dX10_wedge_50 : decode cX10_wedge 50 = .ok (.iload_n 1, 1) := by decide +kernel
theorem dX10_wedge_51 : decode cX10_wedge 51 = .ok (.iconst 1, 1) := by decide +kernel
theorem dX10_wedge_52 : decode cX10_wedge 52 = .ok (.bastore, 1) := by decide +kernel
theorem dX10_wedge_53 : decode cX10_wedge 53 = .ok (.aload_n 0, 1) := by decide +kernel
theorem dX10_wedge_54 : decode cX10_wedge 54 = .ok (.getfield 47, 3) := by decide +kernel
theorem dX10_wedge_57 : decode cX10_wedge 57 = .ok (.iconst 4, 1) := by decide +kernel
theorem dX10_wedge_58 : decode cX10_wedge 58 = .ok (.iload_n 1, 1) := by decide +kernel
theorem dX10_wedge_59 : decode cX10_wedge 59 = .ok (.imul, 1) := by decide +kernel
theorem dX10_wedge_60 : decode cX10_wedge 60 = .ok (.iload_n 2, 1) := by decide +kernel
theorem dX10_wedge_61 : decode cX10_wedge 61 = .ok (.iastore, 1) := by decide +kernel
theorem dX10_wedge_62 : decode cX10_wedge 62 = .ok (.aload_n 0, 1) := by decide +kernel
theorem dX10_wedge_63 : decode cX10_wedge 63 = .ok (.getfield 47, 3) := by decide +kernel
theorem dX10_wedge_66 : decode cX10_wedge 66 = .ok (.iconst 4, 1) := by decide +kernel
theorem dX10_wedge_67 : decode cX10_wedge 67 = .ok (.iload_n 1, 1) := by decide +kernel
theorem dX10_wedge_68 : decode cX10_wedge 68 = .ok (.imul, 1) := by decide +kernel
theorem dX10_wedge_69 : decode cX10_wedge 69 = .ok (.iconst 1, 1) := by decide +kernel
theorem dX10_wedge_70 : decode cX10_wedge 70 = .ok (.iadd, 1) := by decide +kernel
theorem dX10_wedge_71 : decode cX10_wedge 71 = .ok (.iload_n 3, 1) := by decide +kernel
theorem dX10_wedge_72 : decode cX10_wedge 72 = .ok (.iastore, 1) := by decide +kernel
theorem dX10_wedge_73 : decode cX10_wedge 73 = .ok (.aload_n 0, 1) := by decide +kernel
theorem dX10_wedge_74 : decode cX10_wedge 74 = .ok (.getfield 47, 3) := by decide +kernel
theorem dX10_wedge_77 : decode cX10_wedge 77 = .ok (.iconst 4, 1) := by decide +kernel
theorem dX10_wedge_78 : decode cX10_wedge 78 = .ok (.iload_n 1, 1) := by decide +kernel
theorem dX10_wedge_79 : decode cX10_wedge 79 = .ok (.imul, 1) := by decide +kernel
theorem dX10_wedge_80 : decode cX10_wedge 80 = .ok (.iconst 2, 1) := by decide +kernel
theorem dX10_wedge_81 : decode cX10_wedge 81 = .ok (.iadd, 1) := by decide +kernel
theorem dX10_wedge_82 : decode cX10_wedge 82 = .ok (.iload 4, 2) := by decide +kernel
theorem dX10_wedge_84 : decode cX10_wedge 84 = .ok (.iastore, 1) := by decide +kernel
theorem dX10_wedge_85 : decode cX10_wedge 85 = .ok (.aload_n 0, 1) := by decide +kernel
theorem dX10_wedge_86 : decode cX10_wedge 86 = .ok (.getfield 47, 3) := by decide +kernel
theorem dX10_wedge_89 : decode cX10_wedge 89 = .ok (.iconst 4, 1) := by decide +kernel
theorem dX10_wedge_90 : decode cX10_wedge 90 = .ok (.iload_n 1, 1) := by decide +kernel
theorem dX10_wedge_91 : decode cX10_wedge 91 = .ok (.imul, 1) := by decide +kernel
theorem dX10_wedge_92 : decode cX10_wedge 92 = .ok (.iconst 3, 1) := by decide +kernel
theorem dX10_wedge_93 : decode cX10_wedge 93 = .ok (.iadd, 1) := by decide +kernel
theorem dX10_wedge_94 : decode cX10_wedge 94 = .ok (.iload 5, 2) := by decide +kernel
theorem dX10_wedge_96 : decode cX10_wedge 96 = .ok (.iastore, 1) := by decide +kernel
theorem dX10_wedge_97 : decode cX10_wedge 97 = .ok (.iconst 1, 1) := by decide +kernel
theorem dX10_wedge_98 : decode cX10_wedge 98 = .ok (.ireturn, 1) := by decide +kernel
theorem dX10_joins_0 : decode cX10_joins 0 = .ok (.iload_n 1, 1) := by decide +kernel
theorem dX10_joins_1 : decode cX10_joins 1 = .ok (.iconst 0, 1) := by decide +kernel
theorem dX10_joins_2 : decode cX10_joins 2 = .ok (.bipush 99, 2) := by decide +kernel
theorem dX10_joins_4 : decode cX10_joins 4 = .ok (.invokestatic 87, 3) := by decide +kernel
theorem dX10_joins_7 : decode cX10_joins 7 = .ok (.ifCond .eq 14, 3) := by decide +kernel
theorem dX10_joins_10 : decode cX10_joins 10 = .ok (.iload_n 2, 1) := by decide +kernel
theorem dX10_joins_11 : decode cX10_joins 11 = .ok (.iconst 0, 1) := by decide +kernel
theorem dX10_joins_12 : decode cX10_joins 12 = .ok (.sipush 999, 3) := by decide +kernel
theorem dX10_joins_15 : decode cX10_joins 15 = .ok (.invokestatic 87, 3) := by decide +kernel
theorem dX10_joins_18 : decode cX10_joins 18 = .ok (.ifCond .ne 5, 3) := by decide +kernel
theorem dX10_joins_21 : decode cX10_joins 21 = .ok (.iconst 0, 1) := by decide +kernel
theorem dX10_joins_22 : decode cX10_joins 22 = .ok (.ireturn, 1) := by decide +kernel
theorem dX10_joins_23 : decode cX10_joins 23 = .ok (.aload_n 0, 1) := by decide +kernel
theorem dX10_joins_24 : decode cX10_joins 24 = .ok (.iload_n 1, 1) := by decide +kernel
theorem dX10_joins_25 : decode cX10_joins 25 = .ok (.putfield 50, 3) := by decide +kernel
theorem dX10_joins_28 : decode cX10_joins 28 = .ok (.aload_n 0, 1) := by decide +kernel
theorem dX10_joins_29 : decode cX10_joins 29 = .ok (.iload_n 2, 1) := by decide +kernel
theorem dX10_joins_30 : decode cX10_joins 30 = .ok (.putfield 54, 3) := by decide +kernel
theorem dX10_joins_33 : decode cX10_joins 33 = .ok (.iconst 1, 1) := by decide +kernel
theorem dX10_joins_34 : decode cX10_joins 34 = .ok (.ireturn, 1) := by decide +kernel
theorem dX10_isJoin_0 : decode cX10_isJoin 0 = .ok (.aload_n 0, 1) := by decide +kernel
theorem dX10_isJoin_1 : decode cX10_isJoin 1 = .ok (.getfield 40, 3) := by decide +kernel
theorem dX10_isJoin_4 : decode cX10_isJoin 4 = .ok (.iload_n 1, 1) := by decide +kernel
theorem dX10_isJoin_5 : decode cX10_isJoin 5 = .ok (.iaload, 1) := by decide +kernel
theorem dX10_isJoin_6 : decode cX10_isJoin 6 = .ok (.aload_n 0, 1) := by decide +kernel
theorem dX10_isJoin_7 : decode cX10_isJoin 7 = .ok (.getfield 40, 3) := by decide +kernel
theorem dX10_isJoin_10 : decode cX10_isJoin 10 = .ok (.iload_n 2, 1) := by decide +kernel
theorem dX10_isJoin_11 : decode cX10_isJoin 11 = .ok (.iaload, 1) := by decide +kernel
theorem dX10_isJoin_12 : decode cX10_isJoin 12 = .ok (.if_icmp .le 19, 3) := by decide +kernel
theorem dX10_isJoin_15 : decode cX10_isJoin 15 = .ok (.aload_n 0, 1) := by decide +kernel
theorem dX10_isJoin_16 : decode cX10_isJoin 16 = .ok (.getfield 40, 3) := by decide +kernel
theorem dX10_isJoin_19 : decode cX10_isJoin 19 = .ok (.iload_n 1, 1) := by decide +kernel
theorem dX10_isJoin_20 : decode cX10_isJoin 20 = .ok (.iaload, 1) := by decide +kernel
theorem dX10_isJoin_21 : decode cX10_isJoin 21 = .ok (.aload_n 0, 1) := by decide +kernel
theorem dX10_isJoin_22 : decode cX10_isJoin 22 = .ok (.getfield 40, 3) := by decide +kernel
theorem dX10_isJoin_25 : decode cX10_isJoin 25 = .ok (.iload_n 2, 1) := by decide +kernel
theorem dX10_isJoin_26 : decode cX10_isJoin 26 = .ok (.iaload, 1) := by decide +kernel
theorem dX10_isJoin_27 : decode cX10_isJoin 27 = .ok (.isub, 1) := by decide +kernel
theorem dX10_isJoin_28 : decode cX10_isJoin 28 = .ok (.goto 16, 3) := by decide +kernel
theorem dX10_isJoin_31 : decode cX10_isJoin 31 = .ok (.aload_n 0, 1) := by decide +kernel
theorem dX10_isJoin_32 : decode cX10_isJoin 32 = .ok (.getfield 40, 3) := by decide +kernel
theorem dX10_isJoin_35 : decode cX10_isJoin 35 = .ok (.iload_n 2, 1) := by decide +kernel
theorem dX10_isJoin_36 : decode cX10_isJoin 36 = .ok (.iaload, 1) := by decide +kernel
theorem dX10_isJoin_37 : decode cX10_isJoin 37 = .ok (.aload_n 0, 1) := by decide +kernel
theorem dX10_isJoin_38 : decode cX10_isJoin 38 = .ok (.getfield 40, 3) := by decide +kernel
theorem dX10_isJoin_41 : decode cX10_isJoin 41 = .ok (.iload_n 1, 1) := by decide +kernel
theorem dX10_isJoin_42 : decode cX10_isJoin 42 = .ok (.iaload, 1) := by decide +kernel
theorem dX10_isJoin_43 : decode cX10_isJoin 43 = .ok (.isub, 1) := by decide +kernel
theorem dX10_isJoin_44 : decode cX10_isJoin 44 = .ok (.istore_n 3, 1) := by decide +kernel
theorem dX10_isJoin_45 : decode cX10_isJoin 45 = .ok (.aload_n 0, 1) := by decide +kernel
theorem dX10_isJoin_46 : decode cX10_isJoin 46 = .ok (.getfield 31, 3) := by decide +kernel
theorem dX10_isJoin_49 : decode cX10_isJoin 49 = .ok (.iload_n 1, 1) := by decide +kernel
theorem dX10_isJoin_50 : decode cX10_isJoin 50 = .ok (.iaload, 1) := by decide +kernel
theorem dX10_isJoin_51 : decode cX10_isJoin 51 = .ok (.aload_n 0, 1) := by decide +kernel
theorem dX10_isJoin_52 : decode cX10_isJoin 52 = .ok (.getfield 31, 3) := by decide +kernel
theorem dX10_isJoin_55 : decode cX10_isJoin 55 = .ok (.iload_n 2, 1) := by decide +kernel
theorem dX10_isJoin_56 : decode cX10_isJoin 56 = .ok (.iaload, 1) := by decide +kernel
theorem dX10_isJoin_57 : decode cX10_isJoin 57 = .ok (.if_icmp .ne 55, 3) := by decide +kernel
theorem dX10_isJoin_60 : decode cX10_isJoin 60 = .ok (.iload_n 3, 1) := by decide +kernel
theorem dX10_isJoin_61 : decode cX10_isJoin 61 = .ok (.aload_n 0, 1) := by decide +kernel
theorem dX10_isJoin_62 : decode cX10_isJoin 62 = .ok (.getfield 50, 3) := by decide +kernel
theorem dX10_isJoin_65 : decode cX10_isJoin 65 = .ok (.if_icmp .gt 47, 3) := by decide +kernel
theorem dX10_isJoin_68 : decode cX10_isJoin 68 = .ok (.aload_n 0, 1) := by decide +kernel
theorem dX10_isJoin_69 : decode cX10_isJoin 69 = .ok (.getfield 34, 3) := by decide +kernel
theorem dX10_isJoin_72 : decode cX10_isJoin 72 = .ok (.iload_n 2, 1) := by decide +kernel
theorem dX10_isJoin_73 : decode cX10_isJoin 73 = .ok (.iaload, 1) := by decide +kernel
theorem dX10_isJoin_74 : decode cX10_isJoin 74 = .ok (.aload_n 0, 1) := by decide +kernel
theorem dX10_isJoin_75 : decode cX10_isJoin 75 = .ok (.getfield 37, 3) := by decide +kernel
theorem dX10_isJoin_78 : decode cX10_isJoin 78 = .ok (.iload_n 1, 1) := by decide +kernel
theorem dX10_isJoin_79 : decode cX10_isJoin 79 = .ok (.iaload, 1) := by decide +kernel
theorem dX10_isJoin_80 : decode cX10_isJoin 80 = .ok (.isub, 1) := by decide +kernel
theorem dX10_isJoin_81 : decode cX10_isJoin 81 = .ok (.aload_n 0, 1) := by decide +kernel
theorem dX10_isJoin_82 : decode cX10_isJoin 82 = .ok (.getfield 54, 3) := by decide +kernel
theorem dX10_isJoin_85 : decode cX10_isJoin 85 = .ok (.if_icmp .gt 27, 3) := by decide +kernel
theorem dX10_isJoin_88 : decode cX10_isJoin 88 = .ok (.aload_n 0, 1) := by decide +kernel
theorem dX10_isJoin_89 : decode cX10_isJoin 89 = .ok (.getfield 34, 3) := by decide +kernel
theorem dX10_isJoin_92 : decode cX10_isJoin 92 = .ok (.iload_n 1, 1) := by decide +kernel
theorem dX10_isJoin_93 : decode cX10_isJoin 93 = .ok (.iaload, 1) := by decide +kernel
theorem dX10_isJoin_94 : decode cX10_isJoin 94 = .ok (.aload_n 0, 1) := by decide +kernel
theorem dX10_isJoin_95 : decode cX10_isJoin 95 = .ok (.getfield 37, 3) := by decide +kernel
theorem dX10_isJoin_98 : decode cX10_isJoin 98 = .ok (.iload_n 2, 1) := by decide +kernel
theorem dX10_isJoin_99 : decode cX10_isJoin 99 = .ok (.iaload, 1) := by decide +kernel
theorem dX10_isJoin_100 : decode cX10_isJoin 100 = .ok (.isub, 1) := by decide +kernel
theorem dX10_isJoin_101 : decode cX10_isJoin 101 = .ok (.aload_n 0, 1) := by decide +kernel
theorem dX10_isJoin_102 : decode cX10_isJoin 102 = .ok (.getfield 54, 3) := by decide +kernel
theorem dX10_isJoin_105 : decode cX10_isJoin 105 = .ok (.if_icmp .gt 7, 3) := by decide +kernel
theorem dX10_isJoin_108 : decode cX10_isJoin 108 = .ok (.iconst 1, 1) := by decide +kernel
theorem dX10_isJoin_109 : decode cX10_isJoin 109 = .ok (.goto 4, 3) := by decide +kernel
theorem dX10_isJoin_112 : decode cX10_isJoin 112 = .ok (.iconst 0, 1) := by decide +kernel
theorem dX10_isJoin_113 : decode cX10_isJoin 113 = .ok (.ireturn, 1) := by decide +kernel
theorem dX10_join_0 : decode cX10_join 0 = .ok (.aload_n 0, 1) := by decide +kernel
theorem dX10_join_1 : decode cX10_join 1 = .ok (.iconst 0, 1) := by decide +kernel
theorem dX10_join_2 : decode cX10_join 2 = .ok (.putfield 114, 3) := by decide +kernel
theorem dX10_join_5 : decode cX10_join 5 = .ok (.iconst 0, 1) := by decide +kernel
theorem dX10_join_6 : decode cX10_join 6 = .ok (.istore_n 1, 1) := by decide +kernel
theorem dX10_join_7 : decode cX10_join 7 = .ok (.iload_n 1, 1) := by decide +kernel
theorem dX10_join_8 : decode cX10_join 8 = .ok (.aload_n 0, 1) := by decide +kernel
theorem dX10_join_9 : decode cX10_join 9 = .ok (.getfield 105, 3) := by decide +kernel
theorem dX10_join_12 : decode cX10_join 12 = .ok (.if_icmp .ge 16, 3) := by decide +kernel
theorem dX10_join_15 : decode cX10_join 15 = .ok (.aload_n 0, 1) := by decide +kernel
theorem dX10_join_16 : decode cX10_join 16 = .ok (.getfield 57, 3) := by decide +kernel
theorem dX10_join_19 : decode cX10_join 19 = .ok (.iload_n 1, 1) := by decide +kernel
theorem dX10_join_20 : decode cX10_join 20 = .ok (.iconst (-1), 1) := by decide +kernel
theorem dX10_join_21 : decode cX10_join 21 = .ok (.iastore, 1) := by decide +kernel
theorem dX10_join_22 : decode cX10_join 22 = .ok (.iinc 1 1, 3) := by decide +kernel
theorem dX10_join_25 : decode cX10_join 25 = .ok (.goto (-18), 3) := by decide +kernel
theorem dX10_join_28 : decode cX10_join 28 = .ok (.iconst 0, 1) := by decide +kernel
theorem dX10_join_29 : decode cX10_join 29 = .ok (.istore_n 1, 1) := by decide +kernel
theorem dX10_join_30 : decode cX10_join 30 = .ok (.iload_n 1, 1) := by decide +kernel
theorem dX10_join_31 : decode cX10_join 31 = .ok (.aload_n 0, 1) := by decide +kernel
theorem dX10_join_32 : decode cX10_join 32 = .ok (.getfield 105, 3) := by decide +kernel
theorem dX10_join_35 : decode cX10_join 35 = .ok (.if_icmp .ge 69, 3) := by decide +kernel
theorem dX10_join_38 : decode cX10_join 38 = .ok (.aload_n 0, 1) := by decide +kernel
theorem dX10_join_39 : decode cX10_join 39 = .ok (.getfield 57, 3) := by decide +kernel
theorem dX10_join_42 : decode cX10_join 42 = .ok (.iload_n 1, 1) := by decide +kernel
theorem dX10_join_43 : decode cX10_join 43 = .ok (.iaload, 1) := by decide +kernel
theorem dX10_join_44 : decode cX10_join 44 = .ok (.ifCond .lt 6, 3) := by decide +kernel
theorem dX10_join_47 : decode cX10_join 47 = .ok (.goto 51, 3) := by decide +kernel
theorem dX10_join_50 : decode cX10_join 50 = .ok (.aload_n 0, 1) := by decide +kernel
theorem dX10_join_51 : decode cX10_join 51 = .ok (.getfield 57, 3) := by decide +kernel
theorem dX10_join_54 : decode cX10_join 54 = .ok (.iload_n 1, 1) := by decide +kernel
theorem dX10_join_55 : decode cX10_join 55 = .ok (.aload_n 0, 1) := by decide +kernel
theorem dX10_join_56 : decode cX10_join 56 = .ok (.getfield 114, 3) := by decide +kernel
theorem dX10_join_59 : decode cX10_join 59 = .ok (.iastore, 1) := by decide +kernel
theorem dX10_join_60 : decode cX10_join 60 = .ok (.aload_n 0, 1) := by decide +kernel
theorem dX10_join_61 : decode cX10_join 61 = .ok (.getfield 60, 3) := by decide +kernel
theorem dX10_join_64 : decode cX10_join 64 = .ok (.aload_n 0, 1) := by decide +kernel
theorem dX10_join_65 : decode cX10_join 65 = .ok (.getfield 114, 3) := by decide +kernel
theorem dX10_join_68 : decode cX10_join 68 = .ok (.iload_n 1, 1) := by decide +kernel
theorem dX10_join_69 : decode cX10_join 69 = .ok (.iastore, 1) := by decide +kernel
theorem dX10_join_70 : decode cX10_join 70 = .ok (.iconst 1, 1) := by decide +kernel
theorem dX10_join_71 : decode cX10_join 71 = .ok (.istore_n 2, 1) := by decide +kernel
theorem dX10_join_72 : decode cX10_join 72 = .ok (.iload_n 2, 1) := by decide +kernel
theorem dX10_join_73 : decode cX10_join 73 = .ok (.ifCond .eq 15, 3) := by decide +kernel
theorem dX10_join_76 : decode cX10_join 76 = .ok (.aload_n 0, 1) := by decide +kernel
theorem dX10_join_77 : decode cX10_join 77 = .ok (.aload_n 0, 1) := by decide +kernel
theorem dX10_join_78 : decode cX10_join 78 = .ok (.getfield 114, 3) := by decide +kernel
theorem dX10_join_81 : decode cX10_join 81 = .ok (.invokevirtual 117, 3) := by decide +kernel
theorem dX10_join_84 : decode cX10_join 84 = .ok (.istore_n 2, 1) := by decide +kernel
theorem dX10_join_85 : decode cX10_join 85 = .ok (.goto (-13), 3) := by decide +kernel
theorem dX10_join_88 : decode cX10_join 88 = .ok (.aload_n 0, 1) := by decide +kernel
theorem dX10_join_89 : decode cX10_join 89 = .ok (.dup, 1) := by decide +kernel
theorem dX10_join_90 : decode cX10_join 90 = .ok (.getfield 114, 3) := by decide +kernel
theorem dX10_join_93 : decode cX10_join 93 = .ok (.iconst 1, 1) := by decide +kernel
theorem dX10_join_94 : decode cX10_join 94 = .ok (.iadd, 1) := by decide +kernel
theorem dX10_join_95 : decode cX10_join 95 = .ok (.putfield 114, 3) := by decide +kernel
theorem dX10_join_98 : decode cX10_join 98 = .ok (.iinc 1 1, 3) := by decide +kernel
theorem dX10_join_101 : decode cX10_join 101 = .ok (.goto (-71), 3) := by decide +kernel
theorem dX10_join_104 : decode cX10_join 104 = .ok (.return_, 1) := by decide +kernel
theorem dX10_spreads_0 : decode cX10_spreads 0 = .ok (.iconst 0, 1) := by decide +kernel
theorem dX10_spreads_1 : decode cX10_spreads 1 = .ok (.istore_n 2, 1) := by decide +kernel
theorem dX10_spreads_2 : decode cX10_spreads 2 = .ok (.iconst 0, 1) := by decide +kernel
theorem dX10_spreads_3 : decode cX10_spreads 3 = .ok (.istore_n 3, 1) := by decide +kernel
theorem dX10_spreads_4 : decode cX10_spreads 4 = .ok (.iload_n 3, 1) := by decide +kernel
theorem dX10_spreads_5 : decode cX10_spreads 5 = .ok (.aload_n 0, 1) := by decide +kernel
theorem dX10_spreads_6 : decode cX10_spreads 6 = .ok (.getfield 105, 3) := by decide +kernel
theorem dX10_spreads_9 : decode cX10_spreads 9 = .ok (.if_icmp .ge 73, 3) := by decide +kernel
theorem dX10_spreads_12 : decode cX10_spreads 12 = .ok (.aload_n 0, 1) := by decide +kernel
theorem dX10_spreads_13 : decode cX10_spreads 13 = .ok (.getfield 57, 3) := by decide +kernel
theorem dX10_spreads_16 : decode cX10_spreads 16 = .ok (.iload_n 3, 1) := by decide +kernel
theorem dX10_spreads_17 : decode cX10_spreads 17 = .ok (.iaload, 1) := by decide +kernel
theorem dX10_spreads_18 : decode cX10_spreads 18 = .ok (.iload_n 1, 1) := by decide +kernel
theorem dX10_spreads_19 : decode cX10_spreads 19 = .ok (.if_icmp .eq 6, 3) := by decide +kernel
theorem dX10_spreads_22 : decode cX10_spreads 22 = .ok (.goto 54, 3) := by decide +kernel
theorem dX10_spreads_25 : decode cX10_spreads 25 = .ok (.iconst 0, 1) := by decide +kernel
theorem dX10_spreads_26 : decode cX10_spreads 26 = .ok (.istore 4, 2) := by decide +kernel
theorem dX10_spreads_28 : decode cX10_spreads 28 = .ok (.iload 4, 2) := by decide +kernel
theorem dX10_spreads_30 : decode cX10_spreads 30 = .ok (.aload_n 0, 1) := by decide +kernel
theorem dX10_spreads_31 : decode cX10_spreads 31 = .ok (.getfield 105, 3) := by decide +kernel
theorem dX10_spreads_34 : decode cX10_spreads 34 = .ok (.if_icmp .ge 42, 3) := by decide +kernel
theorem dX10_spreads_37 : decode cX10_spreads 37 = .ok (.aload_n 0, 1) := by decide +kernel
theorem dX10_spreads_38 : decode cX10_spreads 38 = .ok (.getfield 57, 3) := by decide +kernel
theorem dX10_spreads_41 : decode cX10_spreads 41 = .ok (.iload 4, 2) := by decide +kernel
theorem dX10_spreads_43 : decode cX10_spreads 43 = .ok (.iaload, 1) := by decide +kernel
theorem dX10_spreads_44 : decode cX10_spreads 44 = .ok (.ifCond .ge 26, 3) := by decide +kernel
theorem dX10_spreads_47 : decode cX10_spreads 47 = .ok (.aload_n 0, 1) := by decide +kernel
theorem dX10_spreads_48 : decode cX10_spreads 48 = .ok (.iload_n 3, 1) := by decide +kernel
theorem dX10_spreads_49 : decode cX10_spreads 49 = .ok (.iload 4, 2) := by decide +kernel
theorem dX10_spreads_51 : decode cX10_spreads 51 = .ok (.invokevirtual 120, 3) := by decide +kernel
theorem dX10_spreads_54 : decode cX10_spreads 54 = .ok (.ifCond .ne 6, 3) := by decide +kernel
theorem dX10_spreads_57 : decode cX10_spreads 57 = .ok (.goto 13, 3) := by decide +kernel
theorem dX10_spreads_60 : decode cX10_spreads 60 = .ok (.aload_n 0, 1) := by decide +kernel
theorem dX10_spreads_61 : decode cX10_spreads 61 = .ok (.getfield 57, 3) := by decide +kernel
theorem dX10_spreads_64 : decode cX10_spreads 64 = .ok (.iload 4, 2) := by decide +kernel
theorem dX10_spreads_66 : decode cX10_spreads 66 = .ok (.iload_n 1, 1) := by decide +kernel
theorem dX10_spreads_67 : decode cX10_spreads 67 = .ok (.iastore, 1) := by decide +kernel
theorem dX10_spreads_68 : decode cX10_spreads 68 = .ok (.iconst 1, 1) := by decide +kernel
theorem dX10_spreads_69 : decode cX10_spreads 69 = .ok (.istore_n 2, 1) := by decide +kernel
theorem dX10_spreads_70 : decode cX10_spreads 70 = .ok (.iinc 4 1, 3) := by decide +kernel
theorem dX10_spreads_73 : decode cX10_spreads 73 = .ok (.goto (-45), 3) := by decide +kernel
theorem dX10_spreads_76 : decode cX10_spreads 76 = .ok (.iinc 3 1, 3) := by decide +kernel
theorem dX10_spreads_79 : decode cX10_spreads 79 = .ok (.goto (-75), 3) := by decide +kernel
theorem dX10_spreads_82 : decode cX10_spreads 82 = .ok (.iload_n 2, 1) := by decide +kernel
theorem dX10_spreads_83 : decode cX10_spreads 83 = .ok (.ireturn, 1) := by decide +kernel
theorem dX10_senders_0 : decode cX10_senders 0 = .ok (.aload_n 0, 1) := by decide +kernel
theorem dX10_senders_1 : decode cX10_senders 1 = .ok (.invokevirtual 123, 3) := by decide +kernel
theorem dX10_senders_4 : decode cX10_senders 4 = .ok (.aload_n 0, 1) := by decide +kernel
theorem dX10_senders_5 : decode cX10_senders 5 = .ok (.getfield 114, 3) := by decide +kernel
theorem dX10_senders_8 : decode cX10_senders 8 = .ok (.ireturn, 1) := by decide +kernel
theorem dX10_senderOf_0 : decode cX10_senderOf 0 = .ok (.iload_n 1, 1) := by decide +kernel
theorem dX10_senderOf_1 : decode cX10_senderOf 1 = .ok (.iconst 0, 1) := by decide +kernel
theorem dX10_senderOf_2 : decode cX10_senderOf 2 = .ok (.aload_n 0, 1) := by decide +kernel
theorem dX10_senderOf_3 : decode cX10_senderOf 3 = .ok (.getfield 105, 3) := by decide +kernel
theorem dX10_senderOf_6 : decode cX10_senderOf 6 = .ok (.iconst 1, 1) := by decide +kernel
theorem dX10_senderOf_7 : decode cX10_senderOf 7 = .ok (.isub, 1) := by decide +kernel
theorem dX10_senderOf_8 : decode cX10_senderOf 8 = .ok (.invokestatic 87, 3) := by decide +kernel
theorem dX10_senderOf_11 : decode cX10_senderOf 11 = .ok (.ifCond .ne 5, 3) := by decide +kernel
theorem dX10_senderOf_14 : decode cX10_senderOf 14 = .ok (.iconst (-1), 1) := by decide +kernel
theorem dX10_senderOf_15 : decode cX10_senderOf 15 = .ok (.ireturn, 1) := by decide +kernel
theorem dX10_senderOf_16 : decode cX10_senderOf 16 = .ok (.aload_n 0, 1) := by decide +kernel
theorem dX10_senderOf_17 : decode cX10_senderOf 17 = .ok (.invokevirtual 123, 3) := by decide +kernel
theorem dX10_senderOf_20 : decode cX10_senderOf 20 = .ok (.aload_n 0, 1) := by decide +kernel
theorem dX10_senderOf_21 : decode cX10_senderOf 21 = .ok (.getfield 57, 3) := by decide +kernel
theorem dX10_senderOf_24 : decode cX10_senderOf 24 = .ok (.iload_n 1, 1) := by decide +kernel
theorem dX10_senderOf_25 : decode cX10_senderOf 25 = .ok (.iaload, 1) := by decide +kernel
theorem dX10_senderOf_26 : decode cX10_senderOf 26 = .ok (.ireturn, 1) := by decide +kernel
theorem dX10_isSender_0 : decode cX10_isSender 0 = .ok (.aload_n 0, 1) := by decide +kernel
theorem dX10_isSender_1 : decode cX10_isSender 1 = .ok (.invokevirtual 123, 3) := by decide +kernel
theorem dX10_isSender_4 : decode cX10_isSender 4 = .ok (.iload_n 1, 1) := by decide +kernel
theorem dX10_isSender_5 : decode cX10_isSender 5 = .ok (.iconst 0, 1) := by decide +kernel
theorem dX10_isSender_6 : decode cX10_isSender 6 = .ok (.aload_n 0, 1) := by decide +kernel
theorem dX10_isSender_7 : decode cX10_isSender 7 = .ok (.getfield 114, 3) := by decide +kernel
theorem dX10_isSender_10 : decode cX10_isSender 10 = .ok (.iconst 1, 1) := by decide +kernel
theorem dX10_isSender_11 : decode cX10_isSender 11 = .ok (.isub, 1) := by decide +kernel
theorem dX10_isSender_12 : decode cX10_isSender 12 = .ok (.invokestatic 87, 3) := by decide +kernel
theorem dX10_isSender_15 : decode cX10_isSender 15 = .ok (.ireturn, 1) := by decide +kernel
theorem dX10_liesIn_0 : decode cX10_liesIn 0 = .ok (.iload_n 2, 1) := by decide +kernel
theorem dX10_liesIn_1 : decode cX10_liesIn 1 = .ok (.aload_n 0, 1) := by decide +kernel
theorem dX10_liesIn_2 : decode cX10_liesIn 2 = .ok (.getfield 7, 3) := by decide +kernel
theorem dX10_liesIn_5 : decode cX10_liesIn 5 = .ok (.aload_n 0, 1) := by decide +kernel
theorem dX10_liesIn_6 : decode cX10_liesIn 6 = .ok (.getfield 28, 3) := by decide +kernel
theorem dX10_liesIn_9 : decode cX10_liesIn 9 = .ok (.iload_n 1, 1) := by decide +kernel
theorem dX10_liesIn_10 : decode cX10_liesIn 10 = .ok (.iaload, 1) := by decide +kernel
theorem dX10_liesIn_11 : decode cX10_liesIn 11 = .ok (.iaload, 1) := by decide +kernel
theorem dX10_liesIn_12 : decode cX10_liesIn 12 = .ok (.isub, 1) := by decide +kernel
theorem dX10_liesIn_13 : decode cX10_liesIn 13 = .ok (.istore 4, 2) := by decide +kernel
theorem dX10_liesIn_15 : decode cX10_liesIn 15 = .ok (.iload_n 3, 1) := by decide +kernel
theorem dX10_liesIn_16 : decode cX10_liesIn 16 = .ok (.aload_n 0, 1) := by decide +kernel
theorem dX10_liesIn_17 : decode cX10_liesIn 17 = .ok (.getfield 13, 3) := by decide +kernel
theorem dX10_liesIn_20 : decode cX10_liesIn 20 = .ok (.aload_n 0, 1) := by decide +kernel
theorem dX10_liesIn_21 : decode cX10_liesIn 21 = .ok (.getfield 28, 3) := by decide +kernel
theorem dX10_liesIn_24 : decode cX10_liesIn 24 = .ok (.iload_n 1, 1) := by decide +kernel
theorem dX10_liesIn_25 : decode cX10_liesIn 25 = .ok (.iaload, 1) := by decide +kernel
theorem dX10_liesIn_26 : decode cX10_liesIn 26 = .ok (.iaload, 1) := by decide +kernel
theorem dX10_liesIn_27 : decode cX10_liesIn 27 = .ok (.isub, 1) := by decide +kernel
theorem dX10_liesIn_28 : decode cX10_liesIn 28 = .ok (.istore 5, 2) := by decide +kernel
theorem dX10_liesIn_30 : decode cX10_liesIn 30 = .ok (.aload_n 0, 1) := by decide +kernel
theorem dX10_liesIn_31 : decode cX10_liesIn 31 = .ok (.getfield 47, 3) := by decide +kernel
theorem dX10_liesIn_34 : decode cX10_liesIn 34 = .ok (.iconst 4, 1) := by decide +kernel
theorem dX10_liesIn_35 : decode cX10_liesIn 35 = .ok (.iload_n 1, 1) := by decide +kernel
theorem dX10_liesIn_36 : decode cX10_liesIn 36 = .ok (.imul, 1) := by decide +kernel
theorem dX10_liesIn_37 : decode cX10_liesIn 37 = .ok (.iaload, 1) := by decide +kernel
theorem dX10_liesIn_38 : decode cX10_liesIn 38 = .ok (.iload 5, 2) := by decide +kernel
theorem dX10_liesIn_40 : decode cX10_liesIn 40 = .ok (.imul, 1) := by decide +kernel
theorem dX10_liesIn_41 : decode cX10_liesIn 41 = .ok (.aload_n 0, 1) := by decide +kernel
theorem dX10_liesIn_42 : decode cX10_liesIn 42 = .ok (.getfield 47, 3) := by decide +kernel
theorem dX10_liesIn_45 : decode cX10_liesIn 45 = .ok (.iconst 4, 1) := by decide +kernel
theorem dX10_liesIn_46 : decode cX10_liesIn 46 = .ok (.iload_n 1, 1) := by decide +kernel
theorem dX10_liesIn_47 : decode cX10_liesIn 47 = .ok (.imul, 1) := by decide +kernel
theorem dX10_liesIn_48 : decode cX10_liesIn 48 = .ok (.iconst 1, 1) := by decide +kernel
theorem dX10_liesIn_49 : decode cX10_liesIn 49 = .ok (.iadd, 1) := by decide +kernel
theorem dX10_liesIn_50 : decode cX10_liesIn 50 = .ok (.iaload, 1) := by decide +kernel
theorem dX10_liesIn_51 : decode cX10_liesIn 51 = .ok (.iload 4, 2) := by decide +kernel
theorem dX10_liesIn_53 : decode cX10_liesIn 53 = .ok (.imul, 1) := by decide +kernel
theorem dX10_liesIn_54 : decode cX10_liesIn 54 = .ok (.isub, 1) := by decide +kernel
theorem dX10_liesIn_55 : decode cX10_liesIn 55 = .ok (.ifCond .lt 37, 3) := by decide +kernel
theorem dX10_liesIn_58 : decode cX10_liesIn 58 = .ok (.iload 4, 2) := by decide +kernel
theorem dX10_liesIn_60 : decode cX10_liesIn 60 = .ok (.aload_n 0, 1) := by decide +kernel
theorem dX10_liesIn_61 : decode cX10_liesIn 61 = .ok (.getfield 47, 3) := by decide +kernel
theorem dX10_liesIn_64 : decode cX10_liesIn 64 = .ok (.iconst 4, 1) := by decide +kernel
theorem dX10_liesIn_65 : decode cX10_liesIn 65 = .ok (.iload_n 1, 1) := by decide +kernel
theorem dX10_liesIn_66 : decode cX10_liesIn 66 = .ok (.imul, 1) := by decide +kernel
theorem dX10_liesIn_67 : decode cX10_liesIn 67 = .ok (.iconst 3, 1) := by decide +kernel
theorem dX10_liesIn_68 : decode cX10_liesIn 68 = .ok (.iadd, 1) := by decide +kernel
theorem dX10_liesIn_69 : decode cX10_liesIn 69 = .ok (.iaload, 1) := by decide +kernel
theorem dX10_liesIn_70 : decode cX10_liesIn 70 = .ok (.imul, 1) := by decide +kernel
theorem dX10_liesIn_71 : decode cX10_liesIn 71 = .ok (.iload 5, 2) := by decide +kernel
theorem dX10_liesIn_73 : decode cX10_liesIn 73 = .ok (.aload_n 0, 1) := by decide +kernel
theorem dX10_liesIn_74 : decode cX10_liesIn 74 = .ok (.getfield 47, 3) := by decide +kernel
theorem dX10_liesIn_77 : decode cX10_liesIn 77 = .ok (.iconst 4, 1) := by decide +kernel
theorem dX10_liesIn_78 : decode cX10_liesIn 78 = .ok (.iload_n 1, 1) := by decide +kernel
theorem dX10_liesIn_79 : decode cX10_liesIn 79 = .ok (.imul, 1) := by decide +kernel
theorem dX10_liesIn_80 : decode cX10_liesIn 80 = .ok (.iconst 2, 1) := by decide +kernel
theorem dX10_liesIn_81 : decode cX10_liesIn 81 = .ok (.iadd, 1) := by decide +kernel
theorem dX10_liesIn_82 : decode cX10_liesIn 82 = .ok (.iaload, 1) := by decide +kernel
theorem dX10_liesIn_83 : decode cX10_liesIn 83 = .ok (.imul, 1) := by decide +kernel
theorem dX10_liesIn_84 : decode cX10_liesIn 84 = .ok (.isub, 1) := by decide +kernel
theorem dX10_liesIn_85 : decode cX10_liesIn 85 = .ok (.ifCond .lt 7, 3) := by decide +kernel
theorem dX10_liesIn_88 : decode cX10_liesIn 88 = .ok (.iconst 1, 1) := by decide +kernel
theorem dX10_liesIn_89 : decode cX10_liesIn 89 = .ok (.goto 4, 3) := by decide +kernel
theorem dX10_liesIn_92 : decode cX10_liesIn 92 = .ok (.iconst 0, 1) := by decide +kernel
theorem dX10_liesIn_93 : decode cX10_liesIn 93 = .ok (.ireturn, 1) := by decide +kernel
theorem dX10_isPlace_0 : decode cX10_isPlace 0 = .ok (.iconst 0, 1) := by decide +kernel
theorem dX10_isPlace_1 : decode cX10_isPlace 1 = .ok (.istore_n 3, 1) := by decide +kernel
theorem dX10_isPlace_2 : decode cX10_isPlace 2 = .ok (.iload_n 3, 1) := by decide +kernel
theorem dX10_isPlace_3 : decode cX10_isPlace 3 = .ok (.aload_n 0, 1) := by decide +kernel
theorem dX10_isPlace_4 : decode cX10_isPlace 4 = .ok (.getfield 105, 3) := by decide +kernel
theorem dX10_isPlace_7 : decode cX10_isPlace 7 = .ok (.if_icmp .ge 46, 3) := by decide +kernel
theorem dX10_isPlace_10 : decode cX10_isPlace 10 = .ok (.aload_n 0, 1) := by decide +kernel
theorem dX10_isPlace_11 : decode cX10_isPlace 11 = .ok (.getfield 57, 3) := by decide +kernel
theorem dX10_isPlace_14 : decode cX10_isPlace 14 = .ok (.iload_n 3, 1) := by decide +kernel
theorem dX10_isPlace_15 : decode cX10_isPlace 15 = .ok (.iaload, 1) := by decide +kernel
theorem dX10_isPlace_16 : decode cX10_isPlace 16 = .ok (.iload_n 1, 1) := by decide +kernel
theorem dX10_isPlace_17 : decode cX10_isPlace 17 = .ok (.if_icmp .ne 30, 3) := by decide +kernel
theorem dX10_isPlace_20 : decode cX10_isPlace 20 = .ok (.aload_n 0, 1) := by decide +kernel
theorem dX10_isPlace_21 : decode cX10_isPlace 21 = .ok (.getfield 43, 3) := by decide +kernel
theorem dX10_isPlace_24 : decode cX10_isPlace 24 = .ok (.iload_n 3, 1) := by decide +kernel
theorem dX10_isPlace_25 : decode cX10_isPlace 25 = .ok (.baload, 1) := by decide +kernel
theorem dX10_isPlace_26 : decode cX10_isPlace 26 = .ok (.ifCond .eq 21, 3) := by decide +kernel
theorem dX10_isPlace_29 : decode cX10_isPlace 29 = .ok (.aload_n 0, 1) := by decide +kernel
theorem dX10_isPlace_30 : decode cX10_isPlace 30 = .ok (.iload_n 3, 1) := by decide +kernel
theorem dX10_isPlace_31 : decode cX10_isPlace 31 = .ok (.iload_n 2, 1) := by decide +kernel
theorem dX10_isPlace_32 : decode cX10_isPlace 32 = .ok (.bipush 32, 2) := by decide +kernel
theorem dX10_isPlace_34 : decode cX10_isPlace 34 = .ok (.irem, 1) := by decide +kernel
theorem dX10_isPlace_35 : decode cX10_isPlace 35 = .ok (.iload_n 2, 1) := by decide +kernel
theorem dX10_isPlace_36 : decode cX10_isPlace 36 = .ok (.bipush 32, 2) := by decide +kernel
theorem dX10_isPlace_38 : decode cX10_isPlace 38 = .ok (.idiv, 1) := by decide +kernel
theorem dX10_isPlace_39 : decode cX10_isPlace 39 = .ok (.invokevirtual 126, 3) := by decide +kernel
theorem dX10_isPlace_42 : decode cX10_isPlace 42 = .ok (.ifCond .ne 5, 3) := by decide +kernel
theorem dX10_isPlace_45 : decode cX10_isPlace 45 = .ok (.iconst 0, 1) := by decide +kernel
theorem dX10_isPlace_46 : decode cX10_isPlace 46 = .ok (.ireturn, 1) := by decide +kernel
theorem dX10_isPlace_47 : decode cX10_isPlace 47 = .ok (.iinc 3 1, 3) := by decide +kernel
theorem dX10_isPlace_50 : decode cX10_isPlace 50 = .ok (.goto (-48), 3) := by decide +kernel
theorem dX10_isPlace_53 : decode cX10_isPlace 53 = .ok (.iconst 1, 1) := by decide +kernel
theorem dX10_isPlace_54 : decode cX10_isPlace 54 = .ok (.ireturn, 1) := by decide +kernel
theorem dX10_sender_0 : decode cX10_sender 0 = .ok (.aload_n 0, 1) := by decide +kernel
theorem dX10_sender_1 : decode cX10_sender 1 = .ok (.iload_n 1, 1) := by decide +kernel
theorem dX10_sender_2 : decode cX10_sender 2 = .ok (.invokevirtual 129, 3) := by decide +kernel
theorem dX10_sender_5 : decode cX10_sender 5 = .ok (.ifCond .eq 13, 3) := by decide +kernel
theorem dX10_sender_8 : decode cX10_sender 8 = .ok (.iload_n 2, 1) := by decide +kernel
theorem dX10_sender_9 : decode cX10_sender 9 = .ok (.iconst 0, 1) := by decide +kernel
theorem dX10_sender_10 : decode cX10_sender 10 = .ok (.bipush 8, 2) := by decide +kernel
theorem dX10_sender_12 : decode cX10_sender 12 = .ok (.invokestatic 87, 3) := by decide +kernel
theorem dX10_sender_15 : decode cX10_sender 15 = .ok (.ifCond .ne 5, 3) := by decide +kernel
theorem dX10_sender_18 : decode cX10_sender 18 = .ok (.iconst (-1), 1) := by decide +kernel
theorem dX10_sender_19 : decode cX10_sender 19 = .ok (.ireturn, 1) := by decide +kernel
theorem dX10_sender_20 : decode cX10_sender 20 = .ok (.aload_n 0, 1) := by decide +kernel
theorem dX10_sender_21 : decode cX10_sender 21 = .ok (.getfield 60, 3) := by decide +kernel
theorem dX10_sender_24 : decode cX10_sender 24 = .ok (.iload_n 1, 1) := by decide +kernel
theorem dX10_sender_25 : decode cX10_sender 25 = .ok (.iaload, 1) := by decide +kernel
theorem dX10_sender_26 : decode cX10_sender 26 = .ok (.istore_n 3, 1) := by decide +kernel
theorem dX10_sender_27 : decode cX10_sender 27 = .ok (.iload_n 2, 1) := by decide +kernel
theorem dX10_sender_28 : decode cX10_sender 28 = .ok (.ifCond .ne 5, 3) := by decide +kernel
theorem dX10_sender_31 : decode cX10_sender 31 = .ok (.iload_n 3, 1) := by decide +kernel
theorem dX10_sender_32 : decode cX10_sender 32 = .ok (.ireturn, 1) := by decide +kernel
theorem dX10_sender_33 : decode cX10_sender 33 = .ok (.iload_n 2, 1) := by decide +kernel
theorem dX10_sender_34 : decode cX10_sender 34 = .ok (.iconst 2, 1) := by decide +kernel
theorem dX10_sender_35 : decode cX10_sender 35 = .ok (.if_icmp .ne 10, 3) := by decide +kernel
theorem dX10_sender_38 : decode cX10_sender 38 = .ok (.aload_n 0, 1) := by decide +kernel
theorem dX10_sender_39 : decode cX10_sender 39 = .ok (.getfield 31, 3) := by decide +kernel
theorem dX10_sender_42 : decode cX10_sender 42 = .ok (.iload_n 3, 1) := by decide +kernel
theorem dX10_sender_43 : decode cX10_sender 43 = .ok (.iaload, 1) := by decide +kernel
theorem dX10_sender_44 : decode cX10_sender 44 = .ok (.ireturn, 1) := by decide +kernel
theorem dX10_sender_45 : decode cX10_sender 45 = .ok (.iconst 0, 1) := by decide +kernel
theorem dX10_sender_46 : decode cX10_sender 46 = .ok (.istore 4, 2) := by decide +kernel
theorem dX10_sender_48 : decode cX10_sender 48 = .ok (.iload_n 2, 1) := by decide +kernel
theorem dX10_sender_49 : decode cX10_sender 49 = .ok (.bipush 7, 2) := by decide +kernel
theorem dX10_sender_51 : decode cX10_sender 51 = .ok (.if_icmp .ne 43, 3) := by decide +kernel
theorem dX10_sender_54 : decode cX10_sender 54 = .ok (.iconst 0, 1) := by decide +kernel
theorem dX10_sender_55 : decode cX10_sender 55 = .ok (.istore 5, 2) := by decide +kernel
theorem dX10_sender_57 : decode cX10_sender 57 = .ok (.iload 5, 2) := by decide +kernel
theorem dX10_sender_59 : decode cX10_sender 59 = .ok (.sipush 1024, 3) := by decide +kernel
theorem dX10_sender_62 : decode cX10_sender 62 = .ok (.if_icmp .ge 29, 3) := by decide +kernel
theorem dX10_sender_65 : decode cX10_sender 65 = .ok (.iload 4, 2) := by decide +kernel
theorem dX10_sender_67 : decode cX10_sender 67 = .ok (.aload_n 0, 1) := by decide +kernel
theorem dX10_sender_68 : decode cX10_sender 68 = .ok (.iload_n 1, 1) := by decide +kernel
theorem dX10_sender_69 : decode cX10_sender 69 = .ok (.iload 5, 2) := by decide +kernel
theorem dX10_sender_71 : decode cX10_sender 71 = .ok (.invokevirtual 132, 3) := by decide +kernel
theorem dX10_sender_74 : decode cX10_sender 74 = .ok (.ifCond .eq 7, 3) := by decide +kernel
theorem dX10_sender_77 : decode cX10_sender 77 = .ok (.iconst 1, 1) := by decide +kernel
theorem dX10_sender_78 : decode cX10_sender 78 = .ok (.goto 4, 3) := by decide +kernel
theorem dX10_sender_81 : decode cX10_sender 81 = .ok (.iconst 0, 1) := by decide +kernel
theorem dX10_sender_82 : decode cX10_sender 82 = .ok (.iadd, 1) := by decide +kernel
theorem dX10_sender_83 : decode cX10_sender 83 = .ok (.istore 4, 2) := by decide +kernel
theorem dX10_sender_85 : decode cX10_sender 85 = .ok (.iinc 5 1, 3) := by decide +kernel
theorem dX10_sender_88 : decode cX10_sender 88 = .ok (.goto (-31), 3) := by decide +kernel
theorem dX10_sender_91 : decode cX10_sender 91 = .ok (.iload 4, 2) := by decide +kernel
theorem dX10_sender_93 : decode cX10_sender 93 = .ok (.ireturn, 1) := by decide +kernel
theorem dX10_sender_94 : decode cX10_sender 94 = .ok (.iconst 0, 1) := by decide +kernel
theorem dX10_sender_95 : decode cX10_sender 95 = .ok (.istore 5, 2) := by decide +kernel
theorem dX10_sender_97 : decode cX10_sender 97 = .ok (.iload_n 2, 1) := by decide +kernel
theorem dX10_sender_98 : decode cX10_sender 98 = .ok (.iconst 3, 1) := by decide +kernel
theorem dX10_sender_99 : decode cX10_sender 99 = .ok (.if_icmp .ne 12, 3) := by decide +kernel
theorem dX10_sender_102 : decode cX10_sender 102 = .ok (.aload_n 0, 1) := by decide +kernel
theorem dX10_sender_103 : decode cX10_sender 103 = .ok (.getfield 34, 3) := by decide +kernel
theorem dX10_sender_106 : decode cX10_sender 106 = .ok (.iload_n 3, 1) := by decide +kernel
theorem dX10_sender_107 : decode cX10_sender 107 = .ok (.iaload, 1) := by decide +kernel
theorem dX10_sender_108 : decode cX10_sender 108 = .ok (.goto 23, 3) := by decide +kernel
theorem dX10_sender_111 : decode cX10_sender 111 = .ok (.iload_n 2, 1) := by decide +kernel
theorem dX10_sender_112 : decode cX10_sender 112 = .ok (.iconst 4, 1) := by decide +kernel
theorem dX10_sender_113 : decode cX10_sender 113 = .ok (.if_icmp .ne 12, 3) := by decide +kernel
theorem dX10_sender_116 : decode cX10_sender 116 = .ok (.aload_n 0, 1) := by decide +kernel
theorem dX10_sender_117 : decode cX10_sender 117 = .ok (.getfield 37, 3) := by decide +kernel
theorem dX10_sender_120 : decode cX10_sender 120 = .ok (.iload_n 3, 1) := by decide +kernel
theorem dX10_sender_121 : decode cX10_sender 121 = .ok (.iaload, 1) := by decide +kernel
theorem dX10_sender_122 : decode cX10_sender 122 = .ok (.goto 9, 3) := by decide +kernel
theorem dX10_sender_125 : decode cX10_sender 125 = .ok (.aload_n 0, 1) := by decide +kernel
theorem dX10_sender_126 : decode cX10_sender 126 = .ok (.getfield 40, 3) := by decide +kernel
theorem dX10_sender_129 : decode cX10_sender 129 = .ok (.iload_n 3, 1) := by decide +kernel
theorem dX10_sender_130 : decode cX10_sender 130 = .ok (.iaload, 1) := by decide +kernel
theorem dX10_sender_131 : decode cX10_sender 131 = .ok (.istore 6, 2) := by decide +kernel
theorem dX10_sender_133 : decode cX10_sender 133 = .ok (.iconst 0, 1) := by decide +kernel
theorem dX10_sender_134 : decode cX10_sender 134 = .ok (.istore 7, 2) := by decide +kernel
theorem dX10_sender_136 : decode cX10_sender 136 = .ok (.iload 7, 2) := by decide +kernel
theorem dX10_sender_138 : decode cX10_sender 138 = .ok (.aload_n 0, 1) := by decide +kernel
theorem dX10_sender_139 : decode cX10_sender 139 = .ok (.getfield 105, 3) := by decide +kernel
theorem dX10_sender_142 : decode cX10_sender 142 = .ok (.if_icmp .ge 110, 3) := by decide +kernel
theorem dX10_sender_145 : decode cX10_sender 145 = .ok (.aload_n 0, 1) := by decide +kernel
theorem dX10_sender_146 : decode cX10_sender 146 = .ok (.getfield 57, 3) := by decide +kernel
theorem dX10_sender_149 : decode cX10_sender 149 = .ok (.iload 7, 2) := by decide +kernel
theorem dX10_sender_151 : decode cX10_sender 151 = .ok (.iaload, 1) := by decide +kernel
theorem dX10_sender_152 : decode cX10_sender 152 = .ok (.iload_n 1, 1) := by decide +kernel
theorem dX10_sender_153 : decode cX10_sender 153 = .ok (.if_icmp .eq 6, 3) := by decide +kernel
theorem dX10_sender_156 : decode cX10_sender 156 = .ok (.goto 90, 3) := by decide +kernel
theorem dX10_sender_159 : decode cX10_sender 159 = .ok (.iinc 4 1, 3) := by decide +kernel
theorem dX10_sender_162 : decode cX10_sender 162 = .ok (.iload 5, 2) := by decide +kernel
theorem dX10_sender_164 : decode cX10_sender 164 = .ok (.iconst 1, 1) := by decide +kernel
theorem dX10_sender_165 : decode cX10_sender 165 = .ok (.aload_n 0, 1) := by decide +kernel
theorem dX10_sender_166 : decode cX10_sender 166 = .ok (.getfield 28, 3) := by decide +kernel
theorem dX10_sender_169 : decode cX10_sender 169 = .ok (.iload 7, 2) := by decide +kernel
theorem dX10_sender_171 : decode cX10_sender 171 = .ok (.iaload, 1) := by decide +kernel
theorem dX10_sender_172 : decode cX10_sender 172 = .ok (.ishl, 1) := by decide +kernel
theorem dX10_sender_173 : decode cX10_sender 173 = .ok (.ior, 1) := by decide +kernel
theorem dX10_sender_174 : decode cX10_sender 174 = .ok (.istore 5, 2) := by decide +kernel
theorem dX10_sender_176 : decode cX10_sender 176 = .ok (.iload_n 2, 1) := by decide +kernel
theorem dX10_sender_177 : decode cX10_sender 177 = .ok (.iconst 3, 1) := by decide +kernel
theorem dX10_sender_178 : decode cX10_sender 178 = .ok (.if_icmp .ne 13, 3) := by decide +kernel
theorem dX10_sender_181 : decode cX10_sender 181 = .ok (.aload_n 0, 1) := by decide +kernel
theorem dX10_sender_182 : decode cX10_sender 182 = .ok (.getfield 34, 3) := by decide +kernel
theorem dX10_sender_185 : decode cX10_sender 185 = .ok (.iload 7, 2) := by decide +kernel
theorem dX10_sender_187 : decode cX10_sender 187 = .ok (.iaload, 1) := by decide +kernel
theorem dX10_sender_188 : decode cX10_sender 188 = .ok (.goto 25, 3) := by decide +kernel
theorem dX10_sender_191 : decode cX10_sender 191 = .ok (.iload_n 2, 1) := by decide +kernel
theorem dX10_sender_192 : decode cX10_sender 192 = .ok (.iconst 4, 1) := by decide +kernel
theorem dX10_sender_193 : decode cX10_sender 193 = .ok (.if_icmp .ne 13, 3) := by decide +kernel
theorem dX10_sender_196 : decode cX10_sender 196 = .ok (.aload_n 0, 1) := by decide +kernel
theorem dX10_sender_197 : decode cX10_sender 197 = .ok (.getfield 37, 3) := by decide +kernel
theorem dX10_sender_200 : decode cX10_sender 200 = .ok (.iload 7, 2) := by decide +kernel
theorem dX10_sender_202 : decode cX10_sender 202 = .ok (.iaload, 1) := by decide +kernel
theorem dX10_sender_203 : decode cX10_sender 203 = .ok (.goto 10, 3) := by decide +kernel
theorem dX10_sender_206 : decode cX10_sender 206 = .ok (.aload_n 0, 1) := by decide +kernel
theorem dX10_sender_207 : decode cX10_sender 207 = .ok (.getfield 40, 3) := by decide +kernel
theorem dX10_sender_210 : decode cX10_sender 210 = .ok (.iload 7, 2) := by decide +kernel
theorem dX10_sender_212 : decode cX10_sender 212 = .ok (.iaload, 1) := by decide +kernel
theorem dX10_sender_213 : decode cX10_sender 213 = .ok (.istore 8, 2) := by decide +kernel
theorem dX10_sender_215 : decode cX10_sender 215 = .ok (.iload_n 2, 1) := by decide +kernel
theorem dX10_sender_216 : decode cX10_sender 216 = .ok (.iconst 3, 1) := by decide +kernel
theorem dX10_sender_217 : decode cX10_sender 217 = .ok (.if_icmp .eq 8, 3) := by decide +kernel
theorem dX10_sender_220 : decode cX10_sender 220 = .ok (.iload_n 2, 1) := by decide +kernel
theorem dX10_sender_221 : decode cX10_sender 221 = .ok (.iconst 5, 1) := by decide +kernel
theorem dX10_sender_222 : decode cX10_sender 222 = .ok (.if_icmp .ne 13, 3) := by decide +kernel
theorem dX10_sender_225 : decode cX10_sender 225 = .ok (.iload 8, 2) := by decide +kernel
theorem dX10_sender_227 : decode cX10_sender 227 = .ok (.iload 6, 2) := by decide +kernel
theorem dX10_sender_229 : decode cX10_sender 229 = .ok (.if_icmp .ge 17, 3) := by decide +kernel
theorem dX10_sender_232 : decode cX10_sender 232 = .ok (.goto 10, 3) := by decide +kernel
theorem dX10_sender_235 : decode cX10_sender 235 = .ok (.iload 8, 2) := by decide +kernel
theorem dX10_sender_237 : decode cX10_sender 237 = .ok (.iload 6, 2) := by decide +kernel
theorem dX10_sender_239 : decode cX10_sender 239 = .ok (.if_icmp .le 7, 3) := by decide +kernel
theorem dX10_sender_242 : decode cX10_sender 242 = .ok (.iload 8, 2) := by decide +kernel
theorem dX10_sender_244 : decode cX10_sender 244 = .ok (.istore 6, 2) := by decide +kernel
theorem dX10_sender_246 : decode cX10_sender 246 = .ok (.iinc 7 1, 3) := by decide +kernel
theorem dX10_sender_249 : decode cX10_sender 249 = .ok (.goto (-113), 3) := by decide +kernel
theorem dX10_sender_252 : decode cX10_sender 252 = .ok (.iload_n 2, 1) := by decide +kernel
theorem dX10_sender_253 : decode cX10_sender 253 = .ok (.iconst 1, 1) := by decide +kernel
theorem dX10_sender_254 : decode cX10_sender 254 = .ok (.if_icmp .ne 6, 3) := by decide +kernel
theorem dX10_sender_257 : decode cX10_sender 257 = .ok (.iload 4, 2) := by decide +kernel
theorem dX10_sender_259 : decode cX10_sender 259 = .ok (.ireturn, 1) := by decide +kernel
theorem dX10_sender_260 : decode cX10_sender 260 = .ok (.iload_n 2, 1) := by decide +kernel
theorem dX10_sender_261 : decode cX10_sender 261 = .ok (.bipush 8, 2) := by decide +kernel
theorem dX10_sender_263 : decode cX10_sender 263 = .ok (.if_icmp .eq 6, 3) := by decide +kernel
theorem dX10_sender_266 : decode cX10_sender 266 = .ok (.iload 6, 2) := by decide +kernel
theorem dX10_sender_268 : decode cX10_sender 268 = .ok (.ireturn, 1) := by decide +kernel
theorem dX10_sender_269 : decode cX10_sender 269 = .ok (.iconst 0, 1) := by decide +kernel
theorem dX10_sender_270 : decode cX10_sender 270 = .ok (.istore 7, 2) := by decide +kernel
theorem dX10_sender_272 : decode cX10_sender 272 = .ok (.iconst 0, 1) := by decide +kernel
theorem dX10_sender_273 : decode cX10_sender 273 = .ok (.istore 8, 2) := by decide +kernel
end
section
theorem dX10_sender_275 : decode cX10_sender 275 = .ok (.iload 8, 2) := by decide +kernel
theorem dX10_sender_277 : decode cX10_sender 277 = .ok (.aload_n 0, 1) := by decide +kernel
theorem dX10_sender_278 : decode cX10_sender 278 = .ok (.getfield 91, 3) := by decide +kernel
theorem dX10_sender_281 : decode cX10_sender 281 = .ok (.if_icmp .ge 21, 3) := by decide +kernel
theorem dX10_sender_284 : decode cX10_sender 284 = .ok (.iload 7, 2) := by decide +kernel
theorem dX10_sender_286 : decode cX10_sender 286 = .ok (.iload 5, 2) := by decide +kernel
theorem dX10_sender_288 : decode cX10_sender 288 = .ok (.iload 8, 2) := by decide +kernel
theorem dX10_sender_290 : decode cX10_sender 290 = .ok (.ishr, 1) := by decide +kernel
theorem dX10_sender_291 : decode cX10_sender 291 = .ok (.iconst 1, 1) := by decide +kernel
theorem dX10_sender_292 : decode cX10_sender 292 = .ok (.iand, 1) := by decide +kernel
theorem dX10_sender_293 : decode cX10_sender 293 = .ok (.iadd, 1) := by decide +kernel
theorem dX10_sender_294 : decode cX10_sender 294 = .ok (.istore 7, 2) := by decide +kernel
theorem dX10_sender_296 : decode cX10_sender 296 = .ok (.iinc 8 1, 3) := by decide +kernel
theorem dX10_sender_299 : decode cX10_sender 299 = .ok (.goto (-24), 3) := by decide +kernel
theorem dX10_sender_302 : decode cX10_sender 302 = .ok (.iload 7, 2) := by decide +kernel
theorem dX10_sender_304 : decode cX10_sender 304 = .ok (.ireturn, 1) := by decide +kernel
theorem dX10_place_0 : decode cX10_place 0 = .ok (.aload_n 0, 1) := by decide +kernel
theorem dX10_place_1 : decode cX10_place 1 = .ok (.iload_n 1, 1) := by decide +kernel
theorem dX10_place_2 : decode cX10_place 2 = .ok (.invokevirtual 129, 3) := by decide +kernel
theorem dX10_place_5 : decode cX10_place 5 = .ok (.ifCond .eq 7, 3) := by decide +kernel
theorem dX10_place_8 : decode cX10_place 8 = .ok (.iload_n 2, 1) := by decide +kernel
theorem dX10_place_9 : decode cX10_place 9 = .ok (.ifCond .ge 5, 3) := by decide +kernel
theorem dX10_place_12 : decode cX10_place 12 = .ok (.iconst (-1), 1) := by decide +kernel
theorem dX10_place_13 : decode cX10_place 13 = .ok (.ireturn, 1) := by decide +kernel
theorem dX10_place_14 : decode cX10_place 14 = .ok (.iload_n 2, 1) := by decide +kernel
theorem dX10_place_15 : decode cX10_place 15 = .ok (.istore_n 3, 1) := by decide +kernel
theorem dX10_place_16 : decode cX10_place 16 = .ok (.iconst 0, 1) := by decide +kernel
theorem dX10_place_17 : decode cX10_place 17 = .ok (.istore 4, 2) := by decide +kernel
theorem dX10_place_19 : decode cX10_place 19 = .ok (.iload 4, 2) := by decide +kernel
theorem dX10_place_21 : decode cX10_place 21 = .ok (.sipush 1024, 3) := by decide +kernel
theorem dX10_place_24 : decode cX10_place 24 = .ok (.if_icmp .ge 32, 3) := by decide +kernel
theorem dX10_place_27 : decode cX10_place 27 = .ok (.aload_n 0, 1) := by decide +kernel
theorem dX10_place_28 : decode cX10_place 28 = .ok (.iload_n 1, 1) := by decide +kernel
theorem dX10_place_29 : decode cX10_place 29 = .ok (.iload 4, 2) := by decide +kernel
theorem dX10_place_31 : decode cX10_place 31 = .ok (.invokevirtual 132, 3) := by decide +kernel
theorem dX10_place_34 : decode cX10_place 34 = .ok (.ifCond .ne 6, 3) := by decide +kernel
theorem dX10_place_37 : decode cX10_place 37 = .ok (.goto 13, 3) := by decide +kernel
theorem dX10_place_40 : decode cX10_place 40 = .ok (.iload_n 3, 1) := by decide +kernel
theorem dX10_place_41 : decode cX10_place 41 = .ok (.ifCond .ne 6, 3) := by decide +kernel
theorem dX10_place_44 : decode cX10_place 44 = .ok (.iload 4, 2) := by decide +kernel
theorem dX10_place_46 : decode cX10_place 46 = .ok (.ireturn, 1) := by decide +kernel
theorem dX10_place_47 : decode cX10_place 47 = .ok (.iinc 3 (-1), 3) := by decide +kernel
theorem dX10_place_50 : decode cX10_place 50 = .ok (.iinc 4 1, 3) := by decide +kernel
theorem dX10_place_53 : decode cX10_place 53 = .ok (.goto (-34), 3) := by decide +kernel
theorem dX10_place_56 : decode cX10_place 56 = .ok (.iconst (-1), 1) := by decide +kernel
theorem dX10_place_57 : decode cX10_place 57 = .ok (.ireturn, 1) := by decide +kernel
theorem dX10_box_0 : decode cX10_box 0 = .ok (.aload_n 0, 1) := by decide +kernel
theorem dX10_box_1 : decode cX10_box 1 = .ok (.iload_n 1, 1) := by decide +kernel
theorem dX10_box_2 : decode cX10_box 2 = .ok (.invokevirtual 129, 3) := by decide +kernel
theorem dX10_box_5 : decode cX10_box 5 = .ok (.ifCond .eq 12, 3) := by decide +kernel
theorem dX10_box_8 : decode cX10_box 8 = .ok (.iload_n 2, 1) := by decide +kernel
theorem dX10_box_9 : decode cX10_box 9 = .ok (.iconst 0, 1) := by decide +kernel
theorem dX10_box_10 : decode cX10_box 10 = .ok (.iconst 3, 1) := by decide +kernel
theorem dX10_box_11 : decode cX10_box 11 = .ok (.invokestatic 87, 3) := by decide +kernel
theorem dX10_box_14 : decode cX10_box 14 = .ok (.ifCond .ne 5, 3) := by decide +kernel
theorem dX10_box_17 : decode cX10_box 17 = .ok (.iconst (-1), 1) := by decide +kernel
theorem dX10_box_18 : decode cX10_box 18 = .ok (.ireturn, 1) := by decide +kernel
theorem dX10_box_19 : decode cX10_box 19 = .ok (.iconst (-1), 1) := by decide +kernel
theorem dX10_box_20 : decode cX10_box 20 = .ok (.istore_n 3, 1) := by decide +kernel
theorem dX10_box_21 : decode cX10_box 21 = .ok (.iconst 0, 1) := by decide +kernel
theorem dX10_box_22 : decode cX10_box 22 = .ok (.istore 4, 2) := by decide +kernel
theorem dX10_box_24 : decode cX10_box 24 = .ok (.iload 4, 2) := by decide +kernel
theorem dX10_box_26 : decode cX10_box 26 = .ok (.sipush 1024, 3) := by decide +kernel
theorem dX10_box_29 : decode cX10_box 29 = .ok (.if_icmp .ge 70, 3) := by decide +kernel
theorem dX10_box_32 : decode cX10_box 32 = .ok (.aload_n 0, 1) := by decide +kernel
theorem dX10_box_33 : decode cX10_box 33 = .ok (.iload_n 1, 1) := by decide +kernel
theorem dX10_box_34 : decode cX10_box 34 = .ok (.iload 4, 2) := by decide +kernel
theorem dX10_box_36 : decode cX10_box 36 = .ok (.invokevirtual 132, 3) := by decide +kernel
theorem dX10_box_39 : decode cX10_box 39 = .ok (.ifCond .ne 6, 3) := by decide +kernel
theorem dX10_box_42 : decode cX10_box 42 = .ok (.goto 51, 3) := by decide +kernel
theorem dX10_box_45 : decode cX10_box 45 = .ok (.iload_n 2, 1) := by decide +kernel
theorem dX10_box_46 : decode cX10_box 46 = .ok (.iconst 2, 1) := by decide +kernel
theorem dX10_box_47 : decode cX10_box 47 = .ok (.if_icmp .ge 11, 3) := by decide +kernel
theorem dX10_box_50 : decode cX10_box 50 = .ok (.iload 4, 2) := by decide +kernel
theorem dX10_box_52 : decode cX10_box 52 = .ok (.bipush 32, 2) := by decide +kernel
theorem dX10_box_54 : decode cX10_box 54 = .ok (.irem, 1) := by decide +kernel
theorem dX10_box_55 : decode cX10_box 55 = .ok (.goto 8, 3) := by decide +kernel
theorem dX10_box_58 : decode cX10_box 58 = .ok (.iload 4, 2) := by decide +kernel
theorem dX10_box_60 : decode cX10_box 60 = .ok (.bipush 32, 2) := by decide +kernel
theorem dX10_box_62 : decode cX10_box 62 = .ok (.idiv, 1) := by decide +kernel
theorem dX10_box_63 : decode cX10_box 63 = .ok (.istore 5, 2) := by decide +kernel
theorem dX10_box_65 : decode cX10_box 65 = .ok (.iload_n 3, 1) := by decide +kernel
theorem dX10_box_66 : decode cX10_box 66 = .ok (.ifCond .lt 24, 3) := by decide +kernel
theorem dX10_box_69 : decode cX10_box 69 = .ok (.iload_n 2, 1) := by decide +kernel
theorem dX10_box_70 : decode cX10_box 70 = .ok (.iconst 2, 1) := by decide +kernel
theorem dX10_box_71 : decode cX10_box 71 = .ok (.irem, 1) := by decide +kernel
theorem dX10_box_72 : decode cX10_box 72 = .ok (.ifCond .ne 12, 3) := by decide +kernel
theorem dX10_box_75 : decode cX10_box 75 = .ok (.iload 5, 2) := by decide +kernel
theorem dX10_box_77 : decode cX10_box 77 = .ok (.iload_n 3, 1) := by decide +kernel
theorem dX10_box_78 : decode cX10_box 78 = .ok (.if_icmp .ge 15, 3) := by decide +kernel
theorem dX10_box_81 : decode cX10_box 81 = .ok (.goto 9, 3) := by decide +kernel
theorem dX10_box_84 : decode cX10_box 84 = .ok (.iload 5, 2) := by decide +kernel
theorem dX10_box_86 : decode cX10_box 86 = .ok (.iload_n 3, 1) := by decide +kernel
theorem dX10_box_87 : decode cX10_box 87 = .ok (.if_icmp .le 6, 3) := by decide +kernel
theorem dX10_box_90 : decode cX10_box 90 = .ok (.iload 5, 2) := by decide +kernel
theorem dX10_box_92 : decode cX10_box 92 = .ok (.istore_n 3, 1) := by decide +kernel
theorem dX10_box_93 : decode cX10_box 93 = .ok (.iinc 4 1, 3) := by decide +kernel
theorem dX10_box_96 : decode cX10_box 96 = .ok (.goto (-72), 3) := by decide +kernel
theorem dX10_box_99 : decode cX10_box 99 = .ok (.iload_n 3, 1) := by decide +kernel
theorem dX10_box_100 : decode cX10_box 100 = .ok (.ireturn, 1) := by decide +kernel
theorem dX10_sortOf_0 : decode cX10_sortOf 0 = .ok (.iconst 0, 1) := by decide +kernel
theorem dX10_sortOf_1 : decode cX10_sortOf 1 = .ok (.istore_n 3, 1) := by decide +kernel
theorem dX10_sortOf_2 : decode cX10_sortOf 2 = .ok (.iload_n 3, 1) := by decide +kernel
theorem dX10_sortOf_3 : decode cX10_sortOf 3 = .ok (.aload_n 0, 1) := by decide +kernel
theorem dX10_sortOf_4 : decode cX10_sortOf 4 = .ok (.getfield 105, 3) := by decide +kernel
theorem dX10_sortOf_7 : decode cX10_sortOf 7 = .ok (.if_icmp .ge 40, 3) := by decide +kernel
theorem dX10_sortOf_10 : decode cX10_sortOf 10 = .ok (.aload_n 0, 1) := by decide +kernel
theorem dX10_sortOf_11 : decode cX10_sortOf 11 = .ok (.getfield 31, 3) := by decide +kernel
theorem dX10_sortOf_14 : decode cX10_sortOf 14 = .ok (.iload_n 3, 1) := by decide +kernel
theorem dX10_sortOf_15 : decode cX10_sortOf 15 = .ok (.iaload, 1) := by decide +kernel
theorem dX10_sortOf_16 : decode cX10_sortOf 16 = .ok (.iload_n 1, 1) := by decide +kernel
theorem dX10_sortOf_17 : decode cX10_sortOf 17 = .ok (.if_icmp .ne 24, 3) := by decide +kernel
theorem dX10_sortOf_20 : decode cX10_sortOf 20 = .ok (.iload_n 2, 1) := by decide +kernel
theorem dX10_sortOf_21 : decode cX10_sortOf 21 = .ok (.aload_n 0, 1) := by decide +kernel
theorem dX10_sortOf_22 : decode cX10_sortOf 22 = .ok (.getfield 34, 3) := by decide +kernel
theorem dX10_sortOf_25 : decode cX10_sortOf 25 = .ok (.iload_n 3, 1) := by decide +kernel
theorem dX10_sortOf_26 : decode cX10_sortOf 26 = .ok (.iaload, 1) := by decide +kernel
theorem dX10_sortOf_27 : decode cX10_sortOf 27 = .ok (.aload_n 0, 1) := by decide +kernel
theorem dX10_sortOf_28 : decode cX10_sortOf 28 = .ok (.getfield 37, 3) := by decide +kernel
theorem dX10_sortOf_31 : decode cX10_sortOf 31 = .ok (.iload_n 3, 1) := by decide +kernel
theorem dX10_sortOf_32 : decode cX10_sortOf 32 = .ok (.iaload, 1) := by decide +kernel
theorem dX10_sortOf_33 : decode cX10_sortOf 33 = .ok (.invokestatic 87, 3) := by decide +kernel
theorem dX10_sortOf_36 : decode cX10_sortOf 36 = .ok (.ifCond .eq 5, 3) := by decide +kernel
theorem dX10_sortOf_39 : decode cX10_sortOf 39 = .ok (.iconst 0, 1) := by decide +kernel
theorem dX10_sortOf_40 : decode cX10_sortOf 40 = .ok (.ireturn, 1) := by decide +kernel
theorem dX10_sortOf_41 : decode cX10_sortOf 41 = .ok (.iinc 3 1, 3) := by decide +kernel
theorem dX10_sortOf_44 : decode cX10_sortOf 44 = .ok (.goto (-42), 3) := by decide +kernel
theorem dX10_sortOf_47 : decode cX10_sortOf 47 = .ok (.aload_n 0, 1) := by decide +kernel
theorem dX10_sortOf_48 : decode cX10_sortOf 48 = .ok (.iconst (-1), 1) := by decide +kernel
theorem dX10_sortOf_49 : decode cX10_sortOf 49 = .ok (.iload_n 1, 1) := by decide +kernel
theorem dX10_sortOf_50 : decode cX10_sortOf 50 = .ok (.iload_n 2, 1) := by decide +kernel
theorem dX10_sortOf_51 : decode cX10_sortOf 51 = .ok (.invokevirtual 108, 3) := by decide +kernel
theorem dX10_sortOf_54 : decode cX10_sortOf 54 = .ok (.ifCond .eq 7, 3) := by decide +kernel
theorem dX10_sortOf_57 : decode cX10_sortOf 57 = .ok (.iconst 1, 1) := by decide +kernel
theorem dX10_sortOf_58 : decode cX10_sortOf 58 = .ok (.goto 4, 3) := by decide +kernel
theorem dX10_sortOf_61 : decode cX10_sortOf 61 = .ok (.iconst 2, 1) := by decide +kernel
theorem dX10_sortOf_62 : decode cX10_sortOf 62 = .ok (.ireturn, 1) := by decide +kernel
theorem dX10_minutes_0 : decode cX10_minutes 0 = .ok (.iload_n 1, 1) := by decide +kernel
theorem dX10_minutes_1 : decode cX10_minutes 1 = .ok (.iconst 0, 1) := by decide +kernel
theorem dX10_minutes_2 : decode cX10_minutes 2 = .ok (.bipush 15, 2) := by decide +kernel
theorem dX10_minutes_4 : decode cX10_minutes 4 = .ok (.invokestatic 87, 3) := by decide +kernel
theorem dX10_minutes_7 : decode cX10_minutes 7 = .ok (.ifCond .eq 21, 3) := by decide +kernel
theorem dX10_minutes_10 : decode cX10_minutes 10 = .ok (.iload_n 2, 1) := by decide +kernel
theorem dX10_minutes_11 : decode cX10_minutes 11 = .ok (.iload_n 3, 1) := by decide +kernel
theorem dX10_minutes_12 : decode cX10_minutes 12 = .ok (.invokestatic 98, 3) := by decide +kernel
theorem dX10_minutes_15 : decode cX10_minutes 15 = .ok (.ifCond .eq 13, 3) := by decide +kernel
theorem dX10_minutes_18 : decode cX10_minutes 18 = .ok (.iload 4, 2) := by decide +kernel
theorem dX10_minutes_20 : decode cX10_minutes 20 = .ok (.iconst 0, 1) := by decide +kernel
theorem dX10_minutes_21 : decode cX10_minutes 21 = .ok (.iconst 2, 1) := by decide +kernel
theorem dX10_minutes_22 : decode cX10_minutes 22 = .ok (.invokestatic 87, 3) := by decide +kernel
theorem dX10_minutes_25 : decode cX10_minutes 25 = .ok (.ifCond .ne 5, 3) := by decide +kernel
theorem dX10_minutes_28 : decode cX10_minutes 28 = .ok (.iconst (-1), 1) := by decide +kernel
theorem dX10_minutes_29 : decode cX10_minutes 29 = .ok (.ireturn, 1) := by decide +kernel
theorem dX10_minutes_30 : decode cX10_minutes 30 = .ok (.iconst 0, 1) := by decide +kernel
theorem dX10_minutes_31 : decode cX10_minutes 31 = .ok (.istore 5, 2) := by decide +kernel
theorem dX10_minutes_33 : decode cX10_minutes 33 = .ok (.iload_n 2, 1) := by decide +kernel
theorem dX10_minutes_34 : decode cX10_minutes 34 = .ok (.istore 6, 2) := by decide +kernel
theorem dX10_minutes_36 : decode cX10_minutes 36 = .ok (.iload 6, 2) := by decide +kernel
theorem dX10_minutes_38 : decode cX10_minutes 38 = .ok (.iload_n 3, 1) := by decide +kernel
theorem dX10_minutes_39 : decode cX10_minutes 39 = .ok (.if_icmp .gt 31, 3) := by decide +kernel
theorem dX10_minutes_42 : decode cX10_minutes 42 = .ok (.iload 5, 2) := by decide +kernel
theorem dX10_minutes_44 : decode cX10_minutes 44 = .ok (.aload_n 0, 1) := by decide +kernel
theorem dX10_minutes_45 : decode cX10_minutes 45 = .ok (.iload_n 1, 1) := by decide +kernel
theorem dX10_minutes_46 : decode cX10_minutes 46 = .ok (.iload 6, 2) := by decide +kernel
theorem dX10_minutes_48 : decode cX10_minutes 48 = .ok (.invokevirtual 135, 3) := by decide +kernel
theorem dX10_minutes_51 : decode cX10_minutes 51 = .ok (.iload 4, 2) := by decide +kernel
theorem dX10_minutes_53 : decode cX10_minutes 53 = .ok (.if_icmp .ne 7, 3) := by decide +kernel
theorem dX10_minutes_56 : decode cX10_minutes 56 = .ok (.iconst 1, 1) := by decide +kernel
theorem dX10_minutes_57 : decode cX10_minutes 57 = .ok (.goto 4, 3) := by decide +kernel
theorem dX10_minutes_60 : decode cX10_minutes 60 = .ok (.iconst 0, 1) := by decide +kernel
theorem dX10_minutes_61 : decode cX10_minutes 61 = .ok (.iadd, 1) := by decide +kernel
theorem dX10_minutes_62 : decode cX10_minutes 62 = .ok (.istore 5, 2) := by decide +kernel
theorem dX10_minutes_64 : decode cX10_minutes 64 = .ok (.iinc 6 1, 3) := by decide +kernel
theorem dX10_minutes_67 : decode cX10_minutes 67 = .ok (.goto (-31), 3) := by decide +kernel
theorem dX10_minutes_70 : decode cX10_minutes 70 = .ok (.iload 5, 2) := by decide +kernel
theorem dX10_minutes_72 : decode cX10_minutes 72 = .ok (.ireturn, 1) := by decide +kernel
theorem dX10_blind_0 : decode cX10_blind 0 = .ok (.iload_n 1, 1) := by decide +kernel
theorem dX10_blind_1 : decode cX10_blind 1 = .ok (.iconst 0, 1) := by decide +kernel
theorem dX10_blind_2 : decode cX10_blind 2 = .ok (.bipush 15, 2) := by decide +kernel
theorem dX10_blind_4 : decode cX10_blind 4 = .ok (.invokestatic 87, 3) := by decide +kernel
theorem dX10_blind_7 : decode cX10_blind 7 = .ok (.ifCond .eq 11, 3) := by decide +kernel
theorem dX10_blind_10 : decode cX10_blind 10 = .ok (.iload_n 2, 1) := by decide +kernel
theorem dX10_blind_11 : decode cX10_blind 11 = .ok (.iload_n 3, 1) := by decide +kernel
theorem dX10_blind_12 : decode cX10_blind 12 = .ok (.invokestatic 98, 3) := by decide +kernel
theorem dX10_blind_15 : decode cX10_blind 15 = .ok (.ifCond .ne 5, 3) := by decide +kernel
theorem dX10_blind_18 : decode cX10_blind 18 = .ok (.iconst (-1), 1) := by decide +kernel
theorem dX10_blind_19 : decode cX10_blind 19 = .ok (.ireturn, 1) := by decide +kernel
theorem dX10_blind_20 : decode cX10_blind 20 = .ok (.iconst 0, 1) := by decide +kernel
theorem dX10_blind_21 : decode cX10_blind 21 = .ok (.istore 4, 2) := by decide +kernel
theorem dX10_blind_23 : decode cX10_blind 23 = .ok (.iconst 0, 1) := by decide +kernel
theorem dX10_blind_24 : decode cX10_blind 24 = .ok (.istore 5, 2) := by decide +kernel
theorem dX10_blind_26 : decode cX10_blind 26 = .ok (.iload_n 2, 1) := by decide +kernel
theorem dX10_blind_27 : decode cX10_blind 27 = .ok (.istore 6, 2) := by decide +kernel
theorem dX10_blind_29 : decode cX10_blind 29 = .ok (.iload 6, 2) := by decide +kernel
theorem dX10_blind_31 : decode cX10_blind 31 = .ok (.iload_n 3, 1) := by decide +kernel
theorem dX10_blind_32 : decode cX10_blind 32 = .ok (.if_icmp .gt 41, 3) := by decide +kernel
theorem dX10_blind_35 : decode cX10_blind 35 = .ok (.aload_n 0, 1) := by decide +kernel
theorem dX10_blind_36 : decode cX10_blind 36 = .ok (.iload_n 1, 1) := by decide +kernel
theorem dX10_blind_37 : decode cX10_blind 37 = .ok (.iload 6, 2) := by decide +kernel
theorem dX10_blind_39 : decode cX10_blind 39 = .ok (.invokevirtual 135, 3) := by decide +kernel
theorem dX10_blind_42 : decode cX10_blind 42 = .ok (.iconst 2, 1) := by decide +kernel
theorem dX10_blind_43 : decode cX10_blind 43 = .ok (.if_icmp .ne 10, 3) := by decide +kernel
theorem dX10_blind_46 : decode cX10_blind 46 = .ok (.iload 5, 2) := by decide +kernel
theorem dX10_blind_48 : decode cX10_blind 48 = .ok (.iconst 1, 1) := by decide +kernel
theorem dX10_blind_49 : decode cX10_blind 49 = .ok (.iadd, 1) := by decide +kernel
theorem dX10_blind_50 : decode cX10_blind 50 = .ok (.goto 4, 3) := by decide +kernel
theorem dX10_blind_53 : decode cX10_blind 53 = .ok (.iconst 0, 1) := by decide +kernel
theorem dX10_blind_54 : decode cX10_blind 54 = .ok (.istore 5, 2) := by decide +kernel
theorem dX10_blind_56 : decode cX10_blind 56 = .ok (.iload 5, 2) := by decide +kernel
theorem dX10_blind_58 : decode cX10_blind 58 = .ok (.iload 4, 2) := by decide +kernel
theorem dX10_blind_60 : decode cX10_blind 60 = .ok (.if_icmp .le 7, 3) := by decide +kernel
theorem dX10_blind_63 : decode cX10_blind 63 = .ok (.iload 5, 2) := by decide +kernel
theorem dX10_blind_65 : decode cX10_blind 65 = .ok (.istore 4, 2) := by decide +kernel
theorem dX10_blind_67 : decode cX10_blind 67 = .ok (.iinc 6 1, 3) := by decide +kernel
theorem dX10_blind_70 : decode cX10_blind 70 = .ok (.goto (-41), 3) := by decide +kernel
theorem dX10_blind_73 : decode cX10_blind 73 = .ok (.iload 4, 2) := by decide +kernel
theorem dX10_blind_75 : decode cX10_blind 75 = .ok (.ireturn, 1) := by decide +kernel
theorem dX10_four_0 : decode cX10_four 0 = .ok (.bipush 24, 2) := by decide +kernel
theorem dX10_four_2 : decode cX10_four 2 = .ok (.istore_n 2, 1) := by decide +kernel
theorem dX10_four_3 : decode cX10_four 3 = .ok (.iload_n 2, 1) := by decide +kernel
theorem dX10_four_4 : decode cX10_four 4 = .ok (.ifCond .lt 35, 3) := by decide +kernel
theorem dX10_four_7 : decode cX10_four 7 = .ok (.aload_n 0, 1) := by decide +kernel
theorem dX10_four_8 : decode cX10_four 8 = .ok (.getfield 63, 3) := by decide +kernel
theorem dX10_four_11 : decode cX10_four 11 = .ok (.aload_n 0, 1) := by decide +kernel
theorem dX10_four_12 : decode cX10_four 12 = .ok (.getfield 139, 3) := by decide +kernel
theorem dX10_four_15 : decode cX10_four 15 = .ok (.iload_n 1, 1) := by decide +kernel
theorem dX10_four_16 : decode cX10_four 16 = .ok (.iload_n 2, 1) := by decide +kernel
theorem dX10_four_17 : decode cX10_four 17 = .ok (.ishr, 1) := by decide +kernel
theorem dX10_four_18 : decode cX10_four 18 = .ok (.sipush 255, 3) := by decide +kernel
theorem dX10_four_21 : decode cX10_four 21 = .ok (.iand, 1) := by decide +kernel
theorem dX10_four_22 : decode cX10_four 22 = .ok (.iastore, 1) := by decide +kernel
theorem dX10_four_23 : decode cX10_four 23 = .ok (.aload_n 0, 1) := by decide +kernel
theorem dX10_four_24 : decode cX10_four 24 = .ok (.dup, 1) := by decide +kernel
theorem dX10_four_25 : decode cX10_four 25 = .ok (.getfield 139, 3) := by decide +kernel
theorem dX10_four_28 : decode cX10_four 28 = .ok (.iconst 1, 1) := by decide +kernel
theorem dX10_four_29 : decode cX10_four 29 = .ok (.iadd, 1) := by decide +kernel
theorem dX10_four_30 : decode cX10_four 30 = .ok (.putfield 139, 3) := by decide +kernel
theorem dX10_four_33 : decode cX10_four 33 = .ok (.iinc 2 (-8), 3) := by decide +kernel
theorem dX10_four_36 : decode cX10_four 36 = .ok (.goto (-33), 3) := by decide +kernel
theorem dX10_four_39 : decode cX10_four 39 = .ok (.return_, 1) := by decide +kernel
theorem dX10_feed_0 : decode cX10_feed 0 = .ok (.aload_n 0, 1) := by decide +kernel
theorem dX10_feed_1 : decode cX10_feed 1 = .ok (.getfield 139, 3) := by decide +kernel
theorem dX10_feed_4 : decode cX10_feed 4 = .ok (.bipush 20, 2) := by decide +kernel
theorem dX10_feed_6 : decode cX10_feed 6 = .ok (.iadd, 1) := by decide +kernel
theorem dX10_feed_7 : decode cX10_feed 7 = .ok (.bipush 100, 2) := by decide +kernel
theorem dX10_feed_9 : decode cX10_feed 9 = .ok (.if_icmp .le 5, 3) := by decide +kernel
theorem dX10_feed_12 : decode cX10_feed 12 = .ok (.iconst (-1), 1) := by decide +kernel
theorem dX10_feed_13 : decode cX10_feed 13 = .ok (.ireturn, 1) := by decide +kernel
theorem dX10_feed_14 : decode cX10_feed 14 = .ok (.aload_n 0, 1) := by decide +kernel
theorem dX10_feed_15 : decode cX10_feed 15 = .ok (.iload_n 1, 1) := by decide +kernel
theorem dX10_feed_16 : decode cX10_feed 16 = .ok (.invokevirtual 142, 3) := by decide +kernel
theorem dX10_feed_19 : decode cX10_feed 19 = .ok (.aload_n 0, 1) := by decide +kernel
theorem dX10_feed_20 : decode cX10_feed 20 = .ok (.iload_n 2, 1) := by decide +kernel
theorem dX10_feed_21 : decode cX10_feed 21 = .ok (.invokevirtual 142, 3) := by decide +kernel
theorem dX10_feed_24 : decode cX10_feed 24 = .ok (.aload_n 0, 1) := by decide +kernel
theorem dX10_feed_25 : decode cX10_feed 25 = .ok (.iload_n 3, 1) := by decide +kernel
theorem dX10_feed_26 : decode cX10_feed 26 = .ok (.invokevirtual 142, 3) := by decide +kernel
theorem dX10_feed_29 : decode cX10_feed 29 = .ok (.aload_n 0, 1) := by decide +kernel
theorem dX10_feed_30 : decode cX10_feed 30 = .ok (.iload 4, 2) := by decide +kernel
theorem dX10_feed_32 : decode cX10_feed 32 = .ok (.invokevirtual 142, 3) := by decide +kernel
theorem dX10_feed_35 : decode cX10_feed 35 = .ok (.aload_n 0, 1) := by decide +kernel
theorem dX10_feed_36 : decode cX10_feed 36 = .ok (.iload 5, 2) := by decide +kernel
theorem dX10_feed_38 : decode cX10_feed 38 = .ok (.invokevirtual 142, 3) := by decide +kernel
theorem dX10_feed_41 : decode cX10_feed 41 = .ok (.aload_n 0, 1) := by decide +kernel
theorem dX10_feed_42 : decode cX10_feed 42 = .ok (.getfield 139, 3) := by decide +kernel
theorem dX10_feed_45 : decode cX10_feed 45 = .ok (.ireturn, 1) := by decide +kernel
theorem dX10_end_0 : decode cX10_end 0 = .ok (.iload_n 1, 1) := by decide +kernel
theorem dX10_end_1 : decode cX10_end 1 = .ok (.iconst 0, 1) := by decide +kernel
theorem dX10_end_2 : decode cX10_end 2 = .ok (.aload_n 0, 1) := by decide +kernel
theorem dX10_end_3 : decode cX10_end 3 = .ok (.getfield 139, 3) := by decide +kernel
theorem dX10_end_6 : decode cX10_end 6 = .ok (.invokestatic 87, 3) := by decide +kernel
theorem dX10_end_9 : decode cX10_end 9 = .ok (.ifCond .ne 5, 3) := by decide +kernel
theorem dX10_end_12 : decode cX10_end 12 = .ok (.iconst (-1), 1) := by decide +kernel
theorem dX10_end_13 : decode cX10_end 13 = .ok (.ireturn, 1) := by decide +kernel
theorem dX10_end_14 : decode cX10_end 14 = .ok (.aload_n 0, 1) := by decide +kernel
theorem dX10_end_15 : decode cX10_end 15 = .ok (.iload_n 1, 1) := by decide +kernel
theorem dX10_end_16 : decode cX10_end 16 = .ok (.putfield 139, 3) := by decide +kernel
theorem dX10_end_19 : decode cX10_end 19 = .ok (.iload_n 1, 1) := by decide +kernel
theorem dX10_end_20 : decode cX10_end 20 = .ok (.ireturn, 1) := by decide +kernel
theorem dX10_see_0 : decode cX10_see 0 = .ok (.iload_n 1, 1) := by decide +kernel
theorem dX10_see_1 : decode cX10_see 1 = .ok (.aload_n 0, 1) := by decide +kernel
theorem dX10_see_2 : decode cX10_see 2 = .ok (.getfield 139, 3) := by decide +kernel
theorem dX10_see_5 : decode cX10_see 5 = .ok (.if_icmp .ge 12, 3) := by decide +kernel
theorem dX10_see_8 : decode cX10_see 8 = .ok (.aload_n 0, 1) := by decide +kernel
theorem dX10_see_9 : decode cX10_see 9 = .ok (.getfield 63, 3) := by decide +kernel
theorem dX10_see_12 : decode cX10_see 12 = .ok (.iload_n 1, 1) := by decide +kernel
theorem dX10_see_13 : decode cX10_see 13 = .ok (.iaload, 1) := by decide +kernel
theorem dX10_see_14 : decode cX10_see 14 = .ok (.goto 4, 3) := by decide +kernel
theorem dX10_see_17 : decode cX10_see 17 = .ok (.iconst (-1), 1) := by decide +kernel
theorem dX10_see_18 : decode cX10_see 18 = .ok (.ireturn, 1) := by decide +kernel
theorem dX10_isLetter_0 : decode cX10_isLetter 0 = .ok (.iload_n 0, 1) := by decide +kernel
theorem dX10_isLetter_1 : decode cX10_isLetter 1 = .ok (.bipush 97, 2) := by decide +kernel
theorem dX10_isLetter_3 : decode cX10_isLetter 3 = .ok (.bipush 122, 2) := by decide +kernel
theorem dX10_isLetter_5 : decode cX10_isLetter 5 = .ok (.invokestatic 87, 3) := by decide +kernel
theorem dX10_isLetter_8 : decode cX10_isLetter 8 = .ok (.ifCond .ne 14, 3) := by decide +kernel
theorem dX10_isLetter_11 : decode cX10_isLetter 11 = .ok (.iload_n 0, 1) := by decide +kernel
theorem dX10_isLetter_12 : decode cX10_isLetter 12 = .ok (.bipush 65, 2) := by decide +kernel
theorem dX10_isLetter_14 : decode cX10_isLetter 14 = .ok (.bipush 90, 2) := by decide +kernel
theorem dX10_isLetter_16 : decode cX10_isLetter 16 = .ok (.invokestatic 87, 3) := by decide +kernel
theorem dX10_isLetter_19 : decode cX10_isLetter 19 = .ok (.ifCond .eq 7, 3) := by decide +kernel
theorem dX10_isLetter_22 : decode cX10_isLetter 22 = .ok (.iconst 1, 1) := by decide +kernel
theorem dX10_isLetter_23 : decode cX10_isLetter 23 = .ok (.goto 4, 3) := by decide +kernel
theorem dX10_isLetter_26 : decode cX10_isLetter 26 = .ok (.iconst 0, 1) := by decide +kernel
theorem dX10_isLetter_27 : decode cX10_isLetter 27 = .ok (.ireturn, 1) := by decide +kernel
theorem dX10_isDigit_0 : decode cX10_isDigit 0 = .ok (.iload_n 0, 1) := by decide +kernel
theorem dX10_isDigit_1 : decode cX10_isDigit 1 = .ok (.bipush 48, 2) := by decide +kernel
theorem dX10_isDigit_3 : decode cX10_isDigit 3 = .ok (.bipush 57, 2) := by decide +kernel
theorem dX10_isDigit_5 : decode cX10_isDigit 5 = .ok (.invokestatic 87, 3) := by decide +kernel
theorem dX10_isDigit_8 : decode cX10_isDigit 8 = .ok (.ireturn, 1) := by decide +kernel
theorem dX10_pack_0 : decode cX10_pack 0 = .ok (.iload_n 0, 1) := by decide +kernel
theorem dX10_pack_1 : decode cX10_pack 1 = .ok (.bipush 7, 2) := by decide +kernel
theorem dX10_pack_3 : decode cX10_pack 3 = .ok (.ishl, 1) := by decide +kernel
theorem dX10_pack_4 : decode cX10_pack 4 = .ok (.iload_n 1, 1) := by decide +kernel
theorem dX10_pack_5 : decode cX10_pack 5 = .ok (.ior, 1) := by decide +kernel
theorem dX10_pack_6 : decode cX10_pack 6 = .ok (.bipush 7, 2) := by decide +kernel
theorem dX10_pack_8 : decode cX10_pack 8 = .ok (.ishl, 1) := by decide +kernel
theorem dX10_pack_9 : decode cX10_pack 9 = .ok (.iload_n 2, 1) := by decide +kernel
theorem dX10_pack_10 : decode cX10_pack 10 = .ok (.ior, 1) := by decide +kernel
theorem dX10_pack_11 : decode cX10_pack 11 = .ok (.bipush 7, 2) := by decide +kernel
theorem dX10_pack_13 : decode cX10_pack 13 = .ok (.ishl, 1) := by decide +kernel
theorem dX10_pack_14 : decode cX10_pack 14 = .ok (.iload_n 3, 1) := by decide +kernel
theorem dX10_pack_15 : decode cX10_pack 15 = .ok (.ior, 1) := by decide +kernel
theorem dX10_pack_16 : decode cX10_pack 16 = .ok (.ireturn, 1) := by decide +kernel
theorem dX10_wordOf_0 : decode cX10_wordOf 0 = .ok (.iload_n 0, 1) := by decide +kernel
theorem dX10_wordOf_1 : decode cX10_wordOf 1 = .ok (.bipush 99, 2) := by decide +kernel
theorem dX10_wordOf_3 : decode cX10_wordOf 3 = .ok (.bipush 104, 2) := by decide +kernel
theorem dX10_wordOf_5 : decode cX10_wordOf 5 = .ok (.bipush 97, 2) := by decide +kernel
theorem dX10_wordOf_7 : decode cX10_wordOf 7 = .ok (.bipush 110, 2) := by decide +kernel
theorem dX10_wordOf_9 : decode cX10_wordOf 9 = .ok (.invokestatic 146, 3) := by decide +kernel
theorem dX10_wordOf_12 : decode cX10_wordOf 12 = .ok (.if_icmp .ne 7, 3) := by decide +kernel
theorem dX10_wordOf_15 : decode cX10_wordOf 15 = .ok (.iconst 5, 1) := by decide +kernel
theorem dX10_wordOf_16 : decode cX10_wordOf 16 = .ok (.goto 63, 3) := by decide +kernel
theorem dX10_wordOf_19 : decode cX10_wordOf 19 = .ok (.iload_n 0, 1) := by decide +kernel
theorem dX10_wordOf_20 : decode cX10_wordOf 20 = .ok (.bipush 116, 2) := by decide +kernel
theorem dX10_wordOf_22 : decode cX10_wordOf 22 = .ok (.bipush 105, 2) := by decide +kernel
theorem dX10_wordOf_24 : decode cX10_wordOf 24 = .ok (.bipush 109, 2) := by decide +kernel
theorem dX10_wordOf_26 : decode cX10_wordOf 26 = .ok (.bipush 101, 2) := by decide +kernel
theorem dX10_wordOf_28 : decode cX10_wordOf 28 = .ok (.invokestatic 146, 3) := by decide +kernel
theorem dX10_wordOf_31 : decode cX10_wordOf 31 = .ok (.if_icmp .ne 8, 3) := by decide +kernel
theorem dX10_wordOf_34 : decode cX10_wordOf 34 = .ok (.bipush 6, 2) := by decide +kernel
theorem dX10_wordOf_36 : decode cX10_wordOf 36 = .ok (.goto 43, 3) := by decide +kernel
theorem dX10_wordOf_39 : decode cX10_wordOf 39 = .ok (.iload_n 0, 1) := by decide +kernel
theorem dX10_wordOf_40 : decode cX10_wordOf 40 = .ok (.bipush 116, 2) := by decide +kernel
theorem dX10_wordOf_42 : decode cX10_wordOf 42 = .ok (.bipush 111, 2) := by decide +kernel
theorem dX10_wordOf_44 : decode cX10_wordOf 44 = .ok (.bipush 110, 2) := by decide +kernel
theorem dX10_wordOf_46 : decode cX10_wordOf 46 = .ok (.bipush 101, 2) := by decide +kernel
theorem dX10_wordOf_48 : decode cX10_wordOf 48 = .ok (.invokestatic 146, 3) := by decide +kernel
theorem dX10_wordOf_51 : decode cX10_wordOf 51 = .ok (.if_icmp .ne 8, 3) := by decide +kernel
theorem dX10_wordOf_54 : decode cX10_wordOf 54 = .ok (.bipush 7, 2) := by decide +kernel
theorem dX10_wordOf_56 : decode cX10_wordOf 56 = .ok (.goto 23, 3) := by decide +kernel
theorem dX10_wordOf_59 : decode cX10_wordOf 59 = .ok (.iload_n 0, 1) := by decide +kernel
theorem dX10_wordOf_60 : decode cX10_wordOf 60 = .ok (.iconst 0, 1) := by decide +kernel
theorem dX10_wordOf_61 : decode cX10_wordOf 61 = .ok (.bipush 98, 2) := by decide +kernel
theorem dX10_wordOf_63 : decode cX10_wordOf 63 = .ok (.bipush 111, 2) := by decide +kernel
theorem dX10_wordOf_65 : decode cX10_wordOf 65 = .ok (.bipush 120, 2) := by decide +kernel
theorem dX10_wordOf_67 : decode cX10_wordOf 67 = .ok (.invokestatic 146, 3) := by decide +kernel
theorem dX10_wordOf_70 : decode cX10_wordOf 70 = .ok (.if_icmp .ne 8, 3) := by decide +kernel
theorem dX10_wordOf_73 : decode cX10_wordOf 73 = .ok (.bipush 8, 2) := by decide +kernel
theorem dX10_wordOf_75 : decode cX10_wordOf 75 = .ok (.goto 4, 3) := by decide +kernel
theorem dX10_wordOf_78 : decode cX10_wordOf 78 = .ok (.iconst 4, 1) := by decide +kernel
theorem dX10_wordOf_79 : decode cX10_wordOf 79 = .ok (.ireturn, 1) := by decide +kernel
theorem dX10_nextToken_0 : decode cX10_nextToken 0 = .ok (.aload_n 0, 1) := by decide +kernel
theorem dX10_nextToken_1 : decode cX10_nextToken 1 = .ok (.aload_n 0, 1) := by decide +kernel
theorem dX10_nextToken_2 : decode cX10_nextToken 2 = .ok (.getfield 150, 3) := by decide +kernel
theorem dX10_nextToken_5 : decode cX10_nextToken 5 = .ok (.invokevirtual 153, 3) := by decide +kernel
theorem dX10_nextToken_8 : decode cX10_nextToken 8 = .ok (.bipush 32, 2) := by decide +kernel
theorem dX10_nextToken_10 : decode cX10_nextToken 10 = .ok (.if_icmp .ne 16, 3) := by decide +kernel
theorem dX10_nextToken_13 : decode cX10_nextToken 13 = .ok (.aload_n 0, 1) := by decide +kernel
theorem dX10_nextToken_14 : decode cX10_nextToken 14 = .ok (.dup, 1) := by decide +kernel
theorem dX10_nextToken_15 : decode cX10_nextToken 15 = .ok (.getfield 150, 3) := by decide +kernel
theorem dX10_nextToken_18 : decode cX10_nextToken 18 = .ok (.iconst 1, 1) := by decide +kernel
theorem dX10_nextToken_19 : decode cX10_nextToken 19 = .ok (.iadd, 1) := by decide +kernel
theorem dX10_nextToken_20 : decode cX10_nextToken 20 = .ok (.putfield 150, 3) := by decide +kernel
theorem dX10_nextToken_23 : decode cX10_nextToken 23 = .ok (.goto (-23), 3) := by decide +kernel
theorem dX10_nextToken_26 : decode cX10_nextToken 26 = .ok (.aload_n 0, 1) := by decide +kernel
theorem dX10_nextToken_27 : decode cX10_nextToken 27 = .ok (.aload_n 0, 1) := by decide +kernel
theorem dX10_nextToken_28 : decode cX10_nextToken 28 = .ok (.getfield 150, 3) := by decide +kernel
theorem dX10_nextToken_31 : decode cX10_nextToken 31 = .ok (.putfield 157, 3) := by decide +kernel
theorem dX10_nextToken_34 : decode cX10_nextToken 34 = .ok (.aload_n 0, 1) := by decide +kernel
theorem dX10_nextToken_35 : decode cX10_nextToken 35 = .ok (.aload_n 0, 1) := by decide +kernel
theorem dX10_nextToken_36 : decode cX10_nextToken 36 = .ok (.getfield 150, 3) := by decide +kernel
theorem dX10_nextToken_39 : decode cX10_nextToken 39 = .ok (.invokevirtual 153, 3) := by decide +kernel
theorem dX10_nextToken_42 : decode cX10_nextToken 42 = .ok (.istore_n 1, 1) := by decide +kernel
theorem dX10_nextToken_43 : decode cX10_nextToken 43 = .ok (.iload_n 1, 1) := by decide +kernel
theorem dX10_nextToken_44 : decode cX10_nextToken 44 = .ok (.ifCond .ge 11, 3) := by decide +kernel
theorem dX10_nextToken_47 : decode cX10_nextToken 47 = .ok (.aload_n 0, 1) := by decide +kernel
theorem dX10_nextToken_48 : decode cX10_nextToken 48 = .ok (.iconst 0, 1) := by decide +kernel
theorem dX10_nextToken_49 : decode cX10_nextToken 49 = .ok (.putfield 160, 3) := by decide +kernel
theorem dX10_nextToken_52 : decode cX10_nextToken 52 = .ok (.goto 205, 3) := by decide +kernel
theorem dX10_nextToken_55 : decode cX10_nextToken 55 = .ok (.iload_n 1, 1) := by decide +kernel
theorem dX10_nextToken_56 : decode cX10_nextToken 56 = .ok (.invokestatic 163, 3) := by decide +kernel
theorem dX10_nextToken_59 : decode cX10_nextToken 59 = .ok (.ifCond .eq 72, 3) := by decide +kernel
theorem dX10_nextToken_62 : decode cX10_nextToken 62 = .ok (.aload_n 0, 1) := by decide +kernel
theorem dX10_nextToken_63 : decode cX10_nextToken 63 = .ok (.iconst 1, 1) := by decide +kernel
theorem dX10_nextToken_64 : decode cX10_nextToken 64 = .ok (.putfield 160, 3) := by decide +kernel
theorem dX10_nextToken_67 : decode cX10_nextToken 67 = .ok (.aload_n 0, 1) := by decide +kernel
theorem dX10_nextToken_68 : decode cX10_nextToken 68 = .ok (.iconst 0, 1) := by decide +kernel
theorem dX10_nextToken_69 : decode cX10_nextToken 69 = .ok (.putfield 166, 3) := by decide +kernel
theorem dX10_nextToken_72 : decode cX10_nextToken 72 = .ok (.aload_n 0, 1) := by decide +kernel
theorem dX10_nextToken_73 : decode cX10_nextToken 73 = .ok (.aload_n 0, 1) := by decide +kernel
theorem dX10_nextToken_74 : decode cX10_nextToken 74 = .ok (.getfield 150, 3) := by decide +kernel
theorem dX10_nextToken_77 : decode cX10_nextToken 77 = .ok (.invokevirtual 153, 3) := by decide +kernel
theorem dX10_nextToken_80 : decode cX10_nextToken 80 = .ok (.invokestatic 163, 3) := by decide +kernel
theorem dX10_nextToken_83 : decode cX10_nextToken 83 = .ok (.ifCond .eq 174, 3) := by decide +kernel
theorem dX10_nextToken_86 : decode cX10_nextToken 86 = .ok (.aload_n 0, 1) := by decide +kernel
theorem dX10_nextToken_87 : decode cX10_nextToken 87 = .ok (.getfield 166, 3) := by decide +kernel
theorem dX10_nextToken_90 : decode cX10_nextToken 90 = .ok (.ldc 169, 2) := by decide +kernel
theorem dX10_nextToken_92 : decode cX10_nextToken 92 = .ok (.if_icmp .ge 26, 3) := by decide +kernel
theorem dX10_nextToken_95 : decode cX10_nextToken 95 = .ok (.aload_n 0, 1) := by decide +kernel
theorem dX10_nextToken_96 : decode cX10_nextToken 96 = .ok (.bipush 10, 2) := by decide +kernel
theorem dX10_nextToken_98 : decode cX10_nextToken 98 = .ok (.aload_n 0, 1) := by decide +kernel
theorem dX10_nextToken_99 : decode cX10_nextToken 99 = .ok (.getfield 166, 3) := by decide +kernel
theorem dX10_nextToken_102 : decode cX10_nextToken 102 = .ok (.imul, 1) := by decide +kernel
theorem dX10_nextToken_103 : decode cX10_nextToken 103 = .ok (.aload_n 0, 1) := by decide +kernel
theorem dX10_nextToken_104 : decode cX10_nextToken 104 = .ok (.aload_n 0, 1) := by decide +kernel
theorem dX10_nextToken_105 : decode cX10_nextToken 105 = .ok (.getfield 150, 3) := by decide +kernel
theorem dX10_nextToken_108 : decode cX10_nextToken 108 = .ok (.invokevirtual 153, 3) := by decide +kernel
theorem dX10_nextToken_111 : decode cX10_nextToken 111 = .ok (.iadd, 1) := by decide +kernel
theorem dX10_nextToken_112 : decode cX10_nextToken 112 = .ok (.bipush 48, 2) := by decide +kernel
theorem dX10_nextToken_114 : decode cX10_nextToken 114 = .ok (.isub, 1) := by decide +kernel
theorem dX10_nextToken_115 : decode cX10_nextToken 115 = .ok (.putfield 166, 3) := by decide +kernel
theorem dX10_nextToken_118 : decode cX10_nextToken 118 = .ok (.aload_n 0, 1) := by decide +kernel
theorem dX10_nextToken_119 : decode cX10_nextToken 119 = .ok (.dup, 1) := by decide +kernel
theorem dX10_nextToken_120 : decode cX10_nextToken 120 = .ok (.getfield 150, 3) := by decide +kernel
theorem dX10_nextToken_123 : decode cX10_nextToken 123 = .ok (.iconst 1, 1) := by decide +kernel
theorem dX10_nextToken_124 : decode cX10_nextToken 124 = .ok (.iadd, 1) := by decide +kernel
theorem dX10_nextToken_125 : decode cX10_nextToken 125 = .ok (.putfield 150, 3) := by decide +kernel
theorem dX10_nextToken_128 : decode cX10_nextToken 128 = .ok (.goto (-56), 3) := by decide +kernel
theorem dX10_nextToken_131 : decode cX10_nextToken 131 = .ok (.iload_n 1, 1) := by decide +kernel
theorem dX10_nextToken_132 : decode cX10_nextToken 132 = .ok (.invokestatic 170, 3) := by decide +kernel
theorem dX10_nextToken_135 : decode cX10_nextToken 135 = .ok (.ifCond .eq 87, 3) := by decide +kernel
theorem dX10_nextToken_138 : decode cX10_nextToken 138 = .ok (.iconst 0, 1) := by decide +kernel
theorem dX10_nextToken_139 : decode cX10_nextToken 139 = .ok (.istore_n 2, 1) := by decide +kernel
theorem dX10_nextToken_140 : decode cX10_nextToken 140 = .ok (.aload_n 0, 1) := by decide +kernel
theorem dX10_nextToken_141 : decode cX10_nextToken 141 = .ok (.aload_n 0, 1) := by decide +kernel
theorem dX10_nextToken_142 : decode cX10_nextToken 142 = .ok (.getfield 150, 3) := by decide +kernel
theorem dX10_nextToken_145 : decode cX10_nextToken 145 = .ok (.invokevirtual 153, 3) := by decide +kernel
theorem dX10_nextToken_148 : decode cX10_nextToken 148 = .ok (.invokestatic 170, 3) := by decide +kernel
theorem dX10_nextToken_151 : decode cX10_nextToken 151 = .ok (.ifCond .eq 43, 3) := by decide +kernel
theorem dX10_nextToken_154 : decode cX10_nextToken 154 = .ok (.aload_n 0, 1) := by decide +kernel
theorem dX10_nextToken_155 : decode cX10_nextToken 155 = .ok (.getfield 150, 3) := by decide +kernel
theorem dX10_nextToken_158 : decode cX10_nextToken 158 = .ok (.aload_n 0, 1) := by decide +kernel
theorem dX10_nextToken_159 : decode cX10_nextToken 159 = .ok (.getfield 157, 3) := by decide +kernel
theorem dX10_nextToken_162 : decode cX10_nextToken 162 = .ok (.isub, 1) := by decide +kernel
theorem dX10_nextToken_163 : decode cX10_nextToken 163 = .ok (.iconst 4, 1) := by decide +kernel
theorem dX10_nextToken_164 : decode cX10_nextToken 164 = .ok (.if_icmp .ge 17, 3) := by decide +kernel
theorem dX10_nextToken_167 : decode cX10_nextToken 167 = .ok (.iload_n 2, 1) := by decide +kernel
theorem dX10_nextToken_168 : decode cX10_nextToken 168 = .ok (.bipush 7, 2) := by decide +kernel
theorem dX10_nextToken_170 : decode cX10_nextToken 170 = .ok (.ishl, 1) := by decide +kernel
theorem dX10_nextToken_171 : decode cX10_nextToken 171 = .ok (.aload_n 0, 1) := by decide +kernel
theorem dX10_nextToken_172 : decode cX10_nextToken 172 = .ok (.aload_n 0, 1) := by decide +kernel
theorem dX10_nextToken_173 : decode cX10_nextToken 173 = .ok (.getfield 150, 3) := by decide +kernel
theorem dX10_nextToken_176 : decode cX10_nextToken 176 = .ok (.invokevirtual 153, 3) := by decide +kernel
theorem dX10_nextToken_179 : decode cX10_nextToken 179 = .ok (.ior, 1) := by decide +kernel
theorem dX10_nextToken_180 : decode cX10_nextToken 180 = .ok (.istore_n 2, 1) := by decide +kernel
theorem dX10_nextToken_181 : decode cX10_nextToken 181 = .ok (.aload_n 0, 1) := by decide +kernel
theorem dX10_nextToken_182 : decode cX10_nextToken 182 = .ok (.dup, 1) := by decide +kernel
theorem dX10_nextToken_183 : decode cX10_nextToken 183 = .ok (.getfield 150, 3) := by decide +kernel
theorem dX10_nextToken_186 : decode cX10_nextToken 186 = .ok (.iconst 1, 1) := by decide +kernel
theorem dX10_nextToken_187 : decode cX10_nextToken 187 = .ok (.iadd, 1) := by decide +kernel
theorem dX10_nextToken_188 : decode cX10_nextToken 188 = .ok (.putfield 150, 3) := by decide +kernel
theorem dX10_nextToken_191 : decode cX10_nextToken 191 = .ok (.goto (-51), 3) := by decide +kernel
theorem dX10_nextToken_194 : decode cX10_nextToken 194 = .ok (.aload_n 0, 1) := by decide +kernel
theorem dX10_nextToken_195 : decode cX10_nextToken 195 = .ok (.aload_n 0, 1) := by decide +kernel
theorem dX10_nextToken_196 : decode cX10_nextToken 196 = .ok (.getfield 150, 3) := by decide +kernel
theorem dX10_nextToken_199 : decode cX10_nextToken 199 = .ok (.aload_n 0, 1) := by decide +kernel
theorem dX10_nextToken_200 : decode cX10_nextToken 200 = .ok (.getfield 157, 3) := by decide +kernel
theorem dX10_nextToken_203 : decode cX10_nextToken 203 = .ok (.isub, 1) := by decide +kernel
theorem dX10_nextToken_204 : decode cX10_nextToken 204 = .ok (.iconst 4, 1) := by decide +kernel
theorem dX10_nextToken_205 : decode cX10_nextToken 205 = .ok (.if_icmp .le 7, 3) := by decide +kernel
theorem dX10_nextToken_208 : decode cX10_nextToken 208 = .ok (.iconst 4, 1) := by decide +kernel
theorem dX10_nextToken_209 : decode cX10_nextToken 209 = .ok (.goto 7, 3) := by decide +kernel
theorem dX10_nextToken_212 : decode cX10_nextToken 212 = .ok (.iload_n 2, 1) := by decide +kernel
theorem dX10_nextToken_213 : decode cX10_nextToken 213 = .ok (.invokestatic 173, 3) := by decide +kernel
theorem dX10_nextToken_216 : decode cX10_nextToken 216 = .ok (.putfield 160, 3) := by decide +kernel
theorem dX10_nextToken_219 : decode cX10_nextToken 219 = .ok (.goto 38, 3) := by decide +kernel
theorem dX10_nextToken_222 : decode cX10_nextToken 222 = .ok (.aload_n 0, 1) := by decide +kernel
theorem dX10_nextToken_223 : decode cX10_nextToken 223 = .ok (.iload_n 1, 1) := by decide +kernel
theorem dX10_nextToken_224 : decode cX10_nextToken 224 = .ok (.bipush 59, 2) := by decide +kernel
theorem dX10_nextToken_226 : decode cX10_nextToken 226 = .ok (.if_icmp .ne 7, 3) := by decide +kernel
theorem dX10_nextToken_229 : decode cX10_nextToken 229 = .ok (.iconst 2, 1) := by decide +kernel
theorem dX10_nextToken_230 : decode cX10_nextToken 230 = .ok (.goto 14, 3) := by decide +kernel
theorem dX10_nextToken_233 : decode cX10_nextToken 233 = .ok (.iload_n 1, 1) := by decide +kernel
theorem dX10_nextToken_234 : decode cX10_nextToken 234 = .ok (.bipush 45, 2) := by decide +kernel
theorem dX10_nextToken_236 : decode cX10_nextToken 236 = .ok (.if_icmp .ne 7, 3) := by decide +kernel
theorem dX10_nextToken_239 : decode cX10_nextToken 239 = .ok (.iconst 3, 1) := by decide +kernel
theorem dX10_nextToken_240 : decode cX10_nextToken 240 = .ok (.goto 4, 3) := by decide +kernel
theorem dX10_nextToken_243 : decode cX10_nextToken 243 = .ok (.iconst 4, 1) := by decide +kernel
theorem dX10_nextToken_244 : decode cX10_nextToken 244 = .ok (.putfield 160, 3) := by decide +kernel
theorem dX10_nextToken_247 : decode cX10_nextToken 247 = .ok (.aload_n 0, 1) := by decide +kernel
theorem dX10_nextToken_248 : decode cX10_nextToken 248 = .ok (.dup, 1) := by decide +kernel
theorem dX10_nextToken_249 : decode cX10_nextToken 249 = .ok (.getfield 150, 3) := by decide +kernel
theorem dX10_nextToken_252 : decode cX10_nextToken 252 = .ok (.iconst 1, 1) := by decide +kernel
theorem dX10_nextToken_253 : decode cX10_nextToken 253 = .ok (.iadd, 1) := by decide +kernel
theorem dX10_nextToken_254 : decode cX10_nextToken 254 = .ok (.putfield 150, 3) := by decide +kernel
theorem dX10_nextToken_257 : decode cX10_nextToken 257 = .ok (.return_, 1) := by decide +kernel
theorem dX10_span_0 : decode cX10_span 0 = .ok (.aload_n 0, 1) := by decide +kernel
theorem dX10_span_1 : decode cX10_span 1 = .ok (.getfield 160, 3) := by decide +kernel
theorem dX10_span_4 : decode cX10_span 4 = .ok (.iconst 1, 1) := by decide +kernel
theorem dX10_span_5 : decode cX10_span 5 = .ok (.if_icmp .eq 5, 3) := by decide +kernel
theorem dX10_span_8 : decode cX10_span 8 = .ok (.iconst 1, 1) := by decide +kernel
theorem dX10_span_9 : decode cX10_span 9 = .ok (.ireturn, 1) := by decide +kernel
theorem dX10_span_10 : decode cX10_span 10 = .ok (.aload_n 0, 1) := by decide +kernel
theorem dX10_span_11 : decode cX10_span 11 = .ok (.getfield 166, 3) := by decide +kernel
theorem dX10_span_14 : decode cX10_span 14 = .ok (.iload_n 2, 1) := by decide +kernel
theorem dX10_span_15 : decode cX10_span 15 = .ok (.if_icmp .le 5, 3) := by decide +kernel
theorem dX10_span_18 : decode cX10_span 18 = .ok (.iconst 3, 1) := by decide +kernel
theorem dX10_span_19 : decode cX10_span 19 = .ok (.ireturn, 1) := by decide +kernel
theorem dX10_span_20 : decode cX10_span 20 = .ok (.aload_n 0, 1) := by decide +kernel
theorem dX10_span_21 : decode cX10_span 21 = .ok (.getfield 166, 3) := by decide +kernel
theorem dX10_span_24 : decode cX10_span 24 = .ok (.istore 4, 2) := by decide +kernel
theorem dX10_span_26 : decode cX10_span 26 = .ok (.aload_n 0, 1) := by decide +kernel
theorem dX10_span_27 : decode cX10_span 27 = .ok (.invokevirtual 176, 3) := by decide +kernel
theorem dX10_span_30 : decode cX10_span 30 = .ok (.aload_n 0, 1) := by decide +kernel
theorem dX10_span_31 : decode cX10_span 31 = .ok (.getfield 160, 3) := by decide +kernel
theorem dX10_span_34 : decode cX10_span 34 = .ok (.iconst 3, 1) := by decide +kernel
theorem dX10_span_35 : decode cX10_span 35 = .ok (.if_icmp .eq 5, 3) := by decide +kernel
theorem dX10_span_38 : decode cX10_span 38 = .ok (.iconst 1, 1) := by decide +kernel
theorem dX10_span_39 : decode cX10_span 39 = .ok (.ireturn, 1) := by decide +kernel
theorem dX10_span_40 : decode cX10_span 40 = .ok (.aload_n 0, 1) := by decide +kernel
theorem dX10_span_41 : decode cX10_span 41 = .ok (.invokevirtual 176, 3) := by decide +kernel
theorem dX10_span_44 : decode cX10_span 44 = .ok (.aload_n 0, 1) := by decide +kernel
theorem dX10_span_45 : decode cX10_span 45 = .ok (.getfield 160, 3) := by decide +kernel
theorem dX10_span_48 : decode cX10_span 48 = .ok (.iconst 1, 1) := by decide +kernel
theorem dX10_span_49 : decode cX10_span 49 = .ok (.if_icmp .eq 5, 3) := by decide +kernel
theorem dX10_span_52 : decode cX10_span 52 = .ok (.iconst 1, 1) := by decide +kernel
theorem dX10_span_53 : decode cX10_span 53 = .ok (.ireturn, 1) := by decide +kernel
theorem dX10_span_54 : decode cX10_span 54 = .ok (.aload_n 0, 1) := by decide +kernel
theorem dX10_span_55 : decode cX10_span 55 = .ok (.getfield 166, 3) := by decide +kernel
theorem dX10_span_58 : decode cX10_span 58 = .ok (.iload_n 2, 1) := by decide +kernel
theorem dX10_span_59 : decode cX10_span 59 = .ok (.if_icmp .gt 16, 3) := by decide +kernel
theorem dX10_span_62 : decode cX10_span 62 = .ok (.aload_n 0, 1) := by decide +kernel
theorem dX10_span_63 : decode cX10_span 63 = .ok (.getfield 166, 3) := by decide +kernel
theorem dX10_span_66 : decode cX10_span 66 = .ok (.iload 4, 2) := by decide +kernel
theorem dX10_span_68 : decode cX10_span 68 = .ok (.if_icmp .ge 9, 3) := by decide +kernel
theorem dX10_span_71 : decode cX10_span 71 = .ok (.iload_n 3, 1) := by decide +kernel
theorem dX10_span_72 : decode cX10_span 72 = .ok (.ifCond .ne 5, 3) := by decide +kernel
theorem dX10_span_75 : decode cX10_span 75 = .ok (.iconst 3, 1) := by decide +kernel
theorem dX10_span_76 : decode cX10_span 76 = .ok (.ireturn, 1) := by decide +kernel
theorem dX10_span_77 : decode cX10_span 77 = .ok (.aload_n 0, 1) := by decide +kernel
theorem dX10_span_78 : decode cX10_span 78 = .ok (.getfield 66, 3) := by decide +kernel
theorem dX10_span_81 : decode cX10_span 81 = .ok (.bipush 100, 2) := by decide +kernel
theorem dX10_span_83 : decode cX10_span 83 = .ok (.iload_n 1, 1) := by decide +kernel
theorem dX10_span_84 : decode cX10_span 84 = .ok (.iadd, 1) := by decide +kernel
theorem dX10_span_85 : decode cX10_span 85 = .ok (.iload 4, 2) := by decide +kernel
theorem dX10_span_87 : decode cX10_span 87 = .ok (.iastore, 1) := by decide +kernel
theorem dX10_span_88 : decode cX10_span 88 = .ok (.aload_n 0, 1) := by decide +kernel
theorem dX10_span_89 : decode cX10_span 89 = .ok (.getfield 66, 3) := by decide +kernel
theorem dX10_span_92 : decode cX10_span 92 = .ok (.bipush 101, 2) := by decide +kernel
theorem dX10_span_94 : decode cX10_span 94 = .ok (.iload_n 1, 1) := by decide +kernel
theorem dX10_span_95 : decode cX10_span 95 = .ok (.iadd, 1) := by decide +kernel
theorem dX10_span_96 : decode cX10_span 96 = .ok (.aload_n 0, 1) := by decide +kernel
theorem dX10_span_97 : decode cX10_span 97 = .ok (.getfield 166, 3) := by decide +kernel
theorem dX10_span_100 : decode cX10_span 100 = .ok (.iastore, 1) := by decide +kernel
theorem dX10_span_101 : decode cX10_span 101 = .ok (.aload_n 0, 1) := by decide +kernel
theorem dX10_span_102 : decode cX10_span 102 = .ok (.invokevirtual 176, 3) := by decide +kernel
theorem dX10_span_105 : decode cX10_span 105 = .ok (.iconst 0, 1) := by decide +kernel
theorem dX10_span_106 : decode cX10_span 106 = .ok (.ireturn, 1) := by decide +kernel
theorem dX10_clause_0 : decode cX10_clause 0 = .ok (.iload_n 1, 1) := by decide +kernel
theorem dX10_clause_1 : decode cX10_clause 1 = .ok (.iconst 5, 1) := by decide +kernel
theorem dX10_clause_2 : decode cX10_clause 2 = .ok (.if_icmp .ne 12, 3) := by decide +kernel
theorem dX10_clause_5 : decode cX10_clause 5 = .ok (.aload_n 0, 1) := by decide +kernel
theorem dX10_clause_6 : decode cX10_clause 6 = .ok (.iconst 0, 1) := by decide +kernel
theorem dX10_clause_7 : decode cX10_clause 7 = .ok (.bipush 15, 2) := by decide +kernel
theorem dX10_clause_9 : decode cX10_clause 9 = .ok (.iconst 0, 1) := by decide +kernel
theorem dX10_clause_10 : decode cX10_clause 10 = .ok (.invokevirtual 179, 3) := by decide +kernel
theorem dX10_clause_13 : decode cX10_clause 13 = .ok (.ireturn, 1) := by decide +kernel
theorem dX10_clause_14 : decode cX10_clause 14 = .ok (.iload_n 1, 1) := by decide +kernel
theorem dX10_clause_15 : decode cX10_clause 15 = .ok (.bipush 6, 2) := by decide +kernel
theorem dX10_clause_17 : decode cX10_clause 17 = .ok (.if_icmp .ne 13, 3) := by decide +kernel
theorem dX10_clause_20 : decode cX10_clause 20 = .ok (.aload_n 0, 1) := by decide +kernel
theorem dX10_clause_21 : decode cX10_clause 21 = .ok (.iconst 2, 1) := by decide +kernel
theorem dX10_clause_22 : decode cX10_clause 22 = .ok (.sipush 1439, 3) := by decide +kernel
theorem dX10_clause_25 : decode cX10_clause 25 = .ok (.iconst 1, 1) := by decide +kernel
theorem dX10_clause_26 : decode cX10_clause 26 = .ok (.invokevirtual 179, 3) := by decide +kernel
theorem dX10_clause_29 : decode cX10_clause 29 = .ok (.ireturn, 1) := by decide +kernel
theorem dX10_clause_30 : decode cX10_clause 30 = .ok (.iload_n 1, 1) := by decide +kernel
theorem dX10_clause_31 : decode cX10_clause 31 = .ok (.bipush 7, 2) := by decide +kernel
theorem dX10_clause_33 : decode cX10_clause 33 = .ok (.if_icmp .ne 13, 3) := by decide +kernel
theorem dX10_clause_36 : decode cX10_clause 36 = .ok (.aload_n 0, 1) := by decide +kernel
theorem dX10_clause_37 : decode cX10_clause 37 = .ok (.iconst 4, 1) := by decide +kernel
theorem dX10_clause_38 : decode cX10_clause 38 = .ok (.sipush 999, 3) := by decide +kernel
theorem dX10_clause_41 : decode cX10_clause 41 = .ok (.iconst 0, 1) := by decide +kernel
theorem dX10_clause_42 : decode cX10_clause 42 = .ok (.invokevirtual 179, 3) := by decide +kernel
theorem dX10_clause_45 : decode cX10_clause 45 = .ok (.ireturn, 1) := by decide +kernel
theorem dX10_clause_46 : decode cX10_clause 46 = .ok (.aload_n 0, 1) := by decide +kernel
theorem dX10_clause_47 : decode cX10_clause 47 = .ok (.bipush 6, 2) := by decide +kernel
theorem dX10_clause_49 : decode cX10_clause 49 = .ok (.bipush 31, 2) := by decide +kernel
theorem dX10_clause_51 : decode cX10_clause 51 = .ok (.iconst 0, 1) := by decide +kernel
theorem dX10_clause_52 : decode cX10_clause 52 = .ok (.invokevirtual 179, 3) := by decide +kernel
theorem dX10_clause_55 : decode cX10_clause 55 = .ok (.istore_n 2, 1) := by decide +kernel
theorem dX10_clause_56 : decode cX10_clause 56 = .ok (.iload_n 2, 1) := by decide +kernel
theorem dX10_clause_57 : decode cX10_clause 57 = .ok (.ifCond .eq 7, 3) := by decide +kernel
theorem dX10_clause_60 : decode cX10_clause 60 = .ok (.iload_n 2, 1) := by decide +kernel
theorem dX10_clause_61 : decode cX10_clause 61 = .ok (.goto 12, 3) := by decide +kernel
theorem dX10_clause_64 : decode cX10_clause 64 = .ok (.aload_n 0, 1) := by decide +kernel
theorem dX10_clause_65 : decode cX10_clause 65 = .ok (.bipush 8, 2) := by decide +kernel
theorem dX10_clause_67 : decode cX10_clause 67 = .ok (.bipush 31, 2) := by decide +kernel
theorem dX10_clause_69 : decode cX10_clause 69 = .ok (.iconst 0, 1) := by decide +kernel
theorem dX10_clause_70 : decode cX10_clause 70 = .ok (.invokevirtual 179, 3) := by decide +kernel
theorem dX10_clause_73 : decode cX10_clause 73 = .ok (.ireturn, 1) := by decide +kernel
theorem dX10_read_0 : decode cX10_read 0 = .ok (.iconst 0, 1) := by decide +kernel
theorem dX10_read_1 : decode cX10_read 1 = .ok (.istore_n 1, 1) := by decide +kernel
theorem dX10_read_2 : decode cX10_read 2 = .ok (.iconst 0, 1) := by decide +kernel
theorem dX10_read_3 : decode cX10_read 3 = .ok (.istore_n 2, 1) := by decide +kernel
theorem dX10_read_4 : decode cX10_read 4 = .ok (.iload_n 2, 1) := by decide +kernel
theorem dX10_read_5 : decode cX10_read 5 = .ok (.bipush 10, 2) := by decide +kernel
theorem dX10_read_7 : decode cX10_read 7 = .ok (.if_icmp .ge 62, 3) := by decide +kernel
theorem dX10_read_10 : decode cX10_read 10 = .ok (.aload_n 0, 1) := by decide +kernel
theorem dX10_read_11 : decode cX10_read 11 = .ok (.getfield 66, 3) := by decide +kernel
theorem dX10_read_14 : decode cX10_read 14 = .ok (.bipush 100, 2) := by decide +kernel
theorem dX10_read_16 : decode cX10_read 16 = .ok (.iload_n 2, 1) := by decide +kernel
theorem dX10_read_17 : decode cX10_read 17 = .ok (.iadd, 1) := by decide +kernel
theorem dX10_read_18 : decode cX10_read 18 = .ok (.iload_n 2, 1) := by decide +kernel
theorem dX10_read_19 : decode cX10_read 19 = .ok (.iconst 2, 1) := by decide +kernel
theorem dX10_read_20 : decode cX10_read 20 = .ok (.irem, 1) := by decide +kernel
theorem dX10_read_21 : decode cX10_read 21 = .ok (.ifCond .ne 7, 3) := by decide +kernel
theorem dX10_read_24 : decode cX10_read 24 = .ok (.iconst 0, 1) := by decide +kernel
theorem dX10_read_25 : decode cX10_read 25 = .ok (.goto 37, 3) := by decide +kernel
theorem dX10_read_28 : decode cX10_read 28 = .ok (.iload_n 2, 1) := by decide +kernel
theorem dX10_read_29 : decode cX10_read 29 = .ok (.iconst 1, 1) := by decide +kernel
theorem dX10_read_30 : decode cX10_read 30 = .ok (.if_icmp .ne 8, 3) := by decide +kernel
theorem dX10_read_33 : decode cX10_read 33 = .ok (.bipush 15, 2) := by decide +kernel
theorem dX10_read_35 : decode cX10_read 35 = .ok (.goto 27, 3) := by decide +kernel
theorem dX10_read_38 : decode cX10_read 38 = .ok (.iload_n 2, 1) := by decide +kernel
theorem dX10_read_39 : decode cX10_read 39 = .ok (.iconst 3, 1) := by decide +kernel
theorem dX10_read_40 : decode cX10_read 40 = .ok (.if_icmp .ne 9, 3) := by decide +kernel
theorem dX10_read_43 : decode cX10_read 43 = .ok (.sipush 1439, 3) := by decide +kernel
theorem dX10_read_46 : decode cX10_read 46 = .ok (.goto 16, 3) := by decide +kernel
theorem dX10_read_49 : decode cX10_read 49 = .ok (.iload_n 2, 1) := by decide +kernel
theorem dX10_read_50 : decode cX10_read 50 = .ok (.iconst 5, 1) := by decide +kernel
theorem dX10_read_51 : decode cX10_read 51 = .ok (.if_icmp .ne 9, 3) := by decide +kernel
theorem dX10_read_54 : decode cX10_read 54 = .ok (.sipush 999, 3) := by decide +kernel
theorem dX10_read_57 : decode cX10_read 57 = .ok (.goto 5, 3) := by decide +kernel
theorem dX10_read_60 : decode cX10_read 60 = .ok (.bipush 31, 2) := by decide +kernel
theorem dX10_read_62 : decode cX10_read 62 = .ok (.iastore, 1) := by decide +kernel
theorem dX10_read_63 : decode cX10_read 63 = .ok (.iinc 2 1, 3) := by decide +kernel
theorem dX10_read_66 : decode cX10_read 66 = .ok (.goto (-62), 3) := by decide +kernel
theorem dX10_read_69 : decode cX10_read 69 = .ok (.aload_n 0, 1) := by decide +kernel
theorem dX10_read_70 : decode cX10_read 70 = .ok (.iconst 0, 1) := by decide +kernel
theorem dX10_read_71 : decode cX10_read 71 = .ok (.putfield 150, 3) := by decide +kernel
theorem dX10_read_74 : decode cX10_read 74 = .ok (.aload_n 0, 1) := by decide +kernel
theorem dX10_read_75 : decode cX10_read 75 = .ok (.invokevirtual 176, 3) := by decide +kernel
theorem dX10_read_78 : decode cX10_read 78 = .ok (.aload_n 0, 1) := by decide +kernel
theorem dX10_read_79 : decode cX10_read 79 = .ok (.getfield 160, 3) := by decide +kernel
theorem dX10_read_82 : decode cX10_read 82 = .ok (.ifCond .eq 65, 3) := by decide +kernel
theorem dX10_read_85 : decode cX10_read 85 = .ok (.aload_n 0, 1) := by decide +kernel
theorem dX10_read_86 : decode cX10_read 86 = .ok (.getfield 160, 3) := by decide +kernel
theorem dX10_read_89 : decode cX10_read 89 = .ok (.istore_n 2, 1) := by decide +kernel
theorem dX10_read_90 : decode cX10_read 90 = .ok (.iload_n 2, 1) := by decide +kernel
theorem dX10_read_91 : decode cX10_read 91 = .ok (.iconst 5, 1) := by decide +kernel
theorem dX10_read_92 : decode cX10_read 92 = .ok (.if_icmp .ge 5, 3) := by decide +kernel
theorem dX10_read_95 : decode cX10_read 95 = .ok (.iconst 1, 1) := by decide +kernel
theorem dX10_read_96 : decode cX10_read 96 = .ok (.ireturn, 1) := by decide +kernel
theorem dX10_read_97 : decode cX10_read 97 = .ok (.iload_n 1, 1) := by decide +kernel
theorem dX10_read_98 : decode cX10_read 98 = .ok (.iload_n 2, 1) := by decide +kernel
theorem dX10_read_99 : decode cX10_read 99 = .ok (.ishr, 1) := by decide +kernel
theorem dX10_read_100 : decode cX10_read 100 = .ok (.iconst 1, 1) := by decide +kernel
theorem dX10_read_101 : decode cX10_read 101 = .ok (.iand, 1) := by decide +kernel
theorem dX10_read_102 : decode cX10_read 102 = .ok (.iconst 1, 1) := by decide +kernel
theorem dX10_read_103 : decode cX10_read 103 = .ok (.if_icmp .ne 5, 3) := by decide +kernel
theorem dX10_read_106 : decode cX10_read 106 = .ok (.iconst 2, 1) := by decide +kernel
theorem dX10_read_107 : decode cX10_read 107 = .ok (.ireturn, 1) := by decide +kernel
theorem dX10_read_108 : decode cX10_read 108 = .ok (.iload_n 1, 1) := by decide +kernel
theorem dX10_read_109 : decode cX10_read 109 = .ok (.iconst 1, 1) := by decide +kernel
theorem dX10_read_110 : decode cX10_read 110 = .ok (.iload_n 2, 1) := by decide +kernel
theorem dX10_read_111 : decode cX10_read 111 = .ok (.ishl, 1) := by decide +kernel
theorem dX10_read_112 : decode cX10_read 112 = .ok (.ior, 1) := by decide +kernel
theorem dX10_read_113 : decode cX10_read 113 = .ok (.istore_n 1, 1) := by decide +kernel
theorem dX10_read_114 : decode cX10_read 114 = .ok (.aload_n 0, 1) := by decide +kernel
theorem dX10_read_115 : decode cX10_read 115 = .ok (.invokevirtual 176, 3) := by decide +kernel
theorem dX10_read_118 : decode cX10_read 118 = .ok (.aload_n 0, 1) := by decide +kernel
theorem dX10_read_119 : decode cX10_read 119 = .ok (.iload_n 2, 1) := by decide +kernel
theorem dX10_read_120 : decode cX10_read 120 = .ok (.invokevirtual 183, 3) := by decide +kernel
theorem dX10_read_123 : decode cX10_read 123 = .ok (.istore_n 3, 1) := by decide +kernel
theorem dX10_read_124 : decode cX10_read 124 = .ok (.iload_n 3, 1) := by decide +kernel
theorem dX10_read_125 : decode cX10_read 125 = .ok (.ifCond .eq 5, 3) := by decide +kernel
theorem dX10_read_128 : decode cX10_read 128 = .ok (.iload_n 3, 1) := by decide +kernel
theorem dX10_read_129 : decode cX10_read 129 = .ok (.ireturn, 1) := by decide +kernel
theorem dX10_read_130 : decode cX10_read 130 = .ok (.aload_n 0, 1) := by decide +kernel
theorem dX10_read_131 : decode cX10_read 131 = .ok (.getfield 160, 3) := by decide +kernel
theorem dX10_read_134 : decode cX10_read 134 = .ok (.iconst 2, 1) := by decide +kernel
theorem dX10_read_135 : decode cX10_read 135 = .ok (.if_icmp .eq 5, 3) := by decide +kernel
theorem dX10_read_138 : decode cX10_read 138 = .ok (.iconst 1, 1) := by decide +kernel
theorem dX10_read_139 : decode cX10_read 139 = .ok (.ireturn, 1) := by decide +kernel
theorem dX10_read_140 : decode cX10_read 140 = .ok (.aload_n 0, 1) := by decide +kernel
theorem dX10_read_141 : decode cX10_read 141 = .ok (.invokevirtual 176, 3) := by decide +kernel
theorem dX10_read_144 : decode cX10_read 144 = .ok (.goto (-66), 3) := by decide +kernel
theorem dX10_read_147 : decode cX10_read 147 = .ok (.iconst 0, 1) := by decide +kernel
theorem dX10_read_148 : decode cX10_read 148 = .ok (.ireturn, 1) := by decide +kernel
theorem dX10_licence_0 : decode cX10_licence 0 = .ok (.aload_n 0, 1) := by decide +kernel
theorem dX10_licence_1 : decode cX10_licence 1 = .ok (.getfield 186, 3) := by decide +kernel
theorem dX10_licence_4 : decode cX10_licence 4 = .ok (.bipush 10, 2) := by decide +kernel
theorem dX10_licence_6 : decode cX10_licence 6 = .ok (.if_icmp .ne 5, 3) := by decide +kernel
theorem dX10_licence_9 : decode cX10_licence 9 = .ok (.iconst (-1), 1) := by decide +kernel
theorem dX10_licence_10 : decode cX10_licence 10 = .ok (.ireturn, 1) := by decide +kernel
theorem dX10_licence_11 : decode cX10_licence 11 = .ok (.aload_n 0, 1) := by decide +kernel
theorem dX10_licence_12 : decode cX10_licence 12 = .ok (.aload_n 0, 1) := by decide +kernel
theorem dX10_licence_13 : decode cX10_licence 13 = .ok (.invokevirtual 189, 3) := by decide +kernel
theorem dX10_licence_16 : decode cX10_licence 16 = .ok (.putfield 69, 3) := by decide +kernel
theorem dX10_licence_19 : decode cX10_licence 19 = .ok (.aload_n 0, 1) := by decide +kernel
theorem dX10_licence_20 : decode cX10_licence 20 = .ok (.aload_n 0, 1) := by decide +kernel
theorem dX10_licence_21 : decode cX10_licence 21 = .ok (.getfield 69, 3) := by decide +kernel
theorem dX10_licence_24 : decode cX10_licence 24 = .ok (.ifCond .ne 7, 3) := by decide +kernel
theorem dX10_licence_27 : decode cX10_licence 27 = .ok (.iconst (-1), 1) := by decide +kernel
theorem dX10_licence_28 : decode cX10_licence 28 = .ok (.goto 7, 3) := by decide +kernel
theorem dX10_licence_31 : decode cX10_licence 31 = .ok (.aload_n 0, 1) := by decide +kernel
theorem dX10_licence_32 : decode cX10_licence 32 = .ok (.getfield 157, 3) := by decide +kernel
theorem dX10_licence_35 : decode cX10_licence 35 = .ok (.putfield 72, 3) := by decide +kernel
theorem dX10_licence_38 : decode cX10_licence 38 = .ok (.aload_n 0, 1) := by decide +kernel
theorem dX10_licence_39 : decode cX10_licence 39 = .ok (.iconst 0, 1) := by decide +kernel
theorem dX10_licence_40 : decode cX10_licence 40 = .ok (.putfield 139, 3) := by decide +kernel
theorem dX10_licence_43 : decode cX10_licence 43 = .ok (.aload_n 0, 1) := by decide +kernel
theorem dX10_licence_44 : decode cX10_licence 44 = .ok (.getfield 69, 3) := by decide +kernel
theorem dX10_licence_47 : decode cX10_licence 47 = .ok (.ifCond .eq 5, 3) := by decide +kernel
theorem dX10_licence_50 : decode cX10_licence 50 = .ok (.iconst (-1), 1) := by decide +kernel
theorem dX10_licence_51 : decode cX10_licence 51 = .ok (.ireturn, 1) := by decide +kernel
theorem dX10_licence_52 : decode cX10_licence 52 = .ok (.iconst 0, 1) := by decide +kernel
theorem dX10_licence_53 : decode cX10_licence 53 = .ok (.istore_n 1, 1) := by decide +kernel
theorem dX10_licence_54 : decode cX10_licence 54 = .ok (.iload_n 1, 1) := by decide +kernel
theorem dX10_licence_55 : decode cX10_licence 55 = .ok (.bipush 10, 2) := by decide +kernel
theorem dX10_licence_57 : decode cX10_licence 57 = .ok (.if_icmp .ge 32, 3) := by decide +kernel
theorem dX10_licence_60 : decode cX10_licence 60 = .ok (.aload_n 0, 1) := by decide +kernel
theorem dX10_licence_61 : decode cX10_licence 61 = .ok (.getfield 66, 3) := by decide +kernel
theorem dX10_licence_64 : decode cX10_licence 64 = .ok (.bipush 10, 2) := by decide +kernel
theorem dX10_licence_66 : decode cX10_licence 66 = .ok (.aload_n 0, 1) := by decide +kernel
theorem dX10_licence_67 : decode cX10_licence 67 = .ok (.getfield 186, 3) := by decide +kernel
theorem dX10_licence_70 : decode cX10_licence 70 = .ok (.imul, 1) := by decide +kernel
theorem dX10_licence_71 : decode cX10_licence 71 = .ok (.iload_n 1, 1) := by decide +kernel
theorem dX10_licence_72 : decode cX10_licence 72 = .ok (.iadd, 1) := by decide +kernel
theorem dX10_licence_73 : decode cX10_licence 73 = .ok (.aload_n 0, 1) := by decide +kernel
theorem dX10_licence_74 : decode cX10_licence 74 = .ok (.getfield 66, 3) := by decide +kernel
theorem dX10_licence_77 : decode cX10_licence 77 = .ok (.bipush 100, 2) := by decide +kernel
theorem dX10_licence_79 : decode cX10_licence 79 = .ok (.iload_n 1, 1) := by decide +kernel
theorem dX10_licence_80 : decode cX10_licence 80 = .ok (.iadd, 1) := by decide +kernel
theorem dX10_licence_81 : decode cX10_licence 81 = .ok (.iaload, 1) := by decide +kernel
theorem dX10_licence_82 : decode cX10_licence 82 = .ok (.iastore, 1) := by decide +kernel
theorem dX10_licence_83 : decode cX10_licence 83 = .ok (.iinc 1 1, 3) := by decide +kernel
theorem dX10_licence_86 : decode cX10_licence 86 = .ok (.goto (-32), 3) := by decide +kernel
theorem dX10_licence_89 : decode cX10_licence 89 = .ok (.aload_n 0, 1) := by decide +kernel
theorem dX10_licence_90 : decode cX10_licence 90 = .ok (.dup, 1) := by decide +kernel
theorem dX10_licence_91 : decode cX10_licence 91 = .ok (.getfield 186, 3) := by decide +kernel
theorem dX10_licence_94 : decode cX10_licence 94 = .ok (.iconst 1, 1) := by decide +kernel
theorem dX10_licence_95 : decode cX10_licence 95 = .ok (.iadd, 1) := by decide +kernel
theorem dX10_licence_96 : decode cX10_licence 96 = .ok (.putfield 186, 3) := by decide +kernel
theorem dX10_licence_99 : decode cX10_licence 99 = .ok (.aload_n 0, 1) := by decide +kernel
theorem dX10_licence_100 : decode cX10_licence 100 = .ok (.getfield 186, 3) := by decide +kernel
theorem dX10_licence_103 : decode cX10_licence 103 = .ok (.iconst 1, 1) := by decide +kernel
theorem dX10_licence_104 : decode cX10_licence 104 = .ok (.isub, 1) := by decide +kernel
theorem dX10_licence_105 : decode cX10_licence 105 = .ok (.ireturn, 1) := by decide +kernel
theorem dX10_fault_0 : decode cX10_fault 0 = .ok (.iload_n 1, 1) := by decide +kernel
theorem dX10_fault_1 : decode cX10_fault 1 = .ok (.ifCond .ne 10, 3) := by decide +kernel
theorem dX10_fault_4 : decode cX10_fault 4 = .ok (.aload_n 0, 1) := by decide +kernel
theorem dX10_fault_5 : decode cX10_fault 5 = .ok (.getfield 69, 3) := by decide +kernel
theorem dX10_fault_8 : decode cX10_fault 8 = .ok (.goto 16, 3) := by decide +kernel
theorem dX10_fault_11 : decode cX10_fault 11 = .ok (.iload_n 1, 1) := by decide +kernel
theorem dX10_fault_12 : decode cX10_fault 12 = .ok (.iconst 1, 1) := by decide +kernel
theorem dX10_fault_13 : decode cX10_fault 13 = .ok (.if_icmp .ne 10, 3) := by decide +kernel
theorem dX10_fault_16 : decode cX10_fault 16 = .ok (.aload_n 0, 1) := by decide +kernel
theorem dX10_fault_17 : decode cX10_fault 17 = .ok (.getfield 72, 3) := by decide +kernel
theorem dX10_fault_20 : decode cX10_fault 20 = .ok (.goto 4, 3) := by decide +kernel
theorem dX10_fault_23 : decode cX10_fault 23 = .ok (.iconst (-1), 1) := by decide +kernel
theorem dX10_fault_24 : decode cX10_fault 24 = .ok (.ireturn, 1) := by decide +kernel
theorem dX10_isTime_0 : decode cX10_isTime 0 = .ok (.aload_n 0, 1) := by decide +kernel
theorem dX10_isTime_1 : decode cX10_isTime 1 = .ok (.getfield 66, 3) := by decide +kernel
theorem dX10_isTime_4 : decode cX10_isTime 4 = .ok (.bipush 10, 2) := by decide +kernel
theorem dX10_isTime_6 : decode cX10_isTime 6 = .ok (.iload_n 1, 1) := by decide +kernel
theorem dX10_isTime_7 : decode cX10_isTime 7 = .ok (.imul, 1) := by decide +kernel
theorem dX10_isTime_8 : decode cX10_isTime 8 = .ok (.iconst 2, 1) := by decide +kernel
theorem dX10_isTime_9 : decode cX10_isTime 9 = .ok (.iadd, 1) := by decide +kernel
theorem dX10_isTime_10 : decode cX10_isTime 10 = .ok (.iaload, 1) := by decide +kernel
theorem dX10_isTime_11 : decode cX10_isTime 11 = .ok (.istore_n 3, 1) := by decide +kernel
theorem dX10_isTime_12 : decode cX10_isTime 12 = .ok (.aload_n 0, 1) := by decide +kernel
theorem dX10_isTime_13 : decode cX10_isTime 13 = .ok (.getfield 66, 3) := by decide +kernel
theorem dX10_isTime_16 : decode cX10_isTime 16 = .ok (.bipush 10, 2) := by decide +kernel
theorem dX10_isTime_18 : decode cX10_isTime 18 = .ok (.iload_n 1, 1) := by decide +kernel
theorem dX10_isTime_19 : decode cX10_isTime 19 = .ok (.imul, 1) := by decide +kernel
theorem dX10_isTime_20 : decode cX10_isTime 20 = .ok (.iconst 3, 1) := by decide +kernel
theorem dX10_isTime_21 : decode cX10_isTime 21 = .ok (.iadd, 1) := by decide +kernel
theorem dX10_isTime_22 : decode cX10_isTime 22 = .ok (.iaload, 1) := by decide +kernel
theorem dX10_isTime_23 : decode cX10_isTime 23 = .ok (.istore 4, 2) := by decide +kernel
theorem dX10_isTime_25 : decode cX10_isTime 25 = .ok (.iload_n 2, 1) := by decide +kernel
theorem dX10_isTime_26 : decode cX10_isTime 26 = .ok (.sipush 1440, 3) := by decide +kernel
theorem dX10_isTime_29 : decode cX10_isTime 29 = .ok (.irem, 1) := by decide +kernel
theorem dX10_isTime_30 : decode cX10_isTime 30 = .ok (.istore 5, 2) := by decide +kernel
theorem dX10_isTime_32 : decode cX10_isTime 32 = .ok (.iload_n 3, 1) := by decide +kernel
theorem dX10_isTime_33 : decode cX10_isTime 33 = .ok (.iload 4, 2) := by decide +kernel
theorem dX10_isTime_35 : decode cX10_isTime 35 = .ok (.if_icmp .gt 14, 3) := by decide +kernel
theorem dX10_isTime_38 : decode cX10_isTime 38 = .ok (.iload 5, 2) := by decide +kernel
theorem dX10_isTime_40 : decode cX10_isTime 40 = .ok (.iload_n 3, 1) := by decide +kernel
theorem dX10_isTime_41 : decode cX10_isTime 41 = .ok (.iload 4, 2) := by decide +kernel
theorem dX10_isTime_43 : decode cX10_isTime 43 = .ok (.invokestatic 87, 3) := by decide +kernel
theorem dX10_isTime_46 : decode cX10_isTime 46 = .ok (.goto 21, 3) := by decide +kernel
theorem dX10_isTime_49 : decode cX10_isTime 49 = .ok (.iload 5, 2) := by decide +kernel
theorem dX10_isTime_51 : decode cX10_isTime 51 = .ok (.iload_n 3, 1) := by decide +kernel
theorem dX10_isTime_52 : decode cX10_isTime 52 = .ok (.if_icmp .ge 10, 3) := by decide +kernel
theorem dX10_isTime_55 : decode cX10_isTime 55 = .ok (.iload 5, 2) := by decide +kernel
theorem dX10_isTime_57 : decode cX10_isTime 57 = .ok (.iload 4, 2) := by decide +kernel
theorem dX10_isTime_59 : decode cX10_isTime 59 = .ok (.if_icmp .gt 7, 3) := by decide +kernel
theorem dX10_isTime_62 : decode cX10_isTime 62 = .ok (.iconst 1, 1) := by decide +kernel
theorem dX10_isTime_63 : decode cX10_isTime 63 = .ok (.goto 4, 3) := by decide +kernel
theorem dX10_isTime_66 : decode cX10_isTime 66 = .ok (.iconst 0, 1) := by decide +kernel
theorem dX10_isTime_67 : decode cX10_isTime 67 = .ok (.ireturn, 1) := by decide +kernel
theorem dX10_answer_0 : decode cX10_answer 0 = .ok (.bipush 10, 2) := by decide +kernel
theorem dX10_answer_2 : decode cX10_answer 2 = .ok (.iload_n 2, 1) := by decide +kernel
theorem dX10_answer_3 : decode cX10_answer 3 = .ok (.imul, 1) := by decide +kernel
theorem dX10_answer_4 : decode cX10_answer 4 = .ok (.istore_n 3, 1) := by decide +kernel
theorem dX10_answer_5 : decode cX10_answer 5 = .ok (.aload_n 0, 1) := by decide +kernel
theorem dX10_answer_6 : decode cX10_answer 6 = .ok (.getfield 31, 3) := by decide +kernel
theorem dX10_answer_9 : decode cX10_answer 9 = .ok (.aload_n 0, 1) := by decide +kernel
theorem dX10_answer_10 : decode cX10_answer 10 = .ok (.getfield 60, 3) := by decide +kernel
theorem dX10_answer_13 : decode cX10_answer 13 = .ok (.iload_n 1, 1) := by decide +kernel
theorem dX10_answer_14 : decode cX10_answer 14 = .ok (.iaload, 1) := by decide +kernel
theorem dX10_answer_15 : decode cX10_answer 15 = .ok (.iaload, 1) := by decide +kernel
theorem dX10_answer_16 : decode cX10_answer 16 = .ok (.aload_n 0, 1) := by decide +kernel
theorem dX10_answer_17 : decode cX10_answer 17 = .ok (.getfield 66, 3) := by decide +kernel
theorem dX10_answer_20 : decode cX10_answer 20 = .ok (.iload_n 3, 1) := by decide +kernel
theorem dX10_answer_21 : decode cX10_answer 21 = .ok (.iaload, 1) := by decide +kernel
theorem dX10_answer_22 : decode cX10_answer 22 = .ok (.aload_n 0, 1) := by decide +kernel
theorem dX10_answer_23 : decode cX10_answer 23 = .ok (.getfield 66, 3) := by decide +kernel
theorem dX10_answer_26 : decode cX10_answer 26 = .ok (.iload_n 3, 1) := by decide +kernel
theorem dX10_answer_27 : decode cX10_answer 27 = .ok (.iconst 1, 1) := by decide +kernel
theorem dX10_answer_28 : decode cX10_answer 28 = .ok (.iadd, 1) := by decide +kernel
theorem dX10_answer_29 : decode cX10_answer 29 = .ok (.iaload, 1) := by decide +kernel
theorem dX10_answer_30 : decode cX10_answer 30 = .ok (.invokestatic 87, 3) := by decide +kernel
theorem dX10_answer_33 : decode cX10_answer 33 = .ok (.ifCond .ne 5, 3) := by decide +kernel
theorem dX10_answer_36 : decode cX10_answer 36 = .ok (.iconst 1, 1) := by decide +kernel
theorem dX10_answer_37 : decode cX10_answer 37 = .ok (.ireturn, 1) := by decide +kernel
theorem dX10_answer_38 : decode cX10_answer 38 = .ok (.iconst 1, 1) := by decide +kernel
theorem dX10_answer_39 : decode cX10_answer 39 = .ok (.istore 4, 2) := by decide +kernel
theorem dX10_answer_41 : decode cX10_answer 41 = .ok (.iconst 0, 1) := by decide +kernel
theorem dX10_answer_42 : decode cX10_answer 42 = .ok (.istore 5, 2) := by decide +kernel
theorem dX10_answer_44 : decode cX10_answer 44 = .ok (.iload 5, 2) := by decide +kernel
theorem dX10_answer_46 : decode cX10_answer 46 = .ok (.aload_n 0, 1) := by decide +kernel
theorem dX10_answer_47 : decode cX10_answer 47 = .ok (.getfield 105, 3) := by decide +kernel
theorem dX10_answer_50 : decode cX10_answer 50 = .ok (.if_icmp .ge 95, 3) := by decide +kernel
theorem dX10_answer_53 : decode cX10_answer 53 = .ok (.aload_n 0, 1) := by decide +kernel
theorem dX10_answer_54 : decode cX10_answer 54 = .ok (.getfield 57, 3) := by decide +kernel
theorem dX10_answer_57 : decode cX10_answer 57 = .ok (.iload 5, 2) := by decide +kernel
theorem dX10_answer_59 : decode cX10_answer 59 = .ok (.iaload, 1) := by decide +kernel
theorem dX10_answer_60 : decode cX10_answer 60 = .ok (.iload_n 1, 1) := by decide +kernel
theorem dX10_answer_61 : decode cX10_answer 61 = .ok (.if_icmp .eq 6, 3) := by decide +kernel
theorem dX10_answer_64 : decode cX10_answer 64 = .ok (.goto 75, 3) := by decide +kernel
theorem dX10_answer_67 : decode cX10_answer 67 = .ok (.aload_n 0, 1) := by decide +kernel
theorem dX10_answer_68 : decode cX10_answer 68 = .ok (.getfield 40, 3) := by decide +kernel
theorem dX10_answer_71 : decode cX10_answer 71 = .ok (.iload 5, 2) := by decide +kernel
theorem dX10_answer_73 : decode cX10_answer 73 = .ok (.iaload, 1) := by decide +kernel
theorem dX10_answer_74 : decode cX10_answer 74 = .ok (.aload_n 0, 1) := by decide +kernel
theorem dX10_answer_75 : decode cX10_answer 75 = .ok (.getfield 66, 3) := by decide +kernel
theorem dX10_answer_78 : decode cX10_answer 78 = .ok (.iload_n 3, 1) := by decide +kernel
theorem dX10_answer_79 : decode cX10_answer 79 = .ok (.iconst 4, 1) := by decide +kernel
theorem dX10_answer_80 : decode cX10_answer 80 = .ok (.iadd, 1) := by decide +kernel
theorem dX10_answer_81 : decode cX10_answer 81 = .ok (.iaload, 1) := by decide +kernel
theorem dX10_answer_82 : decode cX10_answer 82 = .ok (.aload_n 0, 1) := by decide +kernel
theorem dX10_answer_83 : decode cX10_answer 83 = .ok (.getfield 66, 3) := by decide +kernel
theorem dX10_answer_86 : decode cX10_answer 86 = .ok (.iload_n 3, 1) := by decide +kernel
theorem dX10_answer_87 : decode cX10_answer 87 = .ok (.iconst 5, 1) := by decide +kernel
theorem dX10_answer_88 : decode cX10_answer 88 = .ok (.iadd, 1) := by decide +kernel
theorem dX10_answer_89 : decode cX10_answer 89 = .ok (.iaload, 1) := by decide +kernel
theorem dX10_answer_90 : decode cX10_answer 90 = .ok (.invokestatic 87, 3) := by decide +kernel
theorem dX10_answer_93 : decode cX10_answer 93 = .ok (.ifCond .ne 5, 3) := by decide +kernel
theorem dX10_answer_96 : decode cX10_answer 96 = .ok (.iconst 2, 1) := by decide +kernel
theorem dX10_answer_97 : decode cX10_answer 97 = .ok (.ireturn, 1) := by decide +kernel
theorem dX10_answer_98 : decode cX10_answer 98 = .ok (.aload_n 0, 1) := by decide +kernel
theorem dX10_answer_99 : decode cX10_answer 99 = .ok (.getfield 34, 3) := by decide +kernel
theorem dX10_answer_102 : decode cX10_answer 102 = .ok (.iload 5, 2) := by decide +kernel
theorem dX10_answer_104 : decode cX10_answer 104 = .ok (.iaload, 1) := by decide +kernel
theorem dX10_answer_105 : decode cX10_answer 105 = .ok (.istore 6, 2) := by decide +kernel
theorem dX10_answer_107 : decode cX10_answer 107 = .ok (.iload 6, 2) := by decide +kernel
theorem dX10_answer_109 : decode cX10_answer 109 = .ok (.aload_n 0, 1) := by decide +kernel
theorem dX10_answer_110 : decode cX10_answer 110 = .ok (.getfield 37, 3) := by decide +kernel
theorem dX10_answer_113 : decode cX10_answer 113 = .ok (.iload 5, 2) := by decide +kernel
theorem dX10_answer_115 : decode cX10_answer 115 = .ok (.iaload, 1) := by decide +kernel
theorem dX10_answer_116 : decode cX10_answer 116 = .ok (.if_icmp .gt 23, 3) := by decide +kernel
theorem dX10_answer_119 : decode cX10_answer 119 = .ok (.iload 4, 2) := by decide +kernel
theorem dX10_answer_121 : decode cX10_answer 121 = .ok (.ifCond .eq 18, 3) := by decide +kernel
theorem dX10_answer_124 : decode cX10_answer 124 = .ok (.aload_n 0, 1) := by decide +kernel
theorem dX10_answer_125 : decode cX10_answer 125 = .ok (.iload_n 2, 1) := by decide +kernel
theorem dX10_answer_126 : decode cX10_answer 126 = .ok (.iload 6, 2) := by decide +kernel
theorem dX10_answer_128 : decode cX10_answer 128 = .ok (.invokevirtual 193, 3) := by decide +kernel
theorem dX10_answer_131 : decode cX10_answer 131 = .ok (.istore 4, 2) := by decide +kernel
theorem dX10_answer_133 : decode cX10_answer 133 = .ok (.iinc 6 1, 3) := by decide +kernel
theorem dX10_answer_136 : decode cX10_answer 136 = .ok (.goto (-29), 3) := by decide +kernel
theorem dX10_answer_139 : decode cX10_answer 139 = .ok (.iinc 5 1, 3) := by decide +kernel
theorem dX10_answer_142 : decode cX10_answer 142 = .ok (.goto (-98), 3) := by decide +kernel
theorem dX10_answer_145 : decode cX10_answer 145 = .ok (.iload 4, 2) := by decide +kernel
theorem dX10_answer_147 : decode cX10_answer 147 = .ok (.ifCond .ne 5, 3) := by decide +kernel
theorem dX10_answer_150 : decode cX10_answer 150 = .ok (.iconst 3, 1) := by decide +kernel
theorem dX10_answer_151 : decode cX10_answer 151 = .ok (.ireturn, 1) := by decide +kernel
theorem dX10_answer_152 : decode cX10_answer 152 = .ok (.iconst 0, 1) := by decide +kernel
theorem dX10_answer_153 : decode cX10_answer 153 = .ok (.istore 5, 2) := by decide +kernel
theorem dX10_answer_155 : decode cX10_answer 155 = .ok (.iconst 1, 1) := by decide +kernel
theorem dX10_answer_156 : decode cX10_answer 156 = .ok (.istore 6, 2) := by decide +kernel
theorem dX10_answer_158 : decode cX10_answer 158 = .ok (.iconst 0, 1) := by decide +kernel
theorem dX10_answer_159 : decode cX10_answer 159 = .ok (.istore 7, 2) := by decide +kernel
theorem dX10_answer_161 : decode cX10_answer 161 = .ok (.iload 7, 2) := by decide +kernel
theorem dX10_answer_163 : decode cX10_answer 163 = .ok (.sipush 1024, 3) := by decide +kernel
theorem dX10_answer_166 : decode cX10_answer 166 = .ok (.if_icmp .ge 121, 3) := by decide +kernel
theorem dX10_answer_169 : decode cX10_answer 169 = .ok (.aload_n 0, 1) := by decide +kernel
theorem dX10_answer_170 : decode cX10_answer 170 = .ok (.iload_n 1, 1) := by decide +kernel
end
section
theorem dX10_answer_171 : decode cX10_answer 171 = .ok (.iload 7, 2) := by decide +kernel
theorem dX10_answer_173 : decode cX10_answer 173 = .ok (.invokevirtual 132, 3) := by decide +kernel
theorem dX10_answer_176 : decode cX10_answer 176 = .ok (.ifCond .ne 6, 3) := by decide +kernel
theorem dX10_answer_179 : decode cX10_answer 179 = .ok (.goto 102, 3) := by decide +kernel
theorem dX10_answer_182 : decode cX10_answer 182 = .ok (.iload 7, 2) := by decide +kernel
theorem dX10_answer_184 : decode cX10_answer 184 = .ok (.bipush 32, 2) := by decide +kernel
theorem dX10_answer_186 : decode cX10_answer 186 = .ok (.irem, 1) := by decide +kernel
theorem dX10_answer_187 : decode cX10_answer 187 = .ok (.aload_n 0, 1) := by decide +kernel
theorem dX10_answer_188 : decode cX10_answer 188 = .ok (.getfield 66, 3) := by decide +kernel
theorem dX10_answer_191 : decode cX10_answer 191 = .ok (.iload_n 3, 1) := by decide +kernel
theorem dX10_answer_192 : decode cX10_answer 192 = .ok (.bipush 6, 2) := by decide +kernel
theorem dX10_answer_194 : decode cX10_answer 194 = .ok (.iadd, 1) := by decide +kernel
theorem dX10_answer_195 : decode cX10_answer 195 = .ok (.iaload, 1) := by decide +kernel
theorem dX10_answer_196 : decode cX10_answer 196 = .ok (.aload_n 0, 1) := by decide +kernel
theorem dX10_answer_197 : decode cX10_answer 197 = .ok (.getfield 66, 3) := by decide +kernel
theorem dX10_answer_200 : decode cX10_answer 200 = .ok (.iload_n 3, 1) := by decide +kernel
theorem dX10_answer_201 : decode cX10_answer 201 = .ok (.bipush 7, 2) := by decide +kernel
theorem dX10_answer_203 : decode cX10_answer 203 = .ok (.iadd, 1) := by decide +kernel
theorem dX10_answer_204 : decode cX10_answer 204 = .ok (.iaload, 1) := by decide +kernel
theorem dX10_answer_205 : decode cX10_answer 205 = .ok (.invokestatic 87, 3) := by decide +kernel
theorem dX10_answer_208 : decode cX10_answer 208 = .ok (.ifCond .eq 36, 3) := by decide +kernel
theorem dX10_answer_211 : decode cX10_answer 211 = .ok (.iload 7, 2) := by decide +kernel
theorem dX10_answer_213 : decode cX10_answer 213 = .ok (.bipush 32, 2) := by decide +kernel
theorem dX10_answer_215 : decode cX10_answer 215 = .ok (.idiv, 1) := by decide +kernel
theorem dX10_answer_216 : decode cX10_answer 216 = .ok (.aload_n 0, 1) := by decide +kernel
theorem dX10_answer_217 : decode cX10_answer 217 = .ok (.getfield 66, 3) := by decide +kernel
theorem dX10_answer_220 : decode cX10_answer 220 = .ok (.iload_n 3, 1) := by decide +kernel
theorem dX10_answer_221 : decode cX10_answer 221 = .ok (.bipush 8, 2) := by decide +kernel
theorem dX10_answer_223 : decode cX10_answer 223 = .ok (.iadd, 1) := by decide +kernel
theorem dX10_answer_224 : decode cX10_answer 224 = .ok (.iaload, 1) := by decide +kernel
theorem dX10_answer_225 : decode cX10_answer 225 = .ok (.aload_n 0, 1) := by decide +kernel
theorem dX10_answer_226 : decode cX10_answer 226 = .ok (.getfield 66, 3) := by decide +kernel
theorem dX10_answer_229 : decode cX10_answer 229 = .ok (.iload_n 3, 1) := by decide +kernel
theorem dX10_answer_230 : decode cX10_answer 230 = .ok (.bipush 9, 2) := by decide +kernel
theorem dX10_answer_232 : decode cX10_answer 232 = .ok (.iadd, 1) := by decide +kernel
theorem dX10_answer_233 : decode cX10_answer 233 = .ok (.iaload, 1) := by decide +kernel
theorem dX10_answer_234 : decode cX10_answer 234 = .ok (.invokestatic 87, 3) := by decide +kernel
theorem dX10_answer_237 : decode cX10_answer 237 = .ok (.ifCond .eq 7, 3) := by decide +kernel
theorem dX10_answer_240 : decode cX10_answer 240 = .ok (.iconst 1, 1) := by decide +kernel
theorem dX10_answer_241 : decode cX10_answer 241 = .ok (.goto 4, 3) := by decide +kernel
theorem dX10_answer_244 : decode cX10_answer 244 = .ok (.iconst 0, 1) := by decide +kernel
theorem dX10_answer_245 : decode cX10_answer 245 = .ok (.istore 8, 2) := by decide +kernel
theorem dX10_answer_247 : decode cX10_answer 247 = .ok (.iload 5, 2) := by decide +kernel
theorem dX10_answer_249 : decode cX10_answer 249 = .ok (.ifCond .ne 8, 3) := by decide +kernel
theorem dX10_answer_252 : decode cX10_answer 252 = .ok (.iload 8, 2) := by decide +kernel
theorem dX10_answer_254 : decode cX10_answer 254 = .ok (.ifCond .eq 7, 3) := by decide +kernel
theorem dX10_answer_257 : decode cX10_answer 257 = .ok (.iconst 1, 1) := by decide +kernel
theorem dX10_answer_258 : decode cX10_answer 258 = .ok (.goto 4, 3) := by decide +kernel
theorem dX10_answer_261 : decode cX10_answer 261 = .ok (.iconst 0, 1) := by decide +kernel
theorem dX10_answer_262 : decode cX10_answer 262 = .ok (.istore 5, 2) := by decide +kernel
theorem dX10_answer_264 : decode cX10_answer 264 = .ok (.iload 6, 2) := by decide +kernel
theorem dX10_answer_266 : decode cX10_answer 266 = .ok (.ifCond .eq 12, 3) := by decide +kernel
theorem dX10_answer_269 : decode cX10_answer 269 = .ok (.iload 8, 2) := by decide +kernel
theorem dX10_answer_271 : decode cX10_answer 271 = .ok (.ifCond .eq 7, 3) := by decide +kernel
theorem dX10_answer_274 : decode cX10_answer 274 = .ok (.iconst 1, 1) := by decide +kernel
theorem dX10_answer_275 : decode cX10_answer 275 = .ok (.goto 4, 3) := by decide +kernel
theorem dX10_answer_278 : decode cX10_answer 278 = .ok (.iconst 0, 1) := by decide +kernel
theorem dX10_answer_279 : decode cX10_answer 279 = .ok (.istore 6, 2) := by decide +kernel
theorem dX10_answer_281 : decode cX10_answer 281 = .ok (.iinc 7 1, 3) := by decide +kernel
theorem dX10_answer_284 : decode cX10_answer 284 = .ok (.goto (-123), 3) := by decide +kernel
theorem dX10_answer_287 : decode cX10_answer 287 = .ok (.iload 5, 2) := by decide +kernel
theorem dX10_answer_289 : decode cX10_answer 289 = .ok (.ifCond .ne 7, 3) := by decide +kernel
theorem dX10_answer_292 : decode cX10_answer 292 = .ok (.iconst 4, 1) := by decide +kernel
theorem dX10_answer_293 : decode cX10_answer 293 = .ok (.goto 13, 3) := by decide +kernel
theorem dX10_answer_296 : decode cX10_answer 296 = .ok (.iload 6, 2) := by decide +kernel
theorem dX10_answer_298 : decode cX10_answer 298 = .ok (.ifCond .eq 7, 3) := by decide +kernel
theorem dX10_answer_301 : decode cX10_answer 301 = .ok (.iconst 0, 1) := by decide +kernel
theorem dX10_answer_302 : decode cX10_answer 302 = .ok (.goto 4, 3) := by decide +kernel
theorem dX10_answer_305 : decode cX10_answer 305 = .ok (.iconst 5, 1) := by decide +kernel
theorem dX10_answer_306 : decode cX10_answer 306 = .ok (.ireturn, 1) := by decide +kernel
theorem dX10_fits_0 : decode cX10_fits 0 = .ok (.aload_n 0, 1) := by decide +kernel
theorem dX10_fits_1 : decode cX10_fits 1 = .ok (.iload_n 1, 1) := by decide +kernel
theorem dX10_fits_2 : decode cX10_fits 2 = .ok (.invokevirtual 129, 3) := by decide +kernel
theorem dX10_fits_5 : decode cX10_fits 5 = .ok (.ifCond .eq 26, 3) := by decide +kernel
theorem dX10_fits_8 : decode cX10_fits 8 = .ok (.iload_n 2, 1) := by decide +kernel
theorem dX10_fits_9 : decode cX10_fits 9 = .ok (.iconst 0, 1) := by decide +kernel
theorem dX10_fits_10 : decode cX10_fits 10 = .ok (.aload_n 0, 1) := by decide +kernel
theorem dX10_fits_11 : decode cX10_fits 11 = .ok (.getfield 186, 3) := by decide +kernel
theorem dX10_fits_14 : decode cX10_fits 14 = .ok (.iconst 1, 1) := by decide +kernel
theorem dX10_fits_15 : decode cX10_fits 15 = .ok (.isub, 1) := by decide +kernel
theorem dX10_fits_16 : decode cX10_fits 16 = .ok (.invokestatic 87, 3) := by decide +kernel
theorem dX10_fits_19 : decode cX10_fits 19 = .ok (.ifCond .eq 12, 3) := by decide +kernel
theorem dX10_fits_22 : decode cX10_fits 22 = .ok (.aload_n 0, 1) := by decide +kernel
theorem dX10_fits_23 : decode cX10_fits 23 = .ok (.iload_n 1, 1) := by decide +kernel
theorem dX10_fits_24 : decode cX10_fits 24 = .ok (.iload_n 2, 1) := by decide +kernel
theorem dX10_fits_25 : decode cX10_fits 25 = .ok (.invokevirtual 196, 3) := by decide +kernel
theorem dX10_fits_28 : decode cX10_fits 28 = .ok (.goto 4, 3) := by decide +kernel
theorem dX10_fits_31 : decode cX10_fits 31 = .ok (.iconst (-1), 1) := by decide +kernel
theorem dX10_fits_32 : decode cX10_fits 32 = .ok (.ireturn, 1) := by decide +kernel
theorem dX10_rankOf_0 : decode cX10_rankOf 0 = .ok (.iload_n 0, 1) := by decide +kernel
theorem dX10_rankOf_1 : decode cX10_rankOf 1 = .ok (.ifCond .ne 7, 3) := by decide +kernel
theorem dX10_rankOf_4 : decode cX10_rankOf 4 = .ok (.iconst 0, 1) := by decide +kernel
theorem dX10_rankOf_5 : decode cX10_rankOf 5 = .ok (.goto 7, 3) := by decide +kernel
theorem dX10_rankOf_8 : decode cX10_rankOf 8 = .ok (.bipush 6, 2) := by decide +kernel
theorem dX10_rankOf_10 : decode cX10_rankOf 10 = .ok (.iload_n 0, 1) := by decide +kernel
theorem dX10_rankOf_11 : decode cX10_rankOf 11 = .ok (.isub, 1) := by decide +kernel
theorem dX10_rankOf_12 : decode cX10_rankOf 12 = .ok (.ireturn, 1) := by decide +kernel
theorem dX10_bestOf_0 : decode cX10_bestOf 0 = .ok (.iconst (-1), 1) := by decide +kernel
theorem dX10_bestOf_1 : decode cX10_bestOf 1 = .ok (.istore_n 2, 1) := by decide +kernel
theorem dX10_bestOf_2 : decode cX10_bestOf 2 = .ok (.iconst 0, 1) := by decide +kernel
theorem dX10_bestOf_3 : decode cX10_bestOf 3 = .ok (.istore_n 3, 1) := by decide +kernel
theorem dX10_bestOf_4 : decode cX10_bestOf 4 = .ok (.iload_n 3, 1) := by decide +kernel
theorem dX10_bestOf_5 : decode cX10_bestOf 5 = .ok (.aload_n 0, 1) := by decide +kernel
theorem dX10_bestOf_6 : decode cX10_bestOf 6 = .ok (.getfield 186, 3) := by decide +kernel
theorem dX10_bestOf_9 : decode cX10_bestOf 9 = .ok (.if_icmp .ge 36, 3) := by decide +kernel
theorem dX10_bestOf_12 : decode cX10_bestOf 12 = .ok (.iload_n 2, 1) := by decide +kernel
theorem dX10_bestOf_13 : decode cX10_bestOf 13 = .ok (.ifCond .lt 24, 3) := by decide +kernel
theorem dX10_bestOf_16 : decode cX10_bestOf 16 = .ok (.aload_n 0, 1) := by decide +kernel
theorem dX10_bestOf_17 : decode cX10_bestOf 17 = .ok (.iload_n 1, 1) := by decide +kernel
theorem dX10_bestOf_18 : decode cX10_bestOf 18 = .ok (.iload_n 3, 1) := by decide +kernel
theorem dX10_bestOf_19 : decode cX10_bestOf 19 = .ok (.invokevirtual 196, 3) := by decide +kernel
theorem dX10_bestOf_22 : decode cX10_bestOf 22 = .ok (.invokestatic 199, 3) := by decide +kernel
theorem dX10_bestOf_25 : decode cX10_bestOf 25 = .ok (.aload_n 0, 1) := by decide +kernel
theorem dX10_bestOf_26 : decode cX10_bestOf 26 = .ok (.iload_n 1, 1) := by decide +kernel
theorem dX10_bestOf_27 : decode cX10_bestOf 27 = .ok (.iload_n 2, 1) := by decide +kernel
theorem dX10_bestOf_28 : decode cX10_bestOf 28 = .ok (.invokevirtual 196, 3) := by decide +kernel
theorem dX10_bestOf_31 : decode cX10_bestOf 31 = .ok (.invokestatic 199, 3) := by decide +kernel
theorem dX10_bestOf_34 : decode cX10_bestOf 34 = .ok (.if_icmp .ge 5, 3) := by decide +kernel
theorem dX10_bestOf_37 : decode cX10_bestOf 37 = .ok (.iload_n 3, 1) := by decide +kernel
theorem dX10_bestOf_38 : decode cX10_bestOf 38 = .ok (.istore_n 2, 1) := by decide +kernel
theorem dX10_bestOf_39 : decode cX10_bestOf 39 = .ok (.iinc 3 1, 3) := by decide +kernel
theorem dX10_bestOf_42 : decode cX10_bestOf 42 = .ok (.goto (-38), 3) := by decide +kernel
theorem dX10_bestOf_45 : decode cX10_bestOf 45 = .ok (.iload_n 2, 1) := by decide +kernel
theorem dX10_bestOf_46 : decode cX10_bestOf 46 = .ok (.ireturn, 1) := by decide +kernel
theorem dX10_best_0 : decode cX10_best 0 = .ok (.aload_n 0, 1) := by decide +kernel
theorem dX10_best_1 : decode cX10_best 1 = .ok (.iload_n 1, 1) := by decide +kernel
theorem dX10_best_2 : decode cX10_best 2 = .ok (.invokevirtual 129, 3) := by decide +kernel
theorem dX10_best_5 : decode cX10_best 5 = .ok (.ifCond .eq 19, 3) := by decide +kernel
theorem dX10_best_8 : decode cX10_best 8 = .ok (.aload_n 0, 1) := by decide +kernel
theorem dX10_best_9 : decode cX10_best 9 = .ok (.getfield 186, 3) := by decide +kernel
theorem dX10_best_12 : decode cX10_best 12 = .ok (.ifCond .eq 12, 3) := by decide +kernel
theorem dX10_best_15 : decode cX10_best 15 = .ok (.iload_n 2, 1) := by decide +kernel
theorem dX10_best_16 : decode cX10_best 16 = .ok (.iconst 0, 1) := by decide +kernel
theorem dX10_best_17 : decode cX10_best 17 = .ok (.iconst 1, 1) := by decide +kernel
theorem dX10_best_18 : decode cX10_best 18 = .ok (.invokestatic 87, 3) := by decide +kernel
theorem dX10_best_21 : decode cX10_best 21 = .ok (.ifCond .ne 5, 3) := by decide +kernel
theorem dX10_best_24 : decode cX10_best 24 = .ok (.iconst (-1), 1) := by decide +kernel
theorem dX10_best_25 : decode cX10_best 25 = .ok (.ireturn, 1) := by decide +kernel
theorem dX10_best_26 : decode cX10_best 26 = .ok (.aload_n 0, 1) := by decide +kernel
theorem dX10_best_27 : decode cX10_best 27 = .ok (.iload_n 1, 1) := by decide +kernel
theorem dX10_best_28 : decode cX10_best 28 = .ok (.invokevirtual 202, 3) := by decide +kernel
theorem dX10_best_31 : decode cX10_best 31 = .ok (.istore_n 3, 1) := by decide +kernel
theorem dX10_best_32 : decode cX10_best 32 = .ok (.iload_n 2, 1) := by decide +kernel
theorem dX10_best_33 : decode cX10_best 33 = .ok (.ifCond .ne 7, 3) := by decide +kernel
theorem dX10_best_36 : decode cX10_best 36 = .ok (.iload_n 3, 1) := by decide +kernel
theorem dX10_best_37 : decode cX10_best 37 = .ok (.goto 9, 3) := by decide +kernel
theorem dX10_best_40 : decode cX10_best 40 = .ok (.aload_n 0, 1) := by decide +kernel
theorem dX10_best_41 : decode cX10_best 41 = .ok (.iload_n 1, 1) := by decide +kernel
theorem dX10_best_42 : decode cX10_best 42 = .ok (.iload_n 3, 1) := by decide +kernel
theorem dX10_best_43 : decode cX10_best 43 = .ok (.invokevirtual 196, 3) := by decide +kernel
theorem dX10_best_46 : decode cX10_best 46 = .ok (.ireturn, 1) := by decide +kernel
theorem dX10_wanderers_0 : decode cX10_wanderers 0 = .ok (.aload_n 0, 1) := by decide +kernel
theorem dX10_wanderers_1 : decode cX10_wanderers 1 = .ok (.invokevirtual 123, 3) := by decide +kernel
theorem dX10_wanderers_4 : decode cX10_wanderers 4 = .ok (.iconst 0, 1) := by decide +kernel
theorem dX10_wanderers_5 : decode cX10_wanderers 5 = .ok (.istore_n 1, 1) := by decide +kernel
theorem dX10_wanderers_6 : decode cX10_wanderers 6 = .ok (.iconst 0, 1) := by decide +kernel
theorem dX10_wanderers_7 : decode cX10_wanderers 7 = .ok (.istore_n 2, 1) := by decide +kernel
theorem dX10_wanderers_8 : decode cX10_wanderers 8 = .ok (.iload_n 2, 1) := by decide +kernel
theorem dX10_wanderers_9 : decode cX10_wanderers 9 = .ok (.aload_n 0, 1) := by decide +kernel
theorem dX10_wanderers_10 : decode cX10_wanderers 10 = .ok (.getfield 114, 3) := by decide +kernel
theorem dX10_wanderers_13 : decode cX10_wanderers 13 = .ok (.if_icmp .ge 36, 3) := by decide +kernel
theorem dX10_wanderers_16 : decode cX10_wanderers 16 = .ok (.aload_n 0, 1) := by decide +kernel
theorem dX10_wanderers_17 : decode cX10_wanderers 17 = .ok (.iload_n 2, 1) := by decide +kernel
theorem dX10_wanderers_18 : decode cX10_wanderers 18 = .ok (.invokevirtual 202, 3) := by decide +kernel
theorem dX10_wanderers_21 : decode cX10_wanderers 21 = .ok (.istore_n 3, 1) := by decide +kernel
theorem dX10_wanderers_22 : decode cX10_wanderers 22 = .ok (.iload_n 1, 1) := by decide +kernel
theorem dX10_wanderers_23 : decode cX10_wanderers 23 = .ok (.iload_n 3, 1) := by decide +kernel
theorem dX10_wanderers_24 : decode cX10_wanderers 24 = .ok (.ifCond .lt 12, 3) := by decide +kernel
theorem dX10_wanderers_27 : decode cX10_wanderers 27 = .ok (.aload_n 0, 1) := by decide +kernel
theorem dX10_wanderers_28 : decode cX10_wanderers 28 = .ok (.iload_n 2, 1) := by decide +kernel
theorem dX10_wanderers_29 : decode cX10_wanderers 29 = .ok (.iload_n 3, 1) := by decide +kernel
theorem dX10_wanderers_30 : decode cX10_wanderers 30 = .ok (.invokevirtual 196, 3) := by decide +kernel
theorem dX10_wanderers_33 : decode cX10_wanderers 33 = .ok (.ifCond .eq 7, 3) := by decide +kernel
theorem dX10_wanderers_36 : decode cX10_wanderers 36 = .ok (.iconst 1, 1) := by decide +kernel
theorem dX10_wanderers_37 : decode cX10_wanderers 37 = .ok (.goto 4, 3) := by decide +kernel
theorem dX10_wanderers_40 : decode cX10_wanderers 40 = .ok (.iconst 0, 1) := by decide +kernel
theorem dX10_wanderers_41 : decode cX10_wanderers 41 = .ok (.iadd, 1) := by decide +kernel
theorem dX10_wanderers_42 : decode cX10_wanderers 42 = .ok (.istore_n 1, 1) := by decide +kernel
theorem dX10_wanderers_43 : decode cX10_wanderers 43 = .ok (.iinc 2 1, 3) := by decide +kernel
theorem dX10_wanderers_46 : decode cX10_wanderers 46 = .ok (.goto (-38), 3) := by decide +kernel
theorem dX10_wanderers_49 : decode cX10_wanderers 49 = .ok (.iload_n 1, 1) := by decide +kernel
theorem dX10_wanderers_50 : decode cX10_wanderers 50 = .ok (.ireturn, 1) := by decide +kernel
theorem dX10_worth_0 : decode cX10_worth 0 = .ok (.iconst 0, 1) := by decide +kernel
theorem dX10_worth_1 : decode cX10_worth 1 = .ok (.istore 4, 2) := by decide +kernel
theorem dX10_worth_3 : decode cX10_worth 3 = .ok (.iconst 0, 1) := by decide +kernel
theorem dX10_worth_4 : decode cX10_worth 4 = .ok (.istore 5, 2) := by decide +kernel
theorem dX10_worth_6 : decode cX10_worth 6 = .ok (.iload 5, 2) := by decide +kernel
theorem dX10_worth_8 : decode cX10_worth 8 = .ok (.iload_n 1, 1) := by decide +kernel
theorem dX10_worth_9 : decode cX10_worth 9 = .ok (.if_icmp .ge 112, 3) := by decide +kernel
theorem dX10_worth_12 : decode cX10_worth 12 = .ok (.aload_n 0, 1) := by decide +kernel
theorem dX10_worth_13 : decode cX10_worth 13 = .ok (.getfield 84, 3) := by decide +kernel
theorem dX10_worth_16 : decode cX10_worth 16 = .ok (.aload_n 0, 1) := by decide +kernel
theorem dX10_worth_17 : decode cX10_worth 17 = .ok (.getfield 78, 3) := by decide +kernel
theorem dX10_worth_20 : decode cX10_worth 20 = .ok (.iload 5, 2) := by decide +kernel
theorem dX10_worth_22 : decode cX10_worth 22 = .ok (.iaload, 1) := by decide +kernel
theorem dX10_worth_23 : decode cX10_worth 23 = .ok (.iaload, 1) := by decide +kernel
theorem dX10_worth_24 : decode cX10_worth 24 = .ok (.istore 6, 2) := by decide +kernel
theorem dX10_worth_26 : decode cX10_worth 26 = .ok (.aload_n 0, 1) := by decide +kernel
theorem dX10_worth_27 : decode cX10_worth 27 = .ok (.getfield 81, 3) := by decide +kernel
theorem dX10_worth_30 : decode cX10_worth 30 = .ok (.bipush 16, 2) := by decide +kernel
theorem dX10_worth_32 : decode cX10_worth 32 = .ok (.iload 5, 2) := by decide +kernel
theorem dX10_worth_34 : decode cX10_worth 34 = .ok (.imul, 1) := by decide +kernel
theorem dX10_worth_35 : decode cX10_worth 35 = .ok (.iload 6, 2) := by decide +kernel
theorem dX10_worth_37 : decode cX10_worth 37 = .ok (.iadd, 1) := by decide +kernel
theorem dX10_worth_38 : decode cX10_worth 38 = .ok (.iaload, 1) := by decide +kernel
theorem dX10_worth_39 : decode cX10_worth 39 = .ok (.istore 7, 2) := by decide +kernel
theorem dX10_worth_41 : decode cX10_worth 41 = .ok (.iconst 0, 1) := by decide +kernel
theorem dX10_worth_42 : decode cX10_worth 42 = .ok (.istore 8, 2) := by decide +kernel
theorem dX10_worth_44 : decode cX10_worth 44 = .ok (.iload 8, 2) := by decide +kernel
theorem dX10_worth_46 : decode cX10_worth 46 = .ok (.iload 5, 2) := by decide +kernel
theorem dX10_worth_48 : decode cX10_worth 48 = .ok (.if_icmp .ge 53, 3) := by decide +kernel
theorem dX10_worth_51 : decode cX10_worth 51 = .ok (.aload_n 0, 1) := by decide +kernel
theorem dX10_worth_52 : decode cX10_worth 52 = .ok (.getfield 78, 3) := by decide +kernel
theorem dX10_worth_55 : decode cX10_worth 55 = .ok (.iload 8, 2) := by decide +kernel
theorem dX10_worth_57 : decode cX10_worth 57 = .ok (.iaload, 1) := by decide +kernel
theorem dX10_worth_58 : decode cX10_worth 58 = .ok (.aload_n 0, 1) := by decide +kernel
theorem dX10_worth_59 : decode cX10_worth 59 = .ok (.getfield 78, 3) := by decide +kernel
theorem dX10_worth_62 : decode cX10_worth 62 = .ok (.iload 5, 2) := by decide +kernel
theorem dX10_worth_64 : decode cX10_worth 64 = .ok (.iaload, 1) := by decide +kernel
theorem dX10_worth_65 : decode cX10_worth 65 = .ok (.if_icmp .ne 30, 3) := by decide +kernel
theorem dX10_worth_68 : decode cX10_worth 68 = .ok (.iload_n 2, 1) := by decide +kernel
theorem dX10_worth_69 : decode cX10_worth 69 = .ok (.iload 8, 2) := by decide +kernel
theorem dX10_worth_71 : decode cX10_worth 71 = .ok (.iconst 1, 1) := by decide +kernel
theorem dX10_worth_72 : decode cX10_worth 72 = .ok (.iadd, 1) := by decide +kernel
theorem dX10_worth_73 : decode cX10_worth 73 = .ok (.iload_n 3, 1) := by decide +kernel
theorem dX10_worth_74 : decode cX10_worth 74 = .ok (.imul, 1) := by decide +kernel
theorem dX10_worth_75 : decode cX10_worth 75 = .ok (.iadd, 1) := by decide +kernel
theorem dX10_worth_76 : decode cX10_worth 76 = .ok (.iconst 1, 1) := by decide +kernel
theorem dX10_worth_77 : decode cX10_worth 77 = .ok (.isub, 1) := by decide +kernel
theorem dX10_worth_78 : decode cX10_worth 78 = .ok (.iload 7, 2) := by decide +kernel
theorem dX10_worth_80 : decode cX10_worth 80 = .ok (.if_icmp .le 15, 3) := by decide +kernel
theorem dX10_worth_83 : decode cX10_worth 83 = .ok (.iload_n 2, 1) := by decide +kernel
theorem dX10_worth_84 : decode cX10_worth 84 = .ok (.iload 8, 2) := by decide +kernel
theorem dX10_worth_86 : decode cX10_worth 86 = .ok (.iconst 1, 1) := by decide +kernel
theorem dX10_worth_87 : decode cX10_worth 87 = .ok (.iadd, 1) := by decide +kernel
theorem dX10_worth_88 : decode cX10_worth 88 = .ok (.iload_n 3, 1) := by decide +kernel
theorem dX10_worth_89 : decode cX10_worth 89 = .ok (.imul, 1) := by decide +kernel
theorem dX10_worth_90 : decode cX10_worth 90 = .ok (.iadd, 1) := by decide +kernel
theorem dX10_worth_91 : decode cX10_worth 91 = .ok (.iconst 1, 1) := by decide +kernel
theorem dX10_worth_92 : decode cX10_worth 92 = .ok (.isub, 1) := by decide +kernel
theorem dX10_worth_93 : decode cX10_worth 93 = .ok (.istore 7, 2) := by decide +kernel
theorem dX10_worth_95 : decode cX10_worth 95 = .ok (.iinc 8 1, 3) := by decide +kernel
theorem dX10_worth_98 : decode cX10_worth 98 = .ok (.goto (-54), 3) := by decide +kernel
theorem dX10_worth_101 : decode cX10_worth 101 = .ok (.iload 4, 2) := by decide +kernel
theorem dX10_worth_103 : decode cX10_worth 103 = .ok (.iload_n 2, 1) := by decide +kernel
theorem dX10_worth_104 : decode cX10_worth 104 = .ok (.iload 5, 2) := by decide +kernel
theorem dX10_worth_106 : decode cX10_worth 106 = .ok (.iload_n 3, 1) := by decide +kernel
theorem dX10_worth_107 : decode cX10_worth 107 = .ok (.imul, 1) := by decide +kernel
theorem dX10_worth_108 : decode cX10_worth 108 = .ok (.iadd, 1) := by decide +kernel
theorem dX10_worth_109 : decode cX10_worth 109 = .ok (.iload 7, 2) := by decide +kernel
theorem dX10_worth_111 : decode cX10_worth 111 = .ok (.isub, 1) := by decide +kernel
theorem dX10_worth_112 : decode cX10_worth 112 = .ok (.iadd, 1) := by decide +kernel
theorem dX10_worth_113 : decode cX10_worth 113 = .ok (.istore 4, 2) := by decide +kernel
theorem dX10_worth_115 : decode cX10_worth 115 = .ok (.iinc 5 1, 3) := by decide +kernel
theorem dX10_worth_118 : decode cX10_worth 118 = .ok (.goto (-112), 3) := by decide +kernel
theorem dX10_worth_121 : decode cX10_worth 121 = .ok (.iload 4, 2) := by decide +kernel
theorem dX10_worth_123 : decode cX10_worth 123 = .ok (.ireturn, 1) := by decide +kernel
theorem dX10_sweep_0 : decode cX10_sweep 0 = .ok (.iload_n 1, 1) := by decide +kernel
theorem dX10_sweep_1 : decode cX10_sweep 1 = .ok (.iconst 1, 1) := by decide +kernel
theorem dX10_sweep_2 : decode cX10_sweep 2 = .ok (.ldc 205, 2) := by decide +kernel
theorem dX10_sweep_4 : decode cX10_sweep 4 = .ok (.invokestatic 87, 3) := by decide +kernel
theorem dX10_sweep_7 : decode cX10_sweep 7 = .ok (.ifCond .eq 47, 3) := by decide +kernel
theorem dX10_sweep_10 : decode cX10_sweep 10 = .ok (.iload_n 2, 1) := by decide +kernel
theorem dX10_sweep_11 : decode cX10_sweep 11 = .ok (.iconst 0, 1) := by decide +kernel
theorem dX10_sweep_12 : decode cX10_sweep 12 = .ok (.sipush 9999, 3) := by decide +kernel
theorem dX10_sweep_15 : decode cX10_sweep 15 = .ok (.invokestatic 87, 3) := by decide +kernel
theorem dX10_sweep_18 : decode cX10_sweep 18 = .ok (.ifCond .eq 36, 3) := by decide +kernel
theorem dX10_sweep_21 : decode cX10_sweep 21 = .ok (.iload_n 3, 1) := by decide +kernel
theorem dX10_sweep_22 : decode cX10_sweep 22 = .ok (.iconst 1, 1) := by decide +kernel
theorem dX10_sweep_23 : decode cX10_sweep 23 = .ok (.iconst 4, 1) := by decide +kernel
theorem dX10_sweep_24 : decode cX10_sweep 24 = .ok (.invokestatic 87, 3) := by decide +kernel
theorem dX10_sweep_27 : decode cX10_sweep 27 = .ok (.ifCond .eq 27, 3) := by decide +kernel
theorem dX10_sweep_30 : decode cX10_sweep 30 = .ok (.iload 4, 2) := by decide +kernel
theorem dX10_sweep_32 : decode cX10_sweep 32 = .ok (.iconst 1, 1) := by decide +kernel
theorem dX10_sweep_33 : decode cX10_sweep 33 = .ok (.sipush 240, 3) := by decide +kernel
theorem dX10_sweep_36 : decode cX10_sweep 36 = .ok (.invokestatic 87, 3) := by decide +kernel
theorem dX10_sweep_39 : decode cX10_sweep 39 = .ok (.ifCond .eq 15, 3) := by decide +kernel
theorem dX10_sweep_42 : decode cX10_sweep 42 = .ok (.iload_n 2, 1) := by decide +kernel
theorem dX10_sweep_43 : decode cX10_sweep 43 = .ok (.iload_n 3, 1) := by decide +kernel
theorem dX10_sweep_44 : decode cX10_sweep 44 = .ok (.iload 4, 2) := by decide +kernel
theorem dX10_sweep_46 : decode cX10_sweep 46 = .ok (.imul, 1) := by decide +kernel
theorem dX10_sweep_47 : decode cX10_sweep 47 = .ok (.iadd, 1) := by decide +kernel
theorem dX10_sweep_48 : decode cX10_sweep 48 = .ok (.sipush 10000, 3) := by decide +kernel
theorem dX10_sweep_51 : decode cX10_sweep 51 = .ok (.if_icmp .le 5, 3) := by decide +kernel
theorem dX10_sweep_54 : decode cX10_sweep 54 = .ok (.iconst (-1), 1) := by decide +kernel
theorem dX10_sweep_55 : decode cX10_sweep 55 = .ok (.ireturn, 1) := by decide +kernel
theorem dX10_sweep_56 : decode cX10_sweep 56 = .ok (.iconst 0, 1) := by decide +kernel
theorem dX10_sweep_57 : decode cX10_sweep 57 = .ok (.istore 5, 2) := by decide +kernel
theorem dX10_sweep_59 : decode cX10_sweep 59 = .ok (.iconst 0, 1) := by decide +kernel
theorem dX10_sweep_60 : decode cX10_sweep 60 = .ok (.istore 6, 2) := by decide +kernel
theorem dX10_sweep_62 : decode cX10_sweep 62 = .ok (.iload 6, 2) := by decide +kernel
theorem dX10_sweep_64 : decode cX10_sweep 64 = .ok (.bipush 16, 2) := by decide +kernel
theorem dX10_sweep_66 : decode cX10_sweep 66 = .ok (.if_icmp .ge 33, 3) := by decide +kernel
theorem dX10_sweep_69 : decode cX10_sweep 69 = .ok (.iload_n 1, 1) := by decide +kernel
theorem dX10_sweep_70 : decode cX10_sweep 70 = .ok (.iload 6, 2) := by decide +kernel
theorem dX10_sweep_72 : decode cX10_sweep 72 = .ok (.ishr, 1) := by decide +kernel
theorem dX10_sweep_73 : decode cX10_sweep 73 = .ok (.iconst 1, 1) := by decide +kernel
theorem dX10_sweep_74 : decode cX10_sweep 74 = .ok (.iand, 1) := by decide +kernel
theorem dX10_sweep_75 : decode cX10_sweep 75 = .ok (.ifCond .ne 6, 3) := by decide +kernel
theorem dX10_sweep_78 : decode cX10_sweep 78 = .ok (.goto 15, 3) := by decide +kernel
theorem dX10_sweep_81 : decode cX10_sweep 81 = .ok (.aload_n 0, 1) := by decide +kernel
theorem dX10_sweep_82 : decode cX10_sweep 82 = .ok (.getfield 84, 3) := by decide +kernel
theorem dX10_sweep_85 : decode cX10_sweep 85 = .ok (.iload 5, 2) := by decide +kernel
theorem dX10_sweep_87 : decode cX10_sweep 87 = .ok (.iload 6, 2) := by decide +kernel
theorem dX10_sweep_89 : decode cX10_sweep 89 = .ok (.iastore, 1) := by decide +kernel
theorem dX10_sweep_90 : decode cX10_sweep 90 = .ok (.iinc 5 1, 3) := by decide +kernel
theorem dX10_sweep_93 : decode cX10_sweep 93 = .ok (.iinc 6 1, 3) := by decide +kernel
theorem dX10_sweep_96 : decode cX10_sweep 96 = .ok (.goto (-34), 3) := by decide +kernel
theorem dX10_sweep_99 : decode cX10_sweep 99 = .ok (.iconst 0, 1) := by decide +kernel
theorem dX10_sweep_100 : decode cX10_sweep 100 = .ok (.istore 6, 2) := by decide +kernel
theorem dX10_sweep_102 : decode cX10_sweep 102 = .ok (.iload 6, 2) := by decide +kernel
theorem dX10_sweep_104 : decode cX10_sweep 104 = .ok (.iload_n 3, 1) := by decide +kernel
theorem dX10_sweep_105 : decode cX10_sweep 105 = .ok (.if_icmp .ge 59, 3) := by decide +kernel
theorem dX10_sweep_108 : decode cX10_sweep 108 = .ok (.iconst 0, 1) := by decide +kernel
theorem dX10_sweep_109 : decode cX10_sweep 109 = .ok (.istore 7, 2) := by decide +kernel
theorem dX10_sweep_111 : decode cX10_sweep 111 = .ok (.iload 7, 2) := by decide +kernel
theorem dX10_sweep_113 : decode cX10_sweep 113 = .ok (.bipush 16, 2) := by decide +kernel
theorem dX10_sweep_115 : decode cX10_sweep 115 = .ok (.if_icmp .ge 35, 3) := by decide +kernel
theorem dX10_sweep_118 : decode cX10_sweep 118 = .ok (.aload_n 0, 1) := by decide +kernel
theorem dX10_sweep_119 : decode cX10_sweep 119 = .ok (.getfield 81, 3) := by decide +kernel
theorem dX10_sweep_122 : decode cX10_sweep 122 = .ok (.bipush 16, 2) := by decide +kernel
theorem dX10_sweep_124 : decode cX10_sweep 124 = .ok (.iload 6, 2) := by decide +kernel
theorem dX10_sweep_126 : decode cX10_sweep 126 = .ok (.imul, 1) := by decide +kernel
theorem dX10_sweep_127 : decode cX10_sweep 127 = .ok (.iload 7, 2) := by decide +kernel
theorem dX10_sweep_129 : decode cX10_sweep 129 = .ok (.iadd, 1) := by decide +kernel
theorem dX10_sweep_130 : decode cX10_sweep 130 = .ok (.aload_n 0, 1) := by decide +kernel
theorem dX10_sweep_131 : decode cX10_sweep 131 = .ok (.iload 7, 2) := by decide +kernel
theorem dX10_sweep_133 : decode cX10_sweep 133 = .ok (.iload_n 2, 1) := by decide +kernel
theorem dX10_sweep_134 : decode cX10_sweep 134 = .ok (.iload 6, 2) := by decide +kernel
theorem dX10_sweep_136 : decode cX10_sweep 136 = .ok (.iload 4, 2) := by decide +kernel
theorem dX10_sweep_138 : decode cX10_sweep 138 = .ok (.imul, 1) := by decide +kernel
theorem dX10_sweep_139 : decode cX10_sweep 139 = .ok (.iadd, 1) := by decide +kernel
theorem dX10_sweep_140 : decode cX10_sweep 140 = .ok (.invokevirtual 206, 3) := by decide +kernel
theorem dX10_sweep_143 : decode cX10_sweep 143 = .ok (.iastore, 1) := by decide +kernel
theorem dX10_sweep_144 : decode cX10_sweep 144 = .ok (.iinc 7 1, 3) := by decide +kernel
theorem dX10_sweep_147 : decode cX10_sweep 147 = .ok (.goto (-36), 3) := by decide +kernel
theorem dX10_sweep_150 : decode cX10_sweep 150 = .ok (.aload_n 0, 1) := by decide +kernel
theorem dX10_sweep_151 : decode cX10_sweep 151 = .ok (.getfield 78, 3) := by decide +kernel
theorem dX10_sweep_154 : decode cX10_sweep 154 = .ok (.iload 6, 2) := by decide +kernel
theorem dX10_sweep_156 : decode cX10_sweep 156 = .ok (.iconst 0, 1) := by decide +kernel
theorem dX10_sweep_157 : decode cX10_sweep 157 = .ok (.iastore, 1) := by decide +kernel
theorem dX10_sweep_158 : decode cX10_sweep 158 = .ok (.iinc 6 1, 3) := by decide +kernel
theorem dX10_sweep_161 : decode cX10_sweep 161 = .ok (.goto (-59), 3) := by decide +kernel
theorem dX10_sweep_164 : decode cX10_sweep 164 = .ok (.iconst (-1), 1) := by decide +kernel
theorem dX10_sweep_165 : decode cX10_sweep 165 = .ok (.istore 6, 2) := by decide +kernel
theorem dX10_sweep_167 : decode cX10_sweep 167 = .ok (.iconst 1, 1) := by decide +kernel
theorem dX10_sweep_168 : decode cX10_sweep 168 = .ok (.istore 7, 2) := by decide +kernel
theorem dX10_sweep_170 : decode cX10_sweep 170 = .ok (.iload 7, 2) := by decide +kernel
theorem dX10_sweep_172 : decode cX10_sweep 172 = .ok (.ifCond .eq 132, 3) := by decide +kernel
theorem dX10_sweep_175 : decode cX10_sweep 175 = .ok (.aload_n 0, 1) := by decide +kernel
theorem dX10_sweep_176 : decode cX10_sweep 176 = .ok (.iload_n 3, 1) := by decide +kernel
theorem dX10_sweep_177 : decode cX10_sweep 177 = .ok (.iload_n 2, 1) := by decide +kernel
theorem dX10_sweep_178 : decode cX10_sweep 178 = .ok (.iload 4, 2) := by decide +kernel
theorem dX10_sweep_180 : decode cX10_sweep 180 = .ok (.invokevirtual 209, 3) := by decide +kernel
theorem dX10_sweep_183 : decode cX10_sweep 183 = .ok (.istore 8, 2) := by decide +kernel
theorem dX10_sweep_185 : decode cX10_sweep 185 = .ok (.iload 8, 2) := by decide +kernel
theorem dX10_sweep_187 : decode cX10_sweep 187 = .ok (.iload 6, 2) := by decide +kernel
theorem dX10_sweep_189 : decode cX10_sweep 189 = .ok (.if_icmp .le 46, 3) := by decide +kernel
theorem dX10_sweep_192 : decode cX10_sweep 192 = .ok (.iload 8, 2) := by decide +kernel
theorem dX10_sweep_194 : decode cX10_sweep 194 = .ok (.istore 6, 2) := by decide +kernel
theorem dX10_sweep_196 : decode cX10_sweep 196 = .ok (.aload_n 0, 1) := by decide +kernel
theorem dX10_sweep_197 : decode cX10_sweep 197 = .ok (.iload_n 3, 1) := by decide +kernel
theorem dX10_sweep_198 : decode cX10_sweep 198 = .ok (.putfield 213, 3) := by decide +kernel
theorem dX10_sweep_201 : decode cX10_sweep 201 = .ok (.iconst 0, 1) := by decide +kernel
theorem dX10_sweep_202 : decode cX10_sweep 202 = .ok (.istore 9, 2) := by decide +kernel
theorem dX10_sweep_204 : decode cX10_sweep 204 = .ok (.iload 9, 2) := by decide +kernel
theorem dX10_sweep_206 : decode cX10_sweep 206 = .ok (.iload_n 3, 1) := by decide +kernel
theorem dX10_sweep_207 : decode cX10_sweep 207 = .ok (.if_icmp .ge 28, 3) := by decide +kernel
theorem dX10_sweep_210 : decode cX10_sweep 210 = .ok (.aload_n 0, 1) := by decide +kernel
theorem dX10_sweep_211 : decode cX10_sweep 211 = .ok (.getfield 75, 3) := by decide +kernel
theorem dX10_sweep_214 : decode cX10_sweep 214 = .ok (.iload 9, 2) := by decide +kernel
theorem dX10_sweep_216 : decode cX10_sweep 216 = .ok (.aload_n 0, 1) := by decide +kernel
theorem dX10_sweep_217 : decode cX10_sweep 217 = .ok (.getfield 84, 3) := by decide +kernel
theorem dX10_sweep_220 : decode cX10_sweep 220 = .ok (.aload_n 0, 1) := by decide +kernel
theorem dX10_sweep_221 : decode cX10_sweep 221 = .ok (.getfield 78, 3) := by decide +kernel
theorem dX10_sweep_224 : decode cX10_sweep 224 = .ok (.iload 9, 2) := by decide +kernel
theorem dX10_sweep_226 : decode cX10_sweep 226 = .ok (.iaload, 1) := by decide +kernel
theorem dX10_sweep_227 : decode cX10_sweep 227 = .ok (.iaload, 1) := by decide +kernel
theorem dX10_sweep_228 : decode cX10_sweep 228 = .ok (.iastore, 1) := by decide +kernel
theorem dX10_sweep_229 : decode cX10_sweep 229 = .ok (.iinc 9 1, 3) := by decide +kernel
theorem dX10_sweep_232 : decode cX10_sweep 232 = .ok (.goto (-28), 3) := by decide +kernel
theorem dX10_sweep_235 : decode cX10_sweep 235 = .ok (.iload_n 3, 1) := by decide +kernel
theorem dX10_sweep_236 : decode cX10_sweep 236 = .ok (.iconst 1, 1) := by decide +kernel
theorem dX10_sweep_237 : decode cX10_sweep 237 = .ok (.isub, 1) := by decide +kernel
theorem dX10_sweep_238 : decode cX10_sweep 238 = .ok (.istore 9, 2) := by decide +kernel
theorem dX10_sweep_240 : decode cX10_sweep 240 = .ok (.iload 9, 2) := by decide +kernel
theorem dX10_sweep_242 : decode cX10_sweep 242 = .ok (.ifCond .lt 31, 3) := by decide +kernel
theorem dX10_sweep_245 : decode cX10_sweep 245 = .ok (.aload_n 0, 1) := by decide +kernel
theorem dX10_sweep_246 : decode cX10_sweep 246 = .ok (.getfield 78, 3) := by decide +kernel
theorem dX10_sweep_249 : decode cX10_sweep 249 = .ok (.iload 9, 2) := by decide +kernel
theorem dX10_sweep_251 : decode cX10_sweep 251 = .ok (.iaload, 1) := by decide +kernel
theorem dX10_sweep_252 : decode cX10_sweep 252 = .ok (.iload 5, 2) := by decide +kernel
theorem dX10_sweep_254 : decode cX10_sweep 254 = .ok (.iconst 1, 1) := by decide +kernel
theorem dX10_sweep_255 : decode cX10_sweep 255 = .ok (.isub, 1) := by decide +kernel
theorem dX10_sweep_256 : decode cX10_sweep 256 = .ok (.if_icmp .ne 17, 3) := by decide +kernel
theorem dX10_sweep_259 : decode cX10_sweep 259 = .ok (.aload_n 0, 1) := by decide +kernel
theorem dX10_sweep_260 : decode cX10_sweep 260 = .ok (.getfield 78, 3) := by decide +kernel
theorem dX10_sweep_263 : decode cX10_sweep 263 = .ok (.iload 9, 2) := by decide +kernel
theorem dX10_sweep_265 : decode cX10_sweep 265 = .ok (.iconst 0, 1) := by decide +kernel
theorem dX10_sweep_266 : decode cX10_sweep 266 = .ok (.iastore, 1) := by decide +kernel
theorem dX10_sweep_267 : decode cX10_sweep 267 = .ok (.iinc 9 (-1), 3) := by decide +kernel
theorem dX10_sweep_270 : decode cX10_sweep 270 = .ok (.goto (-30), 3) := by decide +kernel
theorem dX10_sweep_273 : decode cX10_sweep 273 = .ok (.iload 9, 2) := by decide +kernel
theorem dX10_sweep_275 : decode cX10_sweep 275 = .ok (.ifCond .lt 7, 3) := by decide +kernel
theorem dX10_sweep_278 : decode cX10_sweep 278 = .ok (.iconst 1, 1) := by decide +kernel
theorem dX10_sweep_279 : decode cX10_sweep 279 = .ok (.goto 4, 3) := by decide +kernel
theorem dX10_sweep_282 : decode cX10_sweep 282 = .ok (.iconst 0, 1) := by decide +kernel
theorem dX10_sweep_283 : decode cX10_sweep 283 = .ok (.istore 7, 2) := by decide +kernel
theorem dX10_sweep_285 : decode cX10_sweep 285 = .ok (.iload 7, 2) := by decide +kernel
theorem dX10_sweep_287 : decode cX10_sweep 287 = .ok (.ifCond .eq 14, 3) := by decide +kernel
theorem dX10_sweep_290 : decode cX10_sweep 290 = .ok (.aload_n 0, 1) := by decide +kernel
theorem dX10_sweep_291 : decode cX10_sweep 291 = .ok (.getfield 78, 3) := by decide +kernel
theorem dX10_sweep_294 : decode cX10_sweep 294 = .ok (.iload 9, 2) := by decide +kernel
theorem dX10_sweep_296 : decode cX10_sweep 296 = .ok (.dup2, 1) := by decide +kernel
theorem dX10_sweep_297 : decode cX10_sweep 297 = .ok (.iaload, 1) := by decide +kernel
theorem dX10_sweep_298 : decode cX10_sweep 298 = .ok (.iconst 1, 1) := by decide +kernel
theorem dX10_sweep_299 : decode cX10_sweep 299 = .ok (.iadd, 1) := by decide +kernel
theorem dX10_sweep_300 : decode cX10_sweep 300 = .ok (.iastore, 1) := by decide +kernel
theorem dX10_sweep_301 : decode cX10_sweep 301 = .ok (.goto (-131), 3) := by decide +kernel
theorem dX10_sweep_304 : decode cX10_sweep 304 = .ok (.iload 6, 2) := by decide +kernel
theorem dX10_sweep_306 : decode cX10_sweep 306 = .ok (.ireturn, 1) := by decide +kernel
theorem dX10_latestAhead_0 : decode cX10_latestAhead 0 = .ok (.iconst (-1), 1) := by decide +kernel
theorem dX10_latestAhead_1 : decode cX10_latestAhead 1 = .ok (.istore_n 3, 1) := by decide +kernel
theorem dX10_latestAhead_2 : decode cX10_latestAhead 2 = .ok (.iconst 0, 1) := by decide +kernel
theorem dX10_latestAhead_3 : decode cX10_latestAhead 3 = .ok (.istore 4, 2) := by decide +kernel
theorem dX10_latestAhead_5 : decode cX10_latestAhead 5 = .ok (.iload 4, 2) := by decide +kernel
theorem dX10_latestAhead_7 : decode cX10_latestAhead 7 = .ok (.aload_n 0, 1) := by decide +kernel
theorem dX10_latestAhead_8 : decode cX10_latestAhead 8 = .ok (.getfield 102, 3) := by decide +kernel
theorem dX10_latestAhead_11 : decode cX10_latestAhead 11 = .ok (.if_icmp .ge 69, 3) := by decide +kernel
theorem dX10_latestAhead_14 : decode cX10_latestAhead 14 = .ok (.aload_n 0, 1) := by decide +kernel
theorem dX10_latestAhead_15 : decode cX10_latestAhead 15 = .ok (.getfield 19, 3) := by decide +kernel
theorem dX10_latestAhead_18 : decode cX10_latestAhead 18 = .ok (.iload 4, 2) := by decide +kernel
theorem dX10_latestAhead_20 : decode cX10_latestAhead 20 = .ok (.iaload, 1) := by decide +kernel
theorem dX10_latestAhead_21 : decode cX10_latestAhead 21 = .ok (.iload_n 1, 1) := by decide +kernel
theorem dX10_latestAhead_22 : decode cX10_latestAhead 22 = .ok (.if_icmp .ne 52, 3) := by decide +kernel
theorem dX10_latestAhead_25 : decode cX10_latestAhead 25 = .ok (.aload_n 0, 1) := by decide +kernel
theorem dX10_latestAhead_26 : decode cX10_latestAhead 26 = .ok (.getfield 22, 3) := by decide +kernel
theorem dX10_latestAhead_29 : decode cX10_latestAhead 29 = .ok (.iload 4, 2) := by decide +kernel
theorem dX10_latestAhead_31 : decode cX10_latestAhead 31 = .ok (.iaload, 1) := by decide +kernel
theorem dX10_latestAhead_32 : decode cX10_latestAhead 32 = .ok (.iload_n 2, 1) := by decide +kernel
theorem dX10_latestAhead_33 : decode cX10_latestAhead 33 = .ok (.if_icmp .lt 6, 3) := by decide +kernel
theorem dX10_latestAhead_36 : decode cX10_latestAhead 36 = .ok (.goto 38, 3) := by decide +kernel
theorem dX10_latestAhead_39 : decode cX10_latestAhead 39 = .ok (.aload_n 0, 1) := by decide +kernel
theorem dX10_latestAhead_40 : decode cX10_latestAhead 40 = .ok (.getfield 25, 3) := by decide +kernel
theorem dX10_latestAhead_43 : decode cX10_latestAhead 43 = .ok (.iload 4, 2) := by decide +kernel
theorem dX10_latestAhead_45 : decode cX10_latestAhead 45 = .ok (.iaload, 1) := by decide +kernel
theorem dX10_latestAhead_46 : decode cX10_latestAhead 46 = .ok (.iload_n 2, 1) := by decide +kernel
theorem dX10_latestAhead_47 : decode cX10_latestAhead 47 = .ok (.if_icmp .ge 13, 3) := by decide +kernel
theorem dX10_latestAhead_50 : decode cX10_latestAhead 50 = .ok (.aload_n 0, 1) := by decide +kernel
theorem dX10_latestAhead_51 : decode cX10_latestAhead 51 = .ok (.getfield 25, 3) := by decide +kernel
theorem dX10_latestAhead_54 : decode cX10_latestAhead 54 = .ok (.iload 4, 2) := by decide +kernel
theorem dX10_latestAhead_56 : decode cX10_latestAhead 56 = .ok (.iaload, 1) := by decide +kernel
theorem dX10_latestAhead_57 : decode cX10_latestAhead 57 = .ok (.goto 6, 3) := by decide +kernel
theorem dX10_latestAhead_60 : decode cX10_latestAhead 60 = .ok (.iload_n 2, 1) := by decide +kernel
theorem dX10_latestAhead_61 : decode cX10_latestAhead 61 = .ok (.iconst 1, 1) := by decide +kernel
theorem dX10_latestAhead_62 : decode cX10_latestAhead 62 = .ok (.isub, 1) := by decide +kernel
theorem dX10_latestAhead_63 : decode cX10_latestAhead 63 = .ok (.istore 5, 2) := by decide +kernel
theorem dX10_latestAhead_65 : decode cX10_latestAhead 65 = .ok (.iload 5, 2) := by decide +kernel
theorem dX10_latestAhead_67 : decode cX10_latestAhead 67 = .ok (.iload_n 3, 1) := by decide +kernel
theorem dX10_latestAhead_68 : decode cX10_latestAhead 68 = .ok (.if_icmp .le 6, 3) := by decide +kernel
theorem dX10_latestAhead_71 : decode cX10_latestAhead 71 = .ok (.iload 5, 2) := by decide +kernel
theorem dX10_latestAhead_73 : decode cX10_latestAhead 73 = .ok (.istore_n 3, 1) := by decide +kernel
theorem dX10_latestAhead_74 : decode cX10_latestAhead 74 = .ok (.iinc 4 1, 3) := by decide +kernel
theorem dX10_latestAhead_77 : decode cX10_latestAhead 77 = .ok (.goto (-72), 3) := by decide +kernel
theorem dX10_latestAhead_80 : decode cX10_latestAhead 80 = .ok (.iload_n 3, 1) := by decide +kernel
theorem dX10_latestAhead_81 : decode cX10_latestAhead 81 = .ok (.ireturn, 1) := by decide +kernel
theorem dX10_slot_0 : decode cX10_slot 0 = .ok (.iload_n 1, 1) := by decide +kernel
theorem dX10_slot_1 : decode cX10_slot 1 = .ok (.iconst 0, 1) := by decide +kernel
theorem dX10_slot_2 : decode cX10_slot 2 = .ok (.aload_n 0, 1) := by decide +kernel
theorem dX10_slot_3 : decode cX10_slot 3 = .ok (.getfield 213, 3) := by decide +kernel
theorem dX10_slot_6 : decode cX10_slot 6 = .ok (.iconst 1, 1) := by decide +kernel
theorem dX10_slot_7 : decode cX10_slot 7 = .ok (.isub, 1) := by decide +kernel
theorem dX10_slot_8 : decode cX10_slot 8 = .ok (.invokestatic 87, 3) := by decide +kernel
theorem dX10_slot_11 : decode cX10_slot 11 = .ok (.ifCond .eq 12, 3) := by decide +kernel
theorem dX10_slot_14 : decode cX10_slot 14 = .ok (.aload_n 0, 1) := by decide +kernel
theorem dX10_slot_15 : decode cX10_slot 15 = .ok (.getfield 75, 3) := by decide +kernel
theorem dX10_slot_18 : decode cX10_slot 18 = .ok (.iload_n 1, 1) := by decide +kernel
theorem dX10_slot_19 : decode cX10_slot 19 = .ok (.iaload, 1) := by decide +kernel
theorem dX10_slot_20 : decode cX10_slot 20 = .ok (.goto 4, 3) := by decide +kernel
theorem dX10_slot_23 : decode cX10_slot 23 = .ok (.iconst (-1), 1) := by decide +kernel
theorem dX10_slot_24 : decode cX10_slot 24 = .ok (.ireturn, 1) := by decide +kernel
theorem dX10_about_0 : decode cX10_about 0 = .ok (.iconst 0, 1) := by decide +kernel
theorem dX10_about_1 : decode cX10_about 1 = .ok (.istore_n 2, 1) := by decide +kernel
theorem dX10_about_2 : decode cX10_about 2 = .ok (.iconst 0, 1) := by decide +kernel
theorem dX10_about_3 : decode cX10_about 3 = .ok (.istore_n 3, 1) := by decide +kernel
theorem dX10_about_4 : decode cX10_about 4 = .ok (.iload_n 3, 1) := by decide +kernel
theorem dX10_about_5 : decode cX10_about 5 = .ok (.aload_n 0, 1) := by decide +kernel
theorem dX10_about_6 : decode cX10_about 6 = .ok (.getfield 105, 3) := by decide +kernel
theorem dX10_about_9 : decode cX10_about 9 = .ok (.if_icmp .ge 26, 3) := by decide +kernel
theorem dX10_about_12 : decode cX10_about 12 = .ok (.iload_n 2, 1) := by decide +kernel
theorem dX10_about_13 : decode cX10_about 13 = .ok (.aload_n 0, 1) := by decide +kernel
theorem dX10_about_14 : decode cX10_about 14 = .ok (.getfield 43, 3) := by decide +kernel
theorem dX10_about_17 : decode cX10_about 17 = .ok (.iload_n 3, 1) := by decide +kernel
theorem dX10_about_18 : decode cX10_about 18 = .ok (.baload, 1) := by decide +kernel
theorem dX10_about_19 : decode cX10_about 19 = .ok (.ifCond .eq 7, 3) := by decide +kernel
theorem dX10_about_22 : decode cX10_about 22 = .ok (.iconst 1, 1) := by decide +kernel
theorem dX10_about_23 : decode cX10_about 23 = .ok (.goto 4, 3) := by decide +kernel
theorem dX10_about_26 : decode cX10_about 26 = .ok (.iconst 0, 1) := by decide +kernel
theorem dX10_about_27 : decode cX10_about 27 = .ok (.iadd, 1) := by decide +kernel
theorem dX10_about_28 : decode cX10_about 28 = .ok (.istore_n 2, 1) := by decide +kernel
theorem dX10_about_29 : decode cX10_about 29 = .ok (.iinc 3 1, 3) := by decide +kernel
theorem dX10_about_32 : decode cX10_about 32 = .ok (.goto (-28), 3) := by decide +kernel
theorem dX10_about_35 : decode cX10_about 35 = .ok (.iload_n 1, 1) := by decide +kernel
theorem dX10_about_36 : decode cX10_about 36 = .ok (.tableswitch 85 0 7 #[48, 53, 58, 63, 68, 73, 78, 83], 48) := by decide +kernel
theorem dX10_about_84 : decode cX10_about 84 = .ok (.aload_n 0, 1) := by decide +kernel
theorem dX10_about_85 : decode cX10_about 85 = .ok (.getfield 91, 3) := by decide +kernel
theorem dX10_about_88 : decode cX10_about 88 = .ok (.ireturn, 1) := by decide +kernel
theorem dX10_about_89 : decode cX10_about 89 = .ok (.aload_n 0, 1) := by decide +kernel
theorem dX10_about_90 : decode cX10_about 90 = .ok (.getfield 102, 3) := by decide +kernel
theorem dX10_about_93 : decode cX10_about 93 = .ok (.ireturn, 1) := by decide +kernel
theorem dX10_about_94 : decode cX10_about 94 = .ok (.aload_n 0, 1) := by decide +kernel
theorem dX10_about_95 : decode cX10_about 95 = .ok (.getfield 105, 3) := by decide +kernel
theorem dX10_about_98 : decode cX10_about 98 = .ok (.ireturn, 1) := by decide +kernel
theorem dX10_about_99 : decode cX10_about 99 = .ok (.aload_n 0, 1) := by decide +kernel
theorem dX10_about_100 : decode cX10_about 100 = .ok (.getfield 186, 3) := by decide +kernel
theorem dX10_about_103 : decode cX10_about 103 = .ok (.ireturn, 1) := by decide +kernel
theorem dX10_about_104 : decode cX10_about 104 = .ok (.aload_n 0, 1) := by decide +kernel
theorem dX10_about_105 : decode cX10_about 105 = .ok (.getfield 50, 3) := by decide +kernel
theorem dX10_about_108 : decode cX10_about 108 = .ok (.ireturn, 1) := by decide +kernel
theorem dX10_about_109 : decode cX10_about 109 = .ok (.aload_n 0, 1) := by decide +kernel
theorem dX10_about_110 : decode cX10_about 110 = .ok (.getfield 54, 3) := by decide +kernel
theorem dX10_about_113 : decode cX10_about 113 = .ok (.ireturn, 1) := by decide +kernel
theorem dX10_about_114 : decode cX10_about 114 = .ok (.aload_n 0, 1) := by decide +kernel
theorem dX10_about_115 : decode cX10_about 115 = .ok (.getfield 139, 3) := by decide +kernel
theorem dX10_about_118 : decode cX10_about 118 = .ok (.ireturn, 1) := by decide +kernel
theorem dX10_about_119 : decode cX10_about 119 = .ok (.iload_n 2, 1) := by decide +kernel
theorem dX10_about_120 : decode cX10_about 120 = .ok (.ireturn, 1) := by decide +kernel
theorem dX10_about_121 : decode cX10_about 121 = .ok (.iconst (-1), 1) := by decide +kernel
theorem dX10_about_122 : decode cX10_about 122 = .ok (.ireturn, 1) := by decide +kernel
end
section
/-! THE LAYER: one fixed world of 136 cells (class and model), its contents a function; a judgement T that walks a method beside a pure function -/
abbrev Hp : Type := Nat → Nat → Int32
def hset (s : Hp) (c k : Nat) (v : Int32) : Hp := fun d => if d = c then upd (s c) k v else s d
theorem hset_c (s : Hp) (c k : Nat) (v : Int32) : hset s c k v c = upd (s c) k v := if_pos rfl
theorem hset_d {s : Hp} {c k d : Nat} {v : Int32} (h : d ≠ c) : hset s c k v d = s d := if_neg h
abbrev classes : List vw_C := [(RX0, TX0, 5), (RX1, TX1, 2), (RX2, TX2, 5), (RX3, TX3, 8), (RX4, TX4, 3), (RX5, TX5, 4), (RX6, TX6, 9), (RX7, TX7, 5), (RX8, TX8, 5), (RX9, TX9, 9), (RX10, TX10, 36)]
abbrev Sh : Type := (Nat × Nat) ⊕ ((Nat × Nat) ⊕ (Nat × List (Option Nat)))
abbrev tysL (cA : Nat → ClassId) : List (ClassId × FieldType) := [(cA 0, .int), (cA 1, .boolean), (cA 2, .array .int)]
abbrev Ex : Type := Launch × va_G × (Nat → ClassId) × (Nat → Nat)
def rf (E : Ex) (c : Nat) : Value := .ref (E.2.2.2 c)
def fval (E : Ex) (s : Hp) (c k : Nat) (f : Option Nat) : Value := match f with
  | none => .int (s c k)
  | some d => rf E d
def cellE (E : Ex) (s : Hp) (c : Nat) (h : Sh) : va_E := match h with
  | .inl (t, n) => .inl (E.2.2.1 t, n, .inl (s c))
  | .inr (.inl (n, b)) => .inl (E.2.2.1 2, n, .inr (.inr (.inr (.inr (fun i => if i < n then some (E.2.2.2 (b + i)) else none)))))
  | .inr (.inr (ci, fs)) => .inr (ci, fs.mapIdx (fun k f => fval E s c k f))
def schL : List Sh := [
  .inr (.inr (9, [some 1, some 4, some 9, some 18, some 21, some 24, some 26, some 28, some 30])),
  .inr (.inr (4, [some 2, some 3, none])), .inl (0, 6), .inl (0, 6),
  .inr (.inr (7, [some 5, some 6, some 7, some 8, none])), .inl (0, 100), .inl (0, 100), .inl (0, 100), .inl (0, 100),
  .inr (.inr (2, [some 10, some 15, some 16, some 17, none])),
  .inr (.inr (7, [some 11, some 12, some 13, some 14, none])), .inl (0, 60), .inl (0, 60), .inl (0, 60), .inl (0, 60),
  .inl (0, 60), .inl (1, 60), .inr (.inl (60, 58)),
  .inr (.inr (0, [some 19, some 20, none, none, none])), .inl (0, 60), .inl (0, 60),
  .inr (.inr (6, [some 22, some 23, none, none, none, none, none, none, none])), .inl (0, 60), .inl (0, 32),
  .inr (.inr (8, [some 25, none, none, none, none])), .inl (0, 100),
  .inr (.inr (5, [some 27, none, none, none])), .inl (0, 10),
  .inr (.inr (1, [some 29, none])), .inr (.inl (10, 118)),
  .inr (.inr (3, [some 31, some 32, some 33, some 34, some 35, none, none, none])), .inl (0, 4), .inr (.inl (4, 128)), .inr (.inl (4, 132)), .inl (0, 4), .inl (0, 4),
  .inr (.inr (10, [none, some 37, some 38, none, some 39, some 40, some 41, some 42, none, some 43, some 44, some 45, some 46, some 47, some 48, some 49, none, none, none, some 50, some 51, some 52, none, none, some 53, none, none, none, none, none, none, none, some 54, some 55, some 56, some 57])),
  .inl (0, 6), .inl (0, 6), .inl (0, 100), .inl (0, 100), .inl (0, 100), .inl (0, 100), .inl (0, 60), .inl (0, 60), .inl (0, 60), .inl (0, 60), .inl (0, 60), .inl (1, 60), .inl (0, 240),
  .inl (0, 60), .inl (0, 60), .inl (0, 100), .inl (0, 110), .inl (0, 4), .inl (0, 4), .inl (0, 64), .inl (0, 16)]
def NC : Nat := 136
def sch (c : Nat) : Sh := if c < 58 then schL.getD c (.inl (0, 0)) else if c < 118 then .inl (0, 32) else if c < 128 then .inl (0, 10) else if c < 132 then .inl (0, 16) else .inl (0, 4)
def wd (E : Ex) (s : Hp) : va_W := (List.range NC).map (fun c => (E.2.2.2 c, cellE E s c (sch c)))
theorem wd_get (E : Ex) (s : Hp) {c : Nat} (h : c < NC) : (wd E s)[c]? = some (E.2.2.2 c, cellE E s c (sch c)) := by
  unfold wd
  rw [List.getElem?_map, List.getElem?_range h]
  rfl
theorem wd_len (E : Ex) (s : Hp) : (wd E s).length = NC := by simp [wd]
theorem wd_none (E : Ex) (s : Hp) {c : Nat} (h : ¬ c < NC) : (wd E s)[c]? = none := List.getElem?_eq_none (by rw [wd_len]; omega)
theorem cellE_ne {E : Ex} {s : Hp} {c d k : Nat} {v : Int32} {h : Sh} (hd : d ≠ c) : cellE E (hset s c k v) d h = cellE E s d h := by
  unfold cellE
  split
  · rw [hset_d hd]
  · rfl
  · have e : (fun (k2 : Nat) (f : Option Nat) => fval E (hset s c k v) d k2 f) = fun k2 f => fval E s d k2 f := by
      funext k2 f
      unfold fval
      rw [hset_d hd]
    rw [e]
theorem wd_set {E : Ex} {s : Hp} {c k : Nat} {v : Int32} {e : va_E} (hc : c < NC) (he : cellE E (hset s c k v) c (sch c) = e) : (wd E s).set c (E.2.2.2 c, e) = wd E (hset s c k v) := by
  apply List.ext_getElem?
  intro i
  by_cases hi : i < NC
  · rw [wd_get E _ hi]
    by_cases hic : i = c
    · subst hic
      rw [List.getElem?_set_self (by rw [wd_len]; exact hi), he]
    · rw [List.getElem?_set_ne (Ne.symm hic), wd_get E _ hi, cellE_ne hic]
  · rw [wd_none E _ hi, List.getElem?_eq_none (by rw [List.length_set, wd_len]; omega)]
theorem wd_arr {E : Ex} {s : Hp} {c k t n : Nat} {v : Int32} (hc : c < NC) (hs : sch c = .inl (t, n)) : (wd E s).set c (E.2.2.2 c, .inl (E.2.2.1 t, n, .inl (upd (s c) k v))) = wd E (hset s c k v) :=
  wd_set hc (by rw [hs]; show (Sum.inl (E.2.2.1 t, n, .inl (hset s c k v c)) : va_E) = _; rw [hset_c])
theorem wd_obj {E : Ex} {s : Hp} {c k ci : Nat} {fs : List (Option Nat)} {v : Int32} (hc : c < NC) (hs : sch c = .inr (.inr (ci, fs))) (hk : fs[k]? = some none) : (wd E s).set c (E.2.2.2 c, .inr (ci, (fs.mapIdx (fun k f => fval E s c k f)).set k (.int v))) = wd E (hset s c k v) :=
  wd_set hc (by
    rw [hs]
    show (Sum.inr (ci, fs.mapIdx (fun k2 f => fval E (hset s c k v) c k2 f)) : va_E) = _
    congr 2
    apply List.ext_getElem?
    intro i
    rw [List.getElem?_mapIdx]
    by_cases hik : i = k
    · subst hik
      have hl : i < (fs.mapIdx (fun k f => fval E s c k f)).length := by rw [List.length_mapIdx]; exact (List.getElem?_eq_some_iff.mp hk).1
      rw [List.getElem?_set_self hl, hk]
      show some (Value.int (hset s c i v c i)) = _
      rw [hset_c]
      simp [upd]
    · rw [List.getElem?_set_ne (Ne.symm hik), List.getElem?_mapIdx]
      cases fs[i]? with
      | none => rfl
      | some f =>
        show some (fval E (hset s c k v) c i f) = some (fval E s c i f)
        cases f with
        | none =>
          show some (Value.int (hset s c k v c i)) = _
          rw [hset_c]
          show some (Value.int (upd (s c) k v i)) = some (Value.int (s c i))
          simp [upd, hik]
        | some d => rfl)
theorem wd_D {E : Ex} {A : Nat → Prop} {s s2 : Hp} (h : va_D A (wd E s)) : va_D A (wd E s2) := by
  have key : ∀ (k : Nat) (q : Nat × va_E), (wd E s2)[k]? = some q → ∃ q0, (wd E s)[k]? = some q0 ∧ q0.1 = q.1 := by
    intro k q hq
    by_cases hk : k < NC
    · rw [wd_get E _ hk] at hq
      cases hq
      exact ⟨_, wd_get E _ hk, rfl⟩
    · rw [wd_none E _ hk] at hq
      cases hq
  refine ⟨fun i j x y hi hj hxy => ?_, fun k q hk => ?_⟩
  · obtain ⟨x0, h1, h2⟩ := key i x hi
    obtain ⟨y0, h3, h4⟩ := key j y hj
    exact h.1 i j x0 y0 h1 h3 (h2.trans (hxy.trans h4.symm))
  · obtain ⟨q0, h1, h2⟩ := key k q hk
    rw [← h2]
    exact h.2 k q0 h1
/-- the world's own cells -/
def AW (E : Ex) : Nat → Prop := fun q => ∃ c, c < NC ∧ q = E.2.2.2 c
theorem AW_in {E : Ex} {A : Nat → Prop} {s : Hp} (h : va_D A (wd E s)) {q : Nat} (hq : AW E q) : A q := by
  obtain ⟨c, hc, rfl⟩ := hq
  exact h.2 c _ (wd_get E s hc)
theorem AW_D {E : Ex} {A : Nat → Prop} {s : Hp} (h : va_D A (wd E s)) : va_D (AW E) (wd E s) := ⟨h.1, fun k q hk => by
  by_cases hc : k < NC
  · rw [wd_get E _ hc] at hk
    cases hk
    exact ⟨k, hc, rfl⟩
  · rw [wd_none E _ hc] at hk
    cases hk⟩
/-- words -/
def gw : List Cond := lw_tbl.filter goodWord
theorem gw_in {w : Cond} (h : w ∈ lw_tbl) (g : goodWord w = true) : w ∈ gw := List.mem_filter.mpr ⟨h, g⟩
theorem gw_good {w : Cond} (h : w ∈ gw) : (w.onTables && w.keeps) = true ∨ ∃ ty, w = .arrayClass ty := good_of_word (List.mem_filter.mp h).2
theorem gw_sub {ws : List Cond} (h : ∀ w ∈ ws, w ∈ lw_tbl) (g : ws.all goodWord = true) : ∀ w ∈ ws, w ∈ gw := fun w hw => gw_in (h w hw) (List.all_eq_true.mp g w hw)
theorem gX0 : ∀ w ∈ wsX00, w ∈ gw := gw_sub inX0 (by decide +kernel)
theorem gX1 : ∀ w ∈ wsX10, w ∈ gw := gw_sub inX1 (by decide +kernel)
theorem gX2 : ∀ w ∈ wsX20, w ∈ gw := gw_sub inX2 (by decide +kernel)
theorem gX3 : ∀ w ∈ wsX30, w ∈ gw := gw_sub inX3 (by decide +kernel)
theorem gX4 : ∀ w ∈ wsX40, w ∈ gw := gw_sub inX4 (by decide +kernel)
theorem gX5 : ∀ w ∈ wsX50, w ∈ gw := gw_sub inX5 (by decide +kernel)
theorem gX6 : ∀ w ∈ wsX60, w ∈ gw := gw_sub inX6 (by decide +kernel)
theorem gX7 : ∀ w ∈ wsX70, w ∈ gw := gw_sub inX7 (by decide +kernel)
theorem gX8 : ∀ w ∈ wsX80, w ∈ gw := gw_sub inX8 (by decide +kernel)
theorem gX9 : ∀ w ∈ wsX90, w ∈ gw := gw_sub inX9 (by decide +kernel)
theorem gX10 : ∀ w ∈ wsX100, w ∈ gw := gw_sub inX10 (by decide +kernel)
/-- what isn't in the world: links of nest mates, the static row, the four texts -/
def gG (j : Nat) : Int32 := if j = 0 then 15 else if j = 1 then 1439 else if j = 2 then 999 else 31
def sLen : List Nat := [4, 4, 4, 3]
def sByt : List (List Int32) := [[99, 104, 97, 110], [116, 105, 109, 101], [116, 111, 110, 101], [98, 111, 120]]
def stat (E : Ex) (A : Nat → Prop) (U : State) (H : Heap) : Prop :=
  (∀ (a : String) (i : Nat) (b n d h : String), Cond.fieldLinkNest a i b n d h ∈ lw_tbl → va_Nw (.fieldLinkNest a i b n d h) U) ∧
  va_Z "AirWatch" "GREATEST" "[I" (rf E 136) A U H ∧ va_T .int (E.2.2.2 136) 5 (fun j => .int (gG j)) A U H ∧
  vk_R "AirWatch$Reader" 57 "chan" (E.2.2.2 137) U ∧ vk_R "AirWatch$Reader" 63 "time" (E.2.2.2 138) U ∧ vk_R "AirWatch$Reader" 65 "tone" (E.2.2.2 139) U ∧ vk_R "AirWatch$Reader" 67 "box" (E.2.2.2 140) U ∧
  vk_S 4 sLen sByt (fun i => E.2.2.2 (137 + i)) (fun i => E.2.2.2 (141 + i)) A U H ∧
  va_Z "java/lang/String" "COMPACT_STRINGS" "Z" (.int 1) A U H
abbrev Cx : Type := Program × Env × Room × State × MethodId × Array Value × List Frame × Method × Code × (Nat → Prop) × Nat × Nat
abbrev Gx : Type := Ex × Cx × Nat × (State → Prop) × (Int32 × Hp)
def J (G : Gx) (s : Hp) (pc : Nat) (lv : List (Nat × Value)) (st : List Value) : Prop := match G with
  | (E, (p, e, R, s0, m, args, below, meth, c, A, cells, slots), nL, Q, _) => ∀ (H : Heap) (locs : List Loc) (ls : Array Slot), va_P E.2.1 classes (wd E s) H → va_S A s0.heap H locs → lv_has ls nL lv → W p E.1 e R s0 m args below meth c H locs cells slots Q (F0 m pc ls st)
def ok (G : Gx) (cc : ByteArray) (nL : Nat) (own : String) (ret : Option FieldType) (fr lo : Nat) : Prop := match G with
  | (E, (p, e, R, s0, m, args, below, meth, c, A, cells, slots), nL0, Q, _) => p.tables.exec = Jvm.exec ∧ c.code = cc ∧ c.maxLocals = nL ∧ nL0 = nL ∧ s0.vm.findClass own = some m.cls ∧ (∀ w ∈ gw, w.before args s0 = true) ∧ va_K E.2.1 classes (tysL E.2.2.1) s0 ∧ va_D A (wd E (fun _ _ => 0)) ∧ meth.sig.returnType = ret ∧ meth.locks = false ∧ (fr ≤ R.frames ∧ lo ≤ R.locals ∧ cells ≤ R.cells ∧ slots ≤ R.slots) ∧ stat E A s0 s0.heap
/-- the walk beside a pure answer x: if x is the answer of G, the machine comes to G's end -/
def T (G : Gx) (x : Option (Int32 × Hp)) (s : Hp) (pc : Nat) (lv : List (Nat × Value)) (st : List Value) : Prop := x = some G.2.2.2.2 → J G s pc lv st
end
section
def vb (a : Int32) (k : Int32 → Option (Int32 × Hp)) : Option (Int32 × Hp) := k a
def sb (s : Hp) (k : Hp → Option (Int32 × Hp)) : Option (Int32 × Hp) := k s
def imax (a b : Int32) : Int32 := if a < b then b else a
def imin (a b : Int32) : Int32 := if b < a then b else a
def iabs (a : Int32) : Int32 := if 0 ≤ a then a else 0 - a
section TR
variable {G : Gx} {x xa xb : Option (Int32 × Hp)} {s : Hp} {pc : Nat} {lv : List (Nat × Value)} {st : List Value} {cc : ByteArray} {nL : Nat} {own : String} {ret : Option FieldType} {fr lo : Nat}
theorem tr_iconst (hX : ok G cc nL own ret fr lo) {n : Int} {v : Int32} (hd : decode cc pc = .ok (.iconst n, 1)) (hv : Int32.ofInt n = v) (k : T G x s (pc + 1) lv (.int v :: st)) : T G x s pc lv (st) := by
  obtain ⟨E, ⟨p, e, R, s0, m, args, below, meth, cde, A, cells, slots⟩, nL0, Q, r⟩ := G
  obtain ⟨hexec, hb, hml, rfl, hown, hts, hK, hD, hr, hlocks, ⟨hfr, hlo, hc, hs⟩, hst⟩ := hX
  exact fun hx H locs ls hP hS hl => lv_iconst hexec hb hd hv (k hx H locs ls hP hS hl)
theorem tr_bipush (hX : ok G cc nL own ret fr lo) {n : Int} {v : Int32} (hd : decode cc pc = .ok (.bipush n, 2)) (hv : (Int8.ofInt n).toInt32 = v) (k : T G x s (pc + 2) lv (.int v :: st)) : T G x s pc lv (st) := by
  obtain ⟨E, ⟨p, e, R, s0, m, args, below, meth, cde, A, cells, slots⟩, nL0, Q, r⟩ := G
  obtain ⟨hexec, hb, hml, rfl, hown, hts, hK, hD, hr, hlocks, ⟨hfr, hlo, hc, hs⟩, hst⟩ := hX
  exact fun hx H locs ls hP hS hl => lv_bipush hexec hb hd hv (k hx H locs ls hP hS hl)
theorem tr_sipush (hX : ok G cc nL own ret fr lo) {n : Int} {v : Int32} (hd : decode cc pc = .ok (.sipush n, 3)) (hv : (Int16.ofInt n).toInt32 = v) (k : T G x s (pc + 3) lv (.int v :: st)) : T G x s pc lv (st) := by
  obtain ⟨E, ⟨p, e, R, s0, m, args, below, meth, cde, A, cells, slots⟩, nL0, Q, r⟩ := G
  obtain ⟨hexec, hb, hml, rfl, hown, hts, hK, hD, hr, hlocks, ⟨hfr, hlo, hc, hs⟩, hst⟩ := hX
  exact fun hx H locs ls hP hS hl => lv_sipush hexec hb hd hv (k hx H locs ls hP hS hl)
theorem tr_ldc (hX : ok G cc nL own ret fr lo) {i : Nat} {v : Int32} (hw : Cond.constant own i v ∈ gw) (hd : decode cc pc = .ok (.ldc i, 2)) (k : T G x s (pc + 2) lv (.int v :: st)) : T G x s pc lv (st) := by
  obtain ⟨E, ⟨p, e, R, s0, m, args, below, meth, cde, A, cells, slots⟩, nL0, Q, r⟩ := G
  obtain ⟨hexec, hb, hml, rfl, hown, hts, hK, hD, hr, hlocks, ⟨hfr, hlo, hc, hs⟩, hst⟩ := hX
  exact fun hx H locs ls hP hS hl => lv_ldc hexec hb hown (hts _ hw) hd (k hx H locs ls hP hS hl)
theorem tr_ldcw (hX : ok G cc nL own ret fr lo) {i : Nat} {v : Int32} (hw : Cond.constant own i v ∈ gw) (hd : decode cc pc = .ok (.ldc_w i, 3)) (k : T G x s (pc + 3) lv (.int v :: st)) : T G x s pc lv (st) := by
  obtain ⟨E, ⟨p, e, R, s0, m, args, below, meth, cde, A, cells, slots⟩, nL0, Q, r⟩ := G
  obtain ⟨hexec, hb, hml, rfl, hown, hts, hK, hD, hr, hlocks, ⟨hfr, hlo, hc, hs⟩, hst⟩ := hX
  exact fun hx H locs ls hP hS hl => lv_ldcw hexec hb hown (hts _ hw) hd (k hx H locs ls hP hS hl)
theorem tr_iload_n (hX : ok G cc nL own ret fr lo) {kk : Fin 4} {i : Nat} (q : Nat) {v : Int32} (hd : decode cc pc = .ok (.iload_n kk, 1)) (hi : (kk : Nat) = i) (hq : lv[q]? = some (i, .int v)) (k : T G x s (pc + 1) lv (.int v :: st)) : T G x s pc lv (st) := by
  obtain ⟨E, ⟨p, e, R, s0, m, args, below, meth, cde, A, cells, slots⟩, nL0, Q, r⟩ := G
  obtain ⟨hexec, hb, hml, rfl, hown, hts, hK, hD, hr, hlocks, ⟨hfr, hlo, hc, hs⟩, hst⟩ := hX
  exact fun hx H locs ls hP hS hl => lv_iload_n hexec hb hd hi (lv_at hl q hq) (k hx H locs ls hP hS hl)
theorem tr_iload (hX : ok G cc nL own ret fr lo) {i : Nat} (q : Nat) {v : Int32} (hd : decode cc pc = .ok (.iload i, 2)) (hq : lv[q]? = some (i, .int v)) (k : T G x s (pc + 2) lv (.int v :: st)) : T G x s pc lv (st) := by
  obtain ⟨E, ⟨p, e, R, s0, m, args, below, meth, cde, A, cells, slots⟩, nL0, Q, r⟩ := G
  obtain ⟨hexec, hb, hml, rfl, hown, hts, hK, hD, hr, hlocks, ⟨hfr, hlo, hc, hs⟩, hst⟩ := hX
  exact fun hx H locs ls hP hS hl => lv_iload hexec hb hd (lv_at hl q hq) (k hx H locs ls hP hS hl)
theorem tr_aload_n (hX : ok G cc nL own ret fr lo) {kk : Fin 4} {i : Nat} (q : Nat) {v : Nat} (hd : decode cc pc = .ok (.aload_n kk, 1)) (hi : (kk : Nat) = i) (hq : lv[q]? = some (i, rf G.1 v)) (k : T G x s (pc + 1) lv (rf G.1 v :: st)) : T G x s pc lv (st) := by
  obtain ⟨E, ⟨p, e, R, s0, m, args, below, meth, cde, A, cells, slots⟩, nL0, Q, r⟩ := G
  obtain ⟨hexec, hb, hml, rfl, hown, hts, hK, hD, hr, hlocks, ⟨hfr, hlo, hc, hs⟩, hst⟩ := hX
  exact fun hx H locs ls hP hS hl => lv_aload_n hexec hb hd hi (lv_at hl q hq) (k hx H locs ls hP hS hl)
theorem tr_aload (hX : ok G cc nL own ret fr lo) {i : Nat} (q : Nat) {v : Nat} (hd : decode cc pc = .ok (.aload i, 2)) (hq : lv[q]? = some (i, rf G.1 v)) (k : T G x s (pc + 2) lv (rf G.1 v :: st)) : T G x s pc lv (st) := by
  obtain ⟨E, ⟨p, e, R, s0, m, args, below, meth, cde, A, cells, slots⟩, nL0, Q, r⟩ := G
  obtain ⟨hexec, hb, hml, rfl, hown, hts, hK, hD, hr, hlocks, ⟨hfr, hlo, hc, hs⟩, hst⟩ := hX
  exact fun hx H locs ls hP hS hl => lv_aload hexec hb hd (lv_at hl q hq) (k hx H locs ls hP hS hl)
theorem tr_istore_n (hX : ok G cc nL own ret fr lo) {kk : Fin 4} {i : Nat} {v : Int32} {lv2 : List (Nat × Value)} (hd : decode cc pc = .ok (.istore_n kk, 1)) (hi : (kk : Nat) = i) (hn : i < nL) (hl2 : (i, Value.int v) :: lv.filter (fun q => !(q.1 == i) && !(q.1 + 1 == i && q.2.category == 2)) = lv2) (k : T G x s (pc + 1) lv2 st) : T G x s pc lv (.int v :: st) := by
  obtain ⟨E, ⟨p, e, R, s0, m, args, below, meth, cde, A, cells, slots⟩, nL0, Q, r⟩ := G
  obtain ⟨hexec, hb, hml, rfl, hown, hts, hK, hD, hr, hlocks, ⟨hfr, hlo, hc, hs⟩, hst⟩ := hX
  exact fun hx H locs ls hP hS hl => lv_istore_n hexec hb hd hi hl hn hl2 (fun ls2 hl3 => k hx H locs ls2 hP hS hl3)
theorem tr_istore (hX : ok G cc nL own ret fr lo) {i : Nat} {v : Int32} {lv2 : List (Nat × Value)} (hd : decode cc pc = .ok (.istore i, 2)) (hn : i < nL) (hl2 : (i, Value.int v) :: lv.filter (fun q => !(q.1 == i) && !(q.1 + 1 == i && q.2.category == 2)) = lv2) (k : T G x s (pc + 2) lv2 st) : T G x s pc lv (.int v :: st) := by
  obtain ⟨E, ⟨p, e, R, s0, m, args, below, meth, cde, A, cells, slots⟩, nL0, Q, r⟩ := G
  obtain ⟨hexec, hb, hml, rfl, hown, hts, hK, hD, hr, hlocks, ⟨hfr, hlo, hc, hs⟩, hst⟩ := hX
  exact fun hx H locs ls hP hS hl => lv_istore hexec hb hd hl hn hl2 (fun ls2 hl3 => k hx H locs ls2 hP hS hl3)
theorem tr_iinc (hX : ok G cc nL own ret fr lo) {i : Nat} (q : Nat) {n : Int} {v v2 : Int32} {lv2 : List (Nat × Value)} (hd : decode cc pc = .ok (.iinc i n, 3)) (hq : lv[q]? = some (i, .int v)) (hv : v + Int32.ofInt n = v2) (hn : i < nL) (hl2 : (i, Value.int v2) :: lv.filter (fun q => !(q.1 == i) && !(q.1 + 1 == i && q.2.category == 2)) = lv2) (k : T G x s (pc + 3) lv2 st) : T G x s pc lv st := by
  obtain ⟨E, ⟨p, e, R, s0, m, args, below, meth, cde, A, cells, slots⟩, nL0, Q, r⟩ := G
  obtain ⟨hexec, hb, hml, rfl, hown, hts, hK, hD, hr, hlocks, ⟨hfr, hlo, hc, hs⟩, hst⟩ := hX
  exact fun hx H locs ls hP hS hl => lv_iinc hexec hb hd hl hq hv hn hl2 (fun ls2 hl3 => k hx H locs ls2 hP hS hl3)
theorem tr_lv (ks : List Nat) {lv2 : List (Nat × Value)} (h : lv_pick lv ks = lv2) (k : T G x s pc lv2 st) : T G x s pc lv st := by
  obtain ⟨E, ⟨p, e, R, s0, m, args, below, meth, cde, A, cells, slots⟩, nL0, Q, r⟩ := G
  exact fun hx H locs ls hP hS hl => k hx H locs ls hP hS (lv_sub hl ks h)
theorem tr_iadd (hX : ok G cc nL own ret fr lo) {a b : Int32} (hd : decode cc pc = .ok (.iadd, 1)) (k : T G x s (pc + 1) lv (.int (a + b) :: st)) : T G x s pc lv (.int b :: .int a :: st) := by
  obtain ⟨E, ⟨p, e, R, s0, m, args, below, meth, cde, A, cells, slots⟩, nL0, Q, r⟩ := G
  obtain ⟨hexec, hb, hml, rfl, hown, hts, hK, hD, hr, hlocks, ⟨hfr, hlo, hc, hs⟩, hst⟩ := hX
  exact fun hx H locs ls hP hS hl => lv_iadd hexec hb hd (k hx H locs ls hP hS hl)
theorem tr_isub (hX : ok G cc nL own ret fr lo) {a b : Int32} (hd : decode cc pc = .ok (.isub, 1)) (k : T G x s (pc + 1) lv (.int (a - b) :: st)) : T G x s pc lv (.int b :: .int a :: st) := by
  obtain ⟨E, ⟨p, e, R, s0, m, args, below, meth, cde, A, cells, slots⟩, nL0, Q, r⟩ := G
  obtain ⟨hexec, hb, hml, rfl, hown, hts, hK, hD, hr, hlocks, ⟨hfr, hlo, hc, hs⟩, hst⟩ := hX
  exact fun hx H locs ls hP hS hl => lv_isub hexec hb hd (k hx H locs ls hP hS hl)
theorem tr_imul (hX : ok G cc nL own ret fr lo) {a b : Int32} (hd : decode cc pc = .ok (.imul, 1)) (k : T G x s (pc + 1) lv (.int (a * b) :: st)) : T G x s pc lv (.int b :: .int a :: st) := by
  obtain ⟨E, ⟨p, e, R, s0, m, args, below, meth, cde, A, cells, slots⟩, nL0, Q, r⟩ := G
  obtain ⟨hexec, hb, hml, rfl, hown, hts, hK, hD, hr, hlocks, ⟨hfr, hlo, hc, hs⟩, hst⟩ := hX
  exact fun hx H locs ls hP hS hl => lv_imul hexec hb hd (k hx H locs ls hP hS hl)
theorem tr_iand (hX : ok G cc nL own ret fr lo) {a b : Int32} (hd : decode cc pc = .ok (.iand, 1)) (k : T G x s (pc + 1) lv (.int (a &&& b) :: st)) : T G x s pc lv (.int b :: .int a :: st) := by
  obtain ⟨E, ⟨p, e, R, s0, m, args, below, meth, cde, A, cells, slots⟩, nL0, Q, r⟩ := G
  obtain ⟨hexec, hb, hml, rfl, hown, hts, hK, hD, hr, hlocks, ⟨hfr, hlo, hc, hs⟩, hst⟩ := hX
  exact fun hx H locs ls hP hS hl => lv_iand hexec hb hd (k hx H locs ls hP hS hl)
theorem tr_ior (hX : ok G cc nL own ret fr lo) {a b : Int32} (hd : decode cc pc = .ok (.ior, 1)) (k : T G x s (pc + 1) lv (.int (a ||| b) :: st)) : T G x s pc lv (.int b :: .int a :: st) := by
  obtain ⟨E, ⟨p, e, R, s0, m, args, below, meth, cde, A, cells, slots⟩, nL0, Q, r⟩ := G
  obtain ⟨hexec, hb, hml, rfl, hown, hts, hK, hD, hr, hlocks, ⟨hfr, hlo, hc, hs⟩, hst⟩ := hX
  exact fun hx H locs ls hP hS hl => lv_ior hexec hb hd (k hx H locs ls hP hS hl)
theorem tr_ixor (hX : ok G cc nL own ret fr lo) {a b : Int32} (hd : decode cc pc = .ok (.ixor, 1)) (k : T G x s (pc + 1) lv (.int (a ^^^ b) :: st)) : T G x s pc lv (.int b :: .int a :: st) := by
  obtain ⟨E, ⟨p, e, R, s0, m, args, below, meth, cde, A, cells, slots⟩, nL0, Q, r⟩ := G
  obtain ⟨hexec, hb, hml, rfl, hown, hts, hK, hD, hr, hlocks, ⟨hfr, hlo, hc, hs⟩, hst⟩ := hX
  exact fun hx H locs ls hP hS hl => lv_ixor hexec hb hd (k hx H locs ls hP hS hl)
theorem tr_ishl (hX : ok G cc nL own ret fr lo) {a b : Int32} (hd : decode cc pc = .ok (.ishl, 1)) (k : T G x s (pc + 1) lv (.int (a <<< (b &&& 31)) :: st)) : T G x s pc lv (.int b :: .int a :: st) := by
  obtain ⟨E, ⟨p, e, R, s0, m, args, below, meth, cde, A, cells, slots⟩, nL0, Q, r⟩ := G
  obtain ⟨hexec, hb, hml, rfl, hown, hts, hK, hD, hr, hlocks, ⟨hfr, hlo, hc, hs⟩, hst⟩ := hX
  exact fun hx H locs ls hP hS hl => lv_ishl hexec hb hd (k hx H locs ls hP hS hl)
theorem tr_ishr (hX : ok G cc nL own ret fr lo) {a b : Int32} (hd : decode cc pc = .ok (.ishr, 1)) (k : T G x s (pc + 1) lv (.int (a >>> (b &&& 31)) :: st)) : T G x s pc lv (.int b :: .int a :: st) := by
  obtain ⟨E, ⟨p, e, R, s0, m, args, below, meth, cde, A, cells, slots⟩, nL0, Q, r⟩ := G
  obtain ⟨hexec, hb, hml, rfl, hown, hts, hK, hD, hr, hlocks, ⟨hfr, hlo, hc, hs⟩, hst⟩ := hX
  exact fun hx H locs ls hP hS hl => lv_ishr hexec hb hd (k hx H locs ls hP hS hl)
theorem tr_ineg (hX : ok G cc nL own ret fr lo) {a : Int32} (hd : decode cc pc = .ok (.ineg, 1)) (k : T G x s (pc + 1) lv (.int (-a) :: st)) : T G x s pc lv (.int a :: st) := by
  obtain ⟨E, ⟨p, e, R, s0, m, args, below, meth, cde, A, cells, slots⟩, nL0, Q, r⟩ := G
  obtain ⟨hexec, hb, hml, rfl, hown, hts, hK, hD, hr, hlocks, ⟨hfr, hlo, hc, hs⟩, hst⟩ := hX
  exact fun hx H locs ls hP hS hl => lv_ineg hexec hb hd (k hx H locs ls hP hS hl)
def ushr (a b : Int32) : Int32 := (a.toUInt32 >>> (b.toUInt32 &&& Int32.toUInt32 31)).toInt32
theorem tr_iushr (hX : ok G cc nL own ret fr lo) {a b : Int32} (hd : decode cc pc = .ok (.iushr, 1)) (k : T G x s (pc + 1) lv (.int (ushr a b) :: st)) : T G x s pc lv (.int b :: .int a :: st) := by
  obtain ⟨E, ⟨p, e, R, s0, m, args, below, meth, cde, A, cells, slots⟩, nL0, Q, r⟩ := G
  obtain ⟨hexec, hb, hml, rfl, hown, hts, hK, hD, hr, hlocks, ⟨hfr, hlo, hc, hs⟩, hst⟩ := hX
  exact fun hx H locs ls hP hS hl => lv_iushr hexec hb hd rfl (k hx H locs ls hP hS hl)
def irm (a b : Int32) : Int32 := a - a / b * b
def ck (b : Bool) (x : Option (Int32 × Hp)) : Option (Int32 × Hp) := if b = true then x else none
theorem ck_some {b : Bool} {x : Option (Int32 × Hp)} {r : Int32 × Hp} (h : ck b x = some r) : b = true ∧ x = some r := by
  unfold ck at h
  split at h
  · exact ⟨by assumption, h⟩
  · cases h
def inR (i : Int32) (n : Nat) : Bool := decide (¬ (i < 0 ∨ n ≤ i.toNatClampNeg))
theorem inR_in {i : Int32} {n : Nat} (h : inR i n = true) : vp_in i n := by
  unfold vp_in
  exact of_decide_eq_true h
def ne0 (i : Int32) : Bool := decide (¬ i = 0)
def ix (i : Int32) : Nat := i.toNatClampNeg
theorem tr_idiv (hX : ok G cc nL own ret fr lo) {a b : Int32} (hd : decode cc pc = .ok (.idiv, 1)) (k : T G x s (pc + 1) lv (.int (a / b) :: st)) : T G (ck (ne0 b) x) s pc lv (.int b :: .int a :: st) := by
  obtain ⟨E, ⟨p, e, R, s0, m, args, below, meth, cde, A, cells, slots⟩, nL0, Q, r⟩ := G
  obtain ⟨hexec, hb, hml, rfl, hown, hts, hK, hD, hr, hlocks, ⟨hfr, hlo, hc, hs⟩, hst⟩ := hX
  exact fun hx H locs ls hP hS hl => lv_idiv hexec hb hd (of_decide_eq_true (ck_some hx).1) (k (ck_some hx).2 H locs ls hP hS hl)
theorem tr_idivC (hX : ok G cc nL own ret fr lo) {a b : Int32} (hd : decode cc pc = .ok (.idiv, 1)) (hn : ¬ b = 0) (k : T G x s (pc + 1) lv (.int (a / b) :: st)) : T G x s pc lv (.int b :: .int a :: st) := by
  obtain ⟨E, ⟨p, e, R, s0, m, args, below, meth, cde, A, cells, slots⟩, nL0, Q, r⟩ := G
  obtain ⟨hexec, hb, hml, rfl, hown, hts, hK, hD, hr, hlocks, ⟨hfr, hlo, hc, hs⟩, hst⟩ := hX
  exact fun hx H locs ls hP hS hl => lv_idiv hexec hb hd hn (k hx H locs ls hP hS hl)
theorem tr_irem (hX : ok G cc nL own ret fr lo) {a b : Int32} (hd : decode cc pc = .ok (.irem, 1)) (k : T G x s (pc + 1) lv (.int (irm a b) :: st)) : T G (ck (ne0 b) x) s pc lv (.int b :: .int a :: st) := by
  obtain ⟨E, ⟨p, e, R, s0, m, args, below, meth, cde, A, cells, slots⟩, nL0, Q, r⟩ := G
  obtain ⟨hexec, hb, hml, rfl, hown, hts, hK, hD, hr, hlocks, ⟨hfr, hlo, hc, hs⟩, hst⟩ := hX
  exact fun hx H locs ls hP hS hl => lv_irem hexec hb hd (of_decide_eq_true (ck_some hx).1) (k (ck_some hx).2 H locs ls hP hS hl)
theorem tr_iremC (hX : ok G cc nL own ret fr lo) {a b : Int32} (hd : decode cc pc = .ok (.irem, 1)) (hn : ¬ b = 0) (k : T G x s (pc + 1) lv (.int (irm a b) :: st)) : T G x s pc lv (.int b :: .int a :: st) := by
  obtain ⟨E, ⟨p, e, R, s0, m, args, below, meth, cde, A, cells, slots⟩, nL0, Q, r⟩ := G
  obtain ⟨hexec, hb, hml, rfl, hown, hts, hK, hD, hr, hlocks, ⟨hfr, hlo, hc, hs⟩, hst⟩ := hX
  exact fun hx H locs ls hP hS hl => lv_irem hexec hb hd hn (k hx H locs ls hP hS hl)
theorem tr_dup (hX : ok G cc nL own ret fr lo) {v : Value} (hd : decode cc pc = .ok (.dup, 1)) (hv : v.category = 1) (k : T G x s (pc + 1) lv (v :: v :: st)) : T G x s pc lv (v :: st) := by
  obtain ⟨E, ⟨p, e, R, s0, m, args, below, meth, cde, A, cells, slots⟩, nL0, Q, r⟩ := G
  obtain ⟨hexec, hb, hml, rfl, hown, hts, hK, hD, hr, hlocks, ⟨hfr, hlo, hc, hs⟩, hst⟩ := hX
  exact fun hx H locs ls hP hS hl => lv_dup hexec hb hd hv (k hx H locs ls hP hS hl)
theorem tr_dup2 (hX : ok G cc nL own ret fr lo) {v u : Value} (hd : decode cc pc = .ok (.dup2, 1)) (hv : v.category = 1) (hu : u.category = 1) (k : T G x s (pc + 1) lv (v :: u :: v :: u :: st)) : T G x s pc lv (v :: u :: st) := by
  obtain ⟨E, ⟨p, e, R, s0, m, args, below, meth, cde, A, cells, slots⟩, nL0, Q, r⟩ := G
  obtain ⟨hexec, hb, hml, rfl, hown, hts, hK, hD, hr, hlocks, ⟨hfr, hlo, hc, hs⟩, hst⟩ := hX
  exact fun hx H locs ls hP hS hl => lv_dup2_11 hexec hb hd hv hu (k hx H locs ls hP hS hl)
theorem tr_if_eq (hX : ok G cc nL own ret fr lo) {a : Int32} {off : Int} (tgt : Nat) (hd : decode cc pc = .ok (.ifCond .eq off, 3)) (ht : (pc : Int) + off = (tgt : Int)) (ka : T G xa s tgt lv st) (kb : T G xb s (pc + 3) lv st) : T G (if a = 0 then xa else xb) s pc lv (.int a :: st) := by
  obtain ⟨E, ⟨p, e, R, s0, m, args, below, meth, cde, A, cells, slots⟩, nL0, Q, r⟩ := G
  obtain ⟨hexec, hb, hml, rfl, hown, hts, hK, hD, hr, hlocks, ⟨hfr, hlo, hc, hs⟩, hst⟩ := hX
  exact fun hx H locs ls hP hS hl => lv_if_eq hexec hb hd ht (fun hc => ka (by rw [if_pos hc] at hx; exact hx) H locs ls hP hS hl) (fun hc => kb (by rw [if_neg hc] at hx; exact hx) H locs ls hP hS hl)
theorem tr_if_ne (hX : ok G cc nL own ret fr lo) {a : Int32} {off : Int} (tgt : Nat) (hd : decode cc pc = .ok (.ifCond .ne off, 3)) (ht : (pc : Int) + off = (tgt : Int)) (ka : T G xa s tgt lv st) (kb : T G xb s (pc + 3) lv st) : T G (if a = 0 then xb else xa) s pc lv (.int a :: st) := by
  obtain ⟨E, ⟨p, e, R, s0, m, args, below, meth, cde, A, cells, slots⟩, nL0, Q, r⟩ := G
  obtain ⟨hexec, hb, hml, rfl, hown, hts, hK, hD, hr, hlocks, ⟨hfr, hlo, hc, hs⟩, hst⟩ := hX
  exact fun hx H locs ls hP hS hl => lv_if_ne hexec hb hd ht (fun hc => ka (by rw [if_neg hc] at hx; exact hx) H locs ls hP hS hl) (fun hc => kb (by rw [if_pos hc] at hx; exact hx) H locs ls hP hS hl)
theorem tr_if_lt (hX : ok G cc nL own ret fr lo) {a : Int32} {off : Int} (tgt : Nat) (hd : decode cc pc = .ok (.ifCond .lt off, 3)) (ht : (pc : Int) + off = (tgt : Int)) (ka : T G xa s tgt lv st) (kb : T G xb s (pc + 3) lv st) : T G (if a < 0 then xa else xb) s pc lv (.int a :: st) := by
  obtain ⟨E, ⟨p, e, R, s0, m, args, below, meth, cde, A, cells, slots⟩, nL0, Q, r⟩ := G
  obtain ⟨hexec, hb, hml, rfl, hown, hts, hK, hD, hr, hlocks, ⟨hfr, hlo, hc, hs⟩, hst⟩ := hX
  exact fun hx H locs ls hP hS hl => lv_if_lt hexec hb hd ht (fun hc => ka (by rw [if_pos hc] at hx; exact hx) H locs ls hP hS hl) (fun hc => kb (by rw [if_neg hc] at hx; exact hx) H locs ls hP hS hl)
theorem tr_if_ge (hX : ok G cc nL own ret fr lo) {a : Int32} {off : Int} (tgt : Nat) (hd : decode cc pc = .ok (.ifCond .ge off, 3)) (ht : (pc : Int) + off = (tgt : Int)) (ka : T G xa s tgt lv st) (kb : T G xb s (pc + 3) lv st) : T G (if 0 ≤ a then xa else xb) s pc lv (.int a :: st) := by
  obtain ⟨E, ⟨p, e, R, s0, m, args, below, meth, cde, A, cells, slots⟩, nL0, Q, r⟩ := G
  obtain ⟨hexec, hb, hml, rfl, hown, hts, hK, hD, hr, hlocks, ⟨hfr, hlo, hc, hs⟩, hst⟩ := hX
  exact fun hx H locs ls hP hS hl => lv_if_ge hexec hb hd ht (fun hc => ka (by rw [if_pos hc] at hx; exact hx) H locs ls hP hS hl) (fun hc => kb (by rw [if_neg hc] at hx; exact hx) H locs ls hP hS hl)
theorem tr_if_gt (hX : ok G cc nL own ret fr lo) {a : Int32} {off : Int} (tgt : Nat) (hd : decode cc pc = .ok (.ifCond .gt off, 3)) (ht : (pc : Int) + off = (tgt : Int)) (ka : T G xa s tgt lv st) (kb : T G xb s (pc + 3) lv st) : T G (if 0 < a then xa else xb) s pc lv (.int a :: st) := by
  obtain ⟨E, ⟨p, e, R, s0, m, args, below, meth, cde, A, cells, slots⟩, nL0, Q, r⟩ := G
  obtain ⟨hexec, hb, hml, rfl, hown, hts, hK, hD, hr, hlocks, ⟨hfr, hlo, hc, hs⟩, hst⟩ := hX
  exact fun hx H locs ls hP hS hl => lv_if_gt hexec hb hd ht (fun hc => ka (by rw [if_pos hc] at hx; exact hx) H locs ls hP hS hl) (fun hc => kb (by rw [if_neg hc] at hx; exact hx) H locs ls hP hS hl)
theorem tr_if_le (hX : ok G cc nL own ret fr lo) {a : Int32} {off : Int} (tgt : Nat) (hd : decode cc pc = .ok (.ifCond .le off, 3)) (ht : (pc : Int) + off = (tgt : Int)) (ka : T G xa s tgt lv st) (kb : T G xb s (pc + 3) lv st) : T G (if a ≤ 0 then xa else xb) s pc lv (.int a :: st) := by
  obtain ⟨E, ⟨p, e, R, s0, m, args, below, meth, cde, A, cells, slots⟩, nL0, Q, r⟩ := G
  obtain ⟨hexec, hb, hml, rfl, hown, hts, hK, hD, hr, hlocks, ⟨hfr, hlo, hc, hs⟩, hst⟩ := hX
  exact fun hx H locs ls hP hS hl => lv_if_le hexec hb hd ht (fun hc => ka (by rw [if_pos hc] at hx; exact hx) H locs ls hP hS hl) (fun hc => kb (by rw [if_neg hc] at hx; exact hx) H locs ls hP hS hl)
theorem tr_icmp_eq (hX : ok G cc nL own ret fr lo) {a b : Int32} {off : Int} (tgt : Nat) (hd : decode cc pc = .ok (.if_icmp .eq off, 3)) (ht : (pc : Int) + off = (tgt : Int)) (ka : T G xa s tgt lv st) (kb : T G xb s (pc + 3) lv st) : T G (if a = b then xa else xb) s pc lv (.int b :: .int a :: st) := by
  obtain ⟨E, ⟨p, e, R, s0, m, args, below, meth, cde, A, cells, slots⟩, nL0, Q, r⟩ := G
  obtain ⟨hexec, hb, hml, rfl, hown, hts, hK, hD, hr, hlocks, ⟨hfr, hlo, hc, hs⟩, hst⟩ := hX
  exact fun hx H locs ls hP hS hl => lv_icmp_eq hexec hb hd ht (fun hc => ka (by rw [if_pos hc] at hx; exact hx) H locs ls hP hS hl) (fun hc => kb (by rw [if_neg hc] at hx; exact hx) H locs ls hP hS hl)
theorem tr_icmp_ne (hX : ok G cc nL own ret fr lo) {a b : Int32} {off : Int} (tgt : Nat) (hd : decode cc pc = .ok (.if_icmp .ne off, 3)) (ht : (pc : Int) + off = (tgt : Int)) (ka : T G xa s tgt lv st) (kb : T G xb s (pc + 3) lv st) : T G (if a = b then xb else xa) s pc lv (.int b :: .int a :: st) := by
  obtain ⟨E, ⟨p, e, R, s0, m, args, below, meth, cde, A, cells, slots⟩, nL0, Q, r⟩ := G
  obtain ⟨hexec, hb, hml, rfl, hown, hts, hK, hD, hr, hlocks, ⟨hfr, hlo, hc, hs⟩, hst⟩ := hX
  exact fun hx H locs ls hP hS hl => lv_icmp_ne hexec hb hd ht (fun hc => ka (by rw [if_neg hc] at hx; exact hx) H locs ls hP hS hl) (fun hc => kb (by rw [if_pos hc] at hx; exact hx) H locs ls hP hS hl)
theorem tr_icmp_lt (hX : ok G cc nL own ret fr lo) {a b : Int32} {off : Int} (tgt : Nat) (hd : decode cc pc = .ok (.if_icmp .lt off, 3)) (ht : (pc : Int) + off = (tgt : Int)) (ka : T G xa s tgt lv st) (kb : T G xb s (pc + 3) lv st) : T G (if a < b then xa else xb) s pc lv (.int b :: .int a :: st) := by
  obtain ⟨E, ⟨p, e, R, s0, m, args, below, meth, cde, A, cells, slots⟩, nL0, Q, r⟩ := G
  obtain ⟨hexec, hb, hml, rfl, hown, hts, hK, hD, hr, hlocks, ⟨hfr, hlo, hc, hs⟩, hst⟩ := hX
  exact fun hx H locs ls hP hS hl => lv_icmp_lt hexec hb hd ht (fun hc => ka (by rw [if_pos hc] at hx; exact hx) H locs ls hP hS hl) (fun hc => kb (by rw [if_neg hc] at hx; exact hx) H locs ls hP hS hl)
theorem tr_icmp_ge (hX : ok G cc nL own ret fr lo) {a b : Int32} {off : Int} (tgt : Nat) (hd : decode cc pc = .ok (.if_icmp .ge off, 3)) (ht : (pc : Int) + off = (tgt : Int)) (ka : T G xa s tgt lv st) (kb : T G xb s (pc + 3) lv st) : T G (if b ≤ a then xa else xb) s pc lv (.int b :: .int a :: st) := by
  obtain ⟨E, ⟨p, e, R, s0, m, args, below, meth, cde, A, cells, slots⟩, nL0, Q, r⟩ := G
  obtain ⟨hexec, hb, hml, rfl, hown, hts, hK, hD, hr, hlocks, ⟨hfr, hlo, hc, hs⟩, hst⟩ := hX
  exact fun hx H locs ls hP hS hl => lv_icmp_ge hexec hb hd ht (fun hc => ka (by rw [if_pos hc] at hx; exact hx) H locs ls hP hS hl) (fun hc => kb (by rw [if_neg hc] at hx; exact hx) H locs ls hP hS hl)
theorem tr_icmp_gt (hX : ok G cc nL own ret fr lo) {a b : Int32} {off : Int} (tgt : Nat) (hd : decode cc pc = .ok (.if_icmp .gt off, 3)) (ht : (pc : Int) + off = (tgt : Int)) (ka : T G xa s tgt lv st) (kb : T G xb s (pc + 3) lv st) : T G (if b < a then xa else xb) s pc lv (.int b :: .int a :: st) := by
  obtain ⟨E, ⟨p, e, R, s0, m, args, below, meth, cde, A, cells, slots⟩, nL0, Q, r⟩ := G
  obtain ⟨hexec, hb, hml, rfl, hown, hts, hK, hD, hr, hlocks, ⟨hfr, hlo, hc, hs⟩, hst⟩ := hX
  exact fun hx H locs ls hP hS hl => lv_icmp_gt hexec hb hd ht (fun hc => ka (by rw [if_pos hc] at hx; exact hx) H locs ls hP hS hl) (fun hc => kb (by rw [if_neg hc] at hx; exact hx) H locs ls hP hS hl)
theorem tr_icmp_le (hX : ok G cc nL own ret fr lo) {a b : Int32} {off : Int} (tgt : Nat) (hd : decode cc pc = .ok (.if_icmp .le off, 3)) (ht : (pc : Int) + off = (tgt : Int)) (ka : T G xa s tgt lv st) (kb : T G xb s (pc + 3) lv st) : T G (if a ≤ b then xa else xb) s pc lv (.int b :: .int a :: st) := by
  obtain ⟨E, ⟨p, e, R, s0, m, args, below, meth, cde, A, cells, slots⟩, nL0, Q, r⟩ := G
  obtain ⟨hexec, hb, hml, rfl, hown, hts, hK, hD, hr, hlocks, ⟨hfr, hlo, hc, hs⟩, hst⟩ := hX
  exact fun hx H locs ls hP hS hl => lv_icmp_le hexec hb hd ht (fun hc => ka (by rw [if_pos hc] at hx; exact hx) H locs ls hP hS hl) (fun hc => kb (by rw [if_neg hc] at hx; exact hx) H locs ls hP hS hl)
theorem tr_goto (hX : ok G cc nL own ret fr lo) {off : Int} (tgt : Nat) (hd : decode cc pc = .ok (.goto off, 3)) (ht : (pc : Int) + off = (tgt : Int)) (k : T G x s tgt lv st) : T G x s pc lv st := by
  obtain ⟨E, ⟨p, e, R, s0, m, args, below, meth, cde, A, cells, slots⟩, nL0, Q, r⟩ := G
  obtain ⟨hexec, hb, hml, rfl, hown, hts, hK, hD, hr, hlocks, ⟨hfr, hlo, hc, hs⟩, hst⟩ := hX
  exact fun hx H locs ls hP hS hl => lv_goto hexec hb hd ht (k hx H locs ls hP hS hl)
theorem tr_getI (hX : ok G cc nL own ret fr lo) {ci N i : Nat} {C : String} {Tb : u_T} (c k : Nat) {fs : List (Option Nat)} (hc0 : c < NC) (hs0 : sch c = .inr (.inr (ci, fs))) (hk0 : fs[k]? = some (none)) (hcl : classes[ci]? = some (C, Tb, N)) (hkN : k < N) (hin : ∀ w ∈ u_ws C Tb N, w ∈ gw) (hw : Cond.fieldLink own i (Tb k).1 (Tb k).2.1 (Tb k).2.2.1 ∈ gw) (hd : decode cc pc = .ok (.getfield i, 3)) (k0 : T G x s (pc + 3) lv (.int (s c k) :: st)) : T G x s pc lv (rf G.1 c :: st) := by
  obtain ⟨E, ⟨p, e, R, s0, m, args, below, meth, cde, A, cells, slots⟩, nL0, Q, r⟩ := G
  obtain ⟨hexec, hb, hml, rfl, hown, hts, hK, hD, hr, hlocks, ⟨hfr, hlo, hc, hs⟩, hst⟩ := hX
  have hv : (fs.mapIdx (fun k f => fval E s c k f))[k]? = some (fval E s c k (none)) := by rw [List.getElem?_mapIdx, hk0]; rfl
  exact fun hx H locs ls hP hS hl => va_get (C := C) (T := Tb) (N := N) (ci := ci) hexec hb hts hin hown hK hP c (by rw [wd_get E s hc0, hs0]; rfl) hcl k hkN (hts _ hw) (fun _ h9 => h9) hv hd (k0 hx H locs ls hP hS hl)
theorem tr_getR (hX : ok G cc nL own ret fr lo) {ci N i : Nat} {C : String} {Tb : u_T} (c k : Nat) {d : Nat} {fs : List (Option Nat)} (hc0 : c < NC) (hs0 : sch c = .inr (.inr (ci, fs))) (hk0 : fs[k]? = some (some d)) (hcl : classes[ci]? = some (C, Tb, N)) (hkN : k < N) (hin : ∀ w ∈ u_ws C Tb N, w ∈ gw) (hw : Cond.fieldLink own i (Tb k).1 (Tb k).2.1 (Tb k).2.2.1 ∈ gw) (hd : decode cc pc = .ok (.getfield i, 3)) (k0 : T G x s (pc + 3) lv (rf G.1 d :: st)) : T G x s pc lv (rf G.1 c :: st) := by
  obtain ⟨E, ⟨p, e, R, s0, m, args, below, meth, cde, A, cells, slots⟩, nL0, Q, r⟩ := G
  obtain ⟨hexec, hb, hml, rfl, hown, hts, hK, hD, hr, hlocks, ⟨hfr, hlo, hc, hs⟩, hst⟩ := hX
  have hv : (fs.mapIdx (fun k f => fval E s c k f))[k]? = some (fval E s c k (some d)) := by rw [List.getElem?_mapIdx, hk0]; rfl
  exact fun hx H locs ls hP hS hl => va_get (C := C) (T := Tb) (N := N) (ci := ci) hexec hb hts hin hown hK hP c (by rw [wd_get E s hc0, hs0]; rfl) hcl k hkN (hts _ hw) (fun _ h9 => h9) hv hd (k0 hx H locs ls hP hS hl)
theorem tr_getNI (hX : ok G cc nL own ret fr lo) {ci N i : Nat} {C : String} {Tb : u_T} {h : String} (c k : Nat) {fs : List (Option Nat)} (hc0 : c < NC) (hs0 : sch c = .inr (.inr (ci, fs))) (hk0 : fs[k]? = some (none)) (hcl : classes[ci]? = some (C, Tb, N)) (hkN : k < N) (hin : ∀ w ∈ u_ws C Tb N, w ∈ gw) (hw : Cond.fieldLinkNest own i (Tb k).1 (Tb k).2.1 (Tb k).2.2.1 h ∈ lw_tbl) (hd : decode cc pc = .ok (.getfield i, 3)) (k0 : T G x s (pc + 3) lv (.int (s c k) :: st)) : T G x s pc lv (rf G.1 c :: st) := by
  obtain ⟨E, ⟨p, e, R, s0, m, args, below, meth, cde, A, cells, slots⟩, nL0, Q, r⟩ := G
  obtain ⟨hexec, hb, hml, rfl, hown, hts, hK, hD, hr, hlocks, ⟨hfr, hlo, hc, hs⟩, hst⟩ := hX
  have hv : (fs.mapIdx (fun k f => fval E s c k f))[k]? = some (fval E s c k (none)) := by rw [List.getElem?_mapIdx, hk0]; rfl
  exact fun hx H locs ls hP hS hl => va_getN (C := C) (T := Tb) (N := N) (ci := ci) hexec hb hts hin hown hK hP c (by rw [wd_get E s hc0, hs0]; rfl) hcl k hkN (va_Nw.use (A := args) rfl (hst.1 _ _ _ _ _ _ hw)) (fun _ h9 => h9) hv hd (k0 hx H locs ls hP hS hl)
theorem tr_getNR (hX : ok G cc nL own ret fr lo) {ci N i : Nat} {C : String} {Tb : u_T} {h : String} (c k : Nat) {d : Nat} {fs : List (Option Nat)} (hc0 : c < NC) (hs0 : sch c = .inr (.inr (ci, fs))) (hk0 : fs[k]? = some (some d)) (hcl : classes[ci]? = some (C, Tb, N)) (hkN : k < N) (hin : ∀ w ∈ u_ws C Tb N, w ∈ gw) (hw : Cond.fieldLinkNest own i (Tb k).1 (Tb k).2.1 (Tb k).2.2.1 h ∈ lw_tbl) (hd : decode cc pc = .ok (.getfield i, 3)) (k0 : T G x s (pc + 3) lv (rf G.1 d :: st)) : T G x s pc lv (rf G.1 c :: st) := by
  obtain ⟨E, ⟨p, e, R, s0, m, args, below, meth, cde, A, cells, slots⟩, nL0, Q, r⟩ := G
  obtain ⟨hexec, hb, hml, rfl, hown, hts, hK, hD, hr, hlocks, ⟨hfr, hlo, hc, hs⟩, hst⟩ := hX
  have hv : (fs.mapIdx (fun k f => fval E s c k f))[k]? = some (fval E s c k (some d)) := by rw [List.getElem?_mapIdx, hk0]; rfl
  exact fun hx H locs ls hP hS hl => va_getN (C := C) (T := Tb) (N := N) (ci := ci) hexec hb hts hin hown hK hP c (by rw [wd_get E s hc0, hs0]; rfl) hcl k hkN (va_Nw.use (A := args) rfl (hst.1 _ _ _ _ _ _ hw)) (fun _ h9 => h9) hv hd (k0 hx H locs ls hP hS hl)
theorem tr_putI (hX : ok G cc nL own ret fr lo) {ci N i : Nat} {C : String} {Tb : u_T} (c k : Nat) {v : Int32} {fs : List (Option Nat)} (ty0 : Nat → FieldType) (hty : ∀ k, k < N → parseFieldDescriptor (Tb k).2.2.1 = some (ty0 k)) (hnm : ∀ a, a < N → ∀ b, b < N → a ≠ b → (Tb a).2.1 ≠ (Tb b).2.1) (hc0 : c < NC) (hs0 : sch c = .inr (.inr (ci, fs))) (hk0 : fs[k]? = some none) (hcl : classes[ci]? = some (C, Tb, N)) (hkN : k < N) (hin : ∀ w ∈ u_ws C Tb N, w ∈ gw) (hw : Cond.fieldLink own i (Tb k).1 (Tb k).2.1 (Tb k).2.2.1 ∈ gw) (hfin : (Tb k).2.2.2 = false) (hdsc : parseFieldDescriptor (Tb k).2.2.1 = some .int) (hd : decode cc pc = .ok (.putfield i, 3)) {kf : Hp → Option (Int32 × Hp)} (k0 : ∀ s2 : Hp, T G (kf s2) s2 (pc + 3) lv st) : T G (sb (hset s c k v) kf) s pc lv (.int v :: rf G.1 c :: st) := by
  obtain ⟨E, ⟨p, e, R, s0, m, args, below, meth, cde, A, cells, slots⟩, nL0, Q, r⟩ := G
  obtain ⟨hexec, hb, hml, rfl, hown, hts, hK, hD, hr, hlocks, ⟨hfr, hlo, hc, hs⟩, hst⟩ := hX
  have hlen : k < (fs.mapIdx (fun k f => fval E s c k f)).length := by rw [List.length_mapIdx]; exact (List.getElem?_eq_some_iff.mp hk0).1
  exact fun hx H locs ls hP hS hl => va_put (C := C) (T := Tb) (N := N) (ci := ci) (ty := .int) hexec hb hts hin ty0 hty hnm hown hK hP (wd_D hD) hS c (by rw [wd_get E s hc0, hs0]; rfl) hcl k hkN (hts _ hw) (fun _ h9 => h9) hfin hdsc (vp_nar_int v) rfl hlen hd (fun H1 locs1 hP1 hD1 hS1 => k0 _ hx H1 locs1 ls (by rw [← wd_obj hc0 hs0 hk0]; exact hP1) hS1 hl)
theorem tr_putNI (hX : ok G cc nL own ret fr lo) {ci N i : Nat} {C : String} {Tb : u_T} {h : String} (c k : Nat) {v : Int32} {fs : List (Option Nat)} (ty0 : Nat → FieldType) (hty : ∀ k, k < N → parseFieldDescriptor (Tb k).2.2.1 = some (ty0 k)) (hnm : ∀ a, a < N → ∀ b, b < N → a ≠ b → (Tb a).2.1 ≠ (Tb b).2.1) (hc0 : c < NC) (hs0 : sch c = .inr (.inr (ci, fs))) (hk0 : fs[k]? = some none) (hcl : classes[ci]? = some (C, Tb, N)) (hkN : k < N) (hin : ∀ w ∈ u_ws C Tb N, w ∈ gw) (hw : Cond.fieldLinkNest own i (Tb k).1 (Tb k).2.1 (Tb k).2.2.1 h ∈ lw_tbl) (hfin : (Tb k).2.2.2 = false) (hdsc : parseFieldDescriptor (Tb k).2.2.1 = some .int) (hd : decode cc pc = .ok (.putfield i, 3)) {kf : Hp → Option (Int32 × Hp)} (k0 : ∀ s2 : Hp, T G (kf s2) s2 (pc + 3) lv st) : T G (sb (hset s c k v) kf) s pc lv (.int v :: rf G.1 c :: st) := by
  obtain ⟨E, ⟨p, e, R, s0, m, args, below, meth, cde, A, cells, slots⟩, nL0, Q, r⟩ := G
  obtain ⟨hexec, hb, hml, rfl, hown, hts, hK, hD, hr, hlocks, ⟨hfr, hlo, hc, hs⟩, hst⟩ := hX
  have hlen : k < (fs.mapIdx (fun k f => fval E s c k f)).length := by rw [List.length_mapIdx]; exact (List.getElem?_eq_some_iff.mp hk0).1
  exact fun hx H locs ls hP hS hl => va_putN (C := C) (T := Tb) (N := N) (ci := ci) (ty := .int) hexec hb hts hin ty0 hty hnm hown hK hP (wd_D hD) hS c (by rw [wd_get E s hc0, hs0]; rfl) hcl k hkN (va_Nw.use (A := args) rfl (hst.1 _ _ _ _ _ _ hw)) (fun _ h9 => h9) hfin hdsc (vp_nar_int v) rfl hlen hd (fun H1 locs1 hP1 hD1 hS1 => k0 _ hx H1 locs1 ls (by rw [← wd_obj hc0 hs0 hk0]; exact hP1) hS1 hl)
theorem tr_iald (hX : ok G cc nL own ret fr lo) (c : Nat) {n : Nat} {i : Int32} (hc0 : c < NC) (hs0 : sch c = .inl (0, n)) (hd : decode cc pc = .ok (.iaload, 1)) (k0 : T G x s (pc + 1) lv (.int (s c (ix i)) :: st)) : T G (ck (inR i n) x) s pc lv (.int i :: rf G.1 c :: st) := by
  obtain ⟨E, ⟨p, e, R, s0, m, args, below, meth, cde, A, cells, slots⟩, nL0, Q, r⟩ := G
  obtain ⟨hexec, hb, hml, rfl, hown, hts, hK, hD, hr, hlocks, ⟨hfr, hlo, hc, hs⟩, hst⟩ := hX
  exact fun hx H locs ls hP hS hl => va_iald hexec hb hK hP c 0 (cA := E.2.2.1 0) (n := n) (f := s c) (by rw [wd_get E s hc0, hs0]; rfl) rfl (inR_in (ck_some hx).1) hd (k0 (ck_some hx).2 H locs ls hP hS hl)
theorem tr_zald (hX : ok G cc nL own ret fr lo) (c : Nat) {n : Nat} {i : Int32} (hc0 : c < NC) (hs0 : sch c = .inl (1, n)) (hd : decode cc pc = .ok (.baload, 1)) (k0 : T G x s (pc + 1) lv (.int (s c (ix i)) :: st)) : T G (ck (inR i n) x) s pc lv (.int i :: rf G.1 c :: st) := by
  obtain ⟨E, ⟨p, e, R, s0, m, args, below, meth, cde, A, cells, slots⟩, nL0, Q, r⟩ := G
  obtain ⟨hexec, hb, hml, rfl, hown, hts, hK, hD, hr, hlocks, ⟨hfr, hlo, hc, hs⟩, hst⟩ := hX
  exact fun hx H locs ls hP hS hl => va_zald hexec hb hK hP c 1 (cA := E.2.2.1 1) (n := n) (f := s c) (by rw [wd_get E s hc0, hs0]; rfl) rfl (inR_in (ck_some hx).1) hd (k0 (ck_some hx).2 H locs ls hP hS hl)
theorem tr_iast (hX : ok G cc nL own ret fr lo) (c : Nat) {n : Nat} {i v : Int32} (hc0 : c < NC) (hs0 : sch c = .inl (0, n)) (hd : decode cc pc = .ok (.iastore, 1)) {kf : Hp → Option (Int32 × Hp)} (k0 : ∀ s2 : Hp, T G (kf s2) s2 (pc + 1) lv st) : T G (ck (inR i n) (sb (hset s c (ix i) v) kf)) s pc lv (.int v :: .int i :: rf G.1 c :: st) := by
  obtain ⟨E, ⟨p, e, R, s0, m, args, below, meth, cde, A, cells, slots⟩, nL0, Q, r⟩ := G
  obtain ⟨hexec, hb, hml, rfl, hown, hts, hK, hD, hr, hlocks, ⟨hfr, hlo, hc, hs⟩, hst⟩ := hX
  exact fun hx H locs ls hP hS hl => va_iast hexec hb hK hP (wd_D hD) hS c 0 (cA := E.2.2.1 0) (n := n) (f := s c) (by rw [wd_get E s hc0, hs0]; rfl) rfl (inR_in (ck_some hx).1) hd (fun H1 locs1 hP1 hD1 hS1 => k0 _ (ck_some hx).2 H1 locs1 ls (by rw [← wd_arr hc0 hs0]; exact hP1) hS1 hl)
theorem tr_zast (hX : ok G cc nL own ret fr lo) (c : Nat) {n : Nat} {i v : Int32} (hc0 : c < NC) (hs0 : sch c = .inl (1, n)) (hv : vp_nar .boolean v = v) (hd : decode cc pc = .ok (.bastore, 1)) {kf : Hp → Option (Int32 × Hp)} (k0 : ∀ s2 : Hp, T G (kf s2) s2 (pc + 1) lv st) : T G (ck (inR i n) (sb (hset s c (ix i) v) kf)) s pc lv (.int v :: .int i :: rf G.1 c :: st) := by
  obtain ⟨E, ⟨p, e, R, s0, m, args, below, meth, cde, A, cells, slots⟩, nL0, Q, r⟩ := G
  obtain ⟨hexec, hb, hml, rfl, hown, hts, hK, hD, hr, hlocks, ⟨hfr, hlo, hc, hs⟩, hst⟩ := hX
  exact fun hx H locs ls hP hS hl => va_zast hexec hb hK hP (wd_D hD) hS c 1 (cA := E.2.2.1 1) (n := n) (f := s c) (by rw [wd_get E s hc0, hs0]; rfl) rfl (inR_in (ck_some hx).1) hd (fun H1 locs1 hP1 hD1 hS1 => k0 _ (ck_some hx).2 H1 locs1 ls (by rw [hv] at hP1; rw [← wd_arr hc0 hs0]; exact hP1) hS1 hl)
theorem tr_aald (hX : ok G cc nL own ret fr lo) (c : Nat) {n b : Nat} {i : Int32} (hc0 : c < NC) (hs0 : sch c = .inr (.inl (n, b))) (hd : decode cc pc = .ok (.aaload, 1)) (k0 : inR i n = true → T G x s (pc + 1) lv (rf G.1 (b + ix i) :: st)) : T G (ck (inR i n) x) s pc lv (.int i :: rf G.1 c :: st) := by
  obtain ⟨E, ⟨p, e, R, s0, m, args, below, meth, cde, A, cells, slots⟩, nL0, Q, r⟩ := G
  obtain ⟨hexec, hb, hml, rfl, hown, hts, hK, hD, hr, hlocks, ⟨hfr, hlo, hc, hs⟩, hst⟩ := hX
  intro hx H locs ls hP hS hl
  have hin : vp_in i n := inR_in (ck_some hx).1
  have hlt : i.toNatClampNeg < n := Nat.not_le.mp fun q => hin (Or.inr q)
  have he : (wd E s)[c]? = some (E.2.2.2 c, .inl (E.2.2.1 2, n, .inr (.inr (.inr (.inr (fun i => if i < n then some (E.2.2.2 (b + i)) else none)))))) := by rw [wd_get E s hc0, hs0]; rfl
  exact W.aald (v := rf E (b + ix i)) (ty := .array .int) hexec hb (hP c _ he) ((hK.2 2 _ rfl).1 n (fun j => va_rf (if j < n then some (E.2.2.2 (b + j)) else none))) rfl (fun q => by cases q) (by show ¬ (i < 0 ∨ (arrV _ _ _).slots.size ≤ _); rw [arrV_size]; exact hin) (by show (arrV _ _ _).slots[_]? = _; rw [arrV_read _ _ hlt]; show some (va_rf (if i.toNatClampNeg < n then some (E.2.2.2 (b + i.toNatClampNeg)) else none)) = _; rw [if_pos hlt]; rfl) rfl rfl hd (k0 (ck_some hx).1 (ck_some hx).2 H locs ls hP hS hl)
theorem tr_alen (hX : ok G cc nL own ret fr lo) (c : Nat) {n : Nat} {v : Int32} (hc0 : c < NC) (hs0 : sch c = .inl (0, n)) (hv : Int32.ofNat n = v) (hd : decode cc pc = .ok (.arraylength, 1)) (k0 : T G x s (pc + 1) lv (.int v :: st)) : T G x s pc lv (rf G.1 c :: st) := by
  obtain ⟨E, ⟨p, e, R, s0, m, args, below, meth, cde, A, cells, slots⟩, nL0, Q, r⟩ := G
  obtain ⟨hexec, hb, hml, rfl, hown, hts, hK, hD, hr, hlocks, ⟨hfr, hlo, hc, hs⟩, hst⟩ := hX
  exact fun hx H locs ls hP hS hl => va_alen hexec hb hK hP c 0 (cA := E.2.2.1 0) (x := (n, .inl (s c))) (by rw [wd_get E s hc0, hs0]; rfl) rfl hv hd (k0 hx H locs ls hP hS hl)
theorem tr_gets (hX : ok G cc nL own ret fr lo) {i : Nat} (hw : Cond.fieldLink own i "AirWatch" "GREATEST" "[I" ∈ gw) (hd : decode cc pc = .ok (.getstatic i, 3)) (k0 : T G x s (pc + 3) lv (rf G.1 136 :: st)) : T G x s pc lv st := by
  obtain ⟨E, ⟨p, e, R, s0, m, args, below, meth, cde, A, cells, slots⟩, nL0, Q, r⟩ := G
  obtain ⟨hexec, hb, hml, rfl, hown, hts, hK, hD, hr, hlocks, ⟨hfr, hlo, hc, hs⟩, hst⟩ := hX
  exact fun hx H locs ls hP hS hl => va_gets hexec hb hst.2.1 hS hown (hts _ hw) (fun _ h => h) hd (k0 hx H locs ls hP hS hl)
theorem tr_gald (hX : ok G cc nL own ret fr lo) {i : Int32} (hd : decode cc pc = .ok (.iaload, 1)) (k0 : T G x s (pc + 1) lv (.int (gG (ix i)) :: st)) : T G (ck (inR i 5) x) s pc lv (.int i :: rf G.1 136 :: st) := by
  obtain ⟨E, ⟨p, e, R, s0, m, args, below, meth, cde, A, cells, slots⟩, nL0, Q, r⟩ := G
  obtain ⟨hexec, hb, hml, rfl, hown, hts, hK, hD, hr, hlocks, ⟨hfr, hlo, hc, hs⟩, hst⟩ := hX
  exact fun hx H locs ls hP hS hl => va_ti hexec hb hst.2.2.1 hS (inR_in (ck_some hx).1) rfl hd (k0 (ck_some hx).2 H locs ls hP hS hl)
theorem tr_max (hX : ok G cc nL own ret fr lo) {a b : Int32} {i : Nat} (hw : Cond.methodLink own i Lib.Math.max.name ∈ gw) (hw2 : Cond.static Lib.Math.max.name ∈ gw) (hw3 : Cond.initialized "java/lang/Math" ∈ gw) (hw4 : Cond.code Lib.Math.max.name Lib.Math.max.code 2 (some .int) ∈ gw) (hfr2 : 1 ≤ fr) (hlo2 : (st.map fun v => v.category).sum + 13 ≤ lo) (hd : decode cc pc = .ok (.invokestatic i, 3)) (k0 : T G x s (pc + 3) lv (.int (imax a b) :: st)) : T G x s pc lv (.int b :: .int a :: st) := by
  obtain ⟨E, ⟨p, e, R, s0, m, args, below, meth, cde, A, cells, slots⟩, nL0, Q, r⟩ := G
  obtain ⟨hexec, hb, hml, rfl, hown, hts, hK, hD, hr, hlocks, ⟨hfr, hlo, hc, hs⟩, hst⟩ := hX
  exact fun hx H locs ls hP hS hl => va_mmax hexec hb (by rw [hml]; exact hl.1.symm) hown (hts _ hw) (hts _ hw2) (hts _ hw3) (hts _ hw4) (Nat.le_trans hfr2 hfr) (Nat.le_trans hlo2 hlo) hc hs hd (k0 hx H locs ls hP hS hl)
theorem tr_min (hX : ok G cc nL own ret fr lo) {a b : Int32} {i : Nat} (hw : Cond.methodLink own i Lib.Math.min.name ∈ gw) (hw2 : Cond.static Lib.Math.min.name ∈ gw) (hw3 : Cond.initialized "java/lang/Math" ∈ gw) (hw4 : Cond.code Lib.Math.min.name Lib.Math.min.code 2 (some .int) ∈ gw) (hfr2 : 1 ≤ fr) (hlo2 : (st.map fun v => v.category).sum + 13 ≤ lo) (hd : decode cc pc = .ok (.invokestatic i, 3)) (k0 : T G x s (pc + 3) lv (.int (imin a b) :: st)) : T G x s pc lv (.int b :: .int a :: st) := by
  obtain ⟨E, ⟨p, e, R, s0, m, args, below, meth, cde, A, cells, slots⟩, nL0, Q, r⟩ := G
  obtain ⟨hexec, hb, hml, rfl, hown, hts, hK, hD, hr, hlocks, ⟨hfr, hlo, hc, hs⟩, hst⟩ := hX
  exact fun hx H locs ls hP hS hl => va_mmin hexec hb (by rw [hml]; exact hl.1.symm) hown (hts _ hw) (hts _ hw2) (hts _ hw3) (hts _ hw4) (Nat.le_trans hfr2 hfr) (Nat.le_trans hlo2 hlo) hc hs hd (k0 hx H locs ls hP hS hl)
theorem tr_abs (hX : ok G cc nL own ret fr lo) {a : Int32} {i : Nat} (hw : Cond.methodLink own i Lib.Math.abs.name ∈ gw) (hw2 : Cond.static Lib.Math.abs.name ∈ gw) (hw3 : Cond.initialized "java/lang/Math" ∈ gw) (hw4 : Cond.code Lib.Math.abs.name Lib.Math.abs.code 1 (some .int) ∈ gw) (hfr2 : 1 ≤ fr) (hlo2 : (st.map fun v => v.category).sum + 13 ≤ lo) (hd : decode cc pc = .ok (.invokestatic i, 3)) (k0 : T G x s (pc + 3) lv (.int (iabs a) :: st)) : T G x s pc lv (.int a :: st) := by
  obtain ⟨E, ⟨p, e, R, s0, m, args, below, meth, cde, A, cells, slots⟩, nL0, Q, r⟩ := G
  obtain ⟨hexec, hb, hml, rfl, hown, hts, hK, hD, hr, hlocks, ⟨hfr, hlo, hc, hs⟩, hst⟩ := hX
  exact fun hx H locs ls hP hS hl => va_mabs hexec hb (by rw [hml]; exact hl.1.symm) hown (hts _ hw) (hts _ hw2) (hts _ hw3) (hts _ hw4) (Nat.le_trans hfr2 hfr) (Nat.le_trans hlo2 hlo) hc hs hd (k0 hx H locs ls hP hS hl)
theorem tr_istore_nB (hX : ok G cc nL own ret fr lo) {kk : Fin 4} {i : Nat} {v : Int32} {lv2 : Int32 → List (Nat × Value)} {kf : Int32 → Option (Int32 × Hp)} (hd : decode cc pc = .ok (.istore_n kk, 1)) (hi : (kk : Nat) = i) (hn : i < nL) (hl2 : ∀ y : Int32, (i, Value.int y) :: lv.filter (fun q => !(q.1 == i) && !(q.1 + 1 == i && q.2.category == 2)) = lv2 y) (k : ∀ y : Int32, T G (kf y) s (pc + 1) (lv2 y) st) : T G (vb v kf) s pc lv (.int v :: st) := by
  obtain ⟨E, ⟨p, e, R, s0, m, args, below, meth, cde, A, cells, slots⟩, nL0, Q, r⟩ := G
  obtain ⟨hexec, hb, hml, rfl, hown, hts, hK, hD, hr, hlocks, ⟨hfr, hlo, hc, hs⟩, hst⟩ := hX
  exact fun hx H locs ls hP hS hl => lv_istore_n hexec hb hd hi hl hn (hl2 v) (fun ls2 hl3 => k v hx H locs ls2 hP hS hl3)
theorem tr_istoreB (hX : ok G cc nL own ret fr lo) {i : Nat} {v : Int32} {lv2 : Int32 → List (Nat × Value)} {kf : Int32 → Option (Int32 × Hp)} (hd : decode cc pc = .ok (.istore i, 2)) (hn : i < nL) (hl2 : ∀ y : Int32, (i, Value.int y) :: lv.filter (fun q => !(q.1 == i) && !(q.1 + 1 == i && q.2.category == 2)) = lv2 y) (k : ∀ y : Int32, T G (kf y) s (pc + 2) (lv2 y) st) : T G (vb v kf) s pc lv (.int v :: st) := by
  obtain ⟨E, ⟨p, e, R, s0, m, args, below, meth, cde, A, cells, slots⟩, nL0, Q, r⟩ := G
  obtain ⟨hexec, hb, hml, rfl, hown, hts, hK, hD, hr, hlocks, ⟨hfr, hlo, hc, hs⟩, hst⟩ := hX
  exact fun hx H locs ls hP hS hl => lv_istore hexec hb hd hl hn (hl2 v) (fun ls2 hl3 => k v hx H locs ls2 hP hS hl3)
theorem tr_iincB (hX : ok G cc nL own ret fr lo) {i : Nat} (q : Nat) {n : Int} {v b : Int32} {lv2 : Int32 → List (Nat × Value)} {kf : Int32 → Option (Int32 × Hp)} (hd : decode cc pc = .ok (.iinc i n, 3)) (hq : lv[q]? = some (i, .int v)) (hv : Int32.ofInt n = b) (hn : i < nL) (hl2 : ∀ y : Int32, (i, Value.int y) :: lv.filter (fun q => !(q.1 == i) && !(q.1 + 1 == i && q.2.category == 2)) = lv2 y) (k : ∀ y : Int32, T G (kf y) s (pc + 3) (lv2 y) st) : T G (vb (v + b) kf) s pc lv st := by
  obtain ⟨E, ⟨p, e, R, s0, m, args, below, meth, cde, A, cells, slots⟩, nL0, Q, r⟩ := G
  obtain ⟨hexec, hb, hml, rfl, hown, hts, hK, hD, hr, hlocks, ⟨hfr, hlo, hc, hs⟩, hst⟩ := hX
  exact fun hx H locs ls hP hS hl => lv_iinc hexec hb hd hl hq (by rw [hv]) hn (hl2 (v + b)) (fun ls2 hl3 => k (v + b) hx H locs ls2 hP hS hl3)
theorem tr_split {c : Prop} [Decidable c] (ha : c → T G xa s pc lv st) (hb : ¬ c → T G xb s pc lv st) : T G (if c then xa else xb) s pc lv st := by
  by_cases h : c
  · rw [if_pos h]; exact ha h
  · rw [if_neg h]; exact hb h
theorem tr_tab (hX : ok G cc nL own ret fr lo) {a b : Int32} {dflt lo2 hi2 : Int} {offs : Array Int} {len : Nat} {off : Int} (tgt : Nat) (h : a = b) (hd : decode cc pc = .ok (.tableswitch dflt lo2 hi2 offs, len)) (h1 : ¬ b.toInt < lo2) (h2 : ¬ hi2 < b.toInt) (ho : offs[(b.toInt - lo2).toNat]? = some off) (ht : (pc : Int) + off = (tgt : Int)) (k : T G x s tgt lv st) : T G x s pc lv (.int a :: st) := by
  subst h
  obtain ⟨E, ⟨p, e, R, s0, m, args, below, meth, cde, A, cells, slots⟩, nL0, Q, r⟩ := G
  obtain ⟨hexec, hb, hml, rfl, hown, hts, hK, hD, hr, hlocks, ⟨hfr, hlo, hc, hs⟩, hst⟩ := hX
  exact fun hx H locs ls hP hS hl => lv_tableIn hexec hb hd h1 h2 ho ht (k hx H locs ls hP hS hl)
theorem tr_tabO (hX : ok G cc nL own ret fr lo) {a : Int32} {dflt lo2 hi2 : Int} {offs : Array Int} {len : Nat} (tgt : Nat) (hd : decode cc pc = .ok (.tableswitch dflt lo2 hi2 offs, len)) (h : a.toInt < lo2 ∨ hi2 < a.toInt) (ht : (pc : Int) + dflt = (tgt : Int)) (k : T G x s tgt lv st) : T G x s pc lv (.int a :: st) := by
  obtain ⟨E, ⟨p, e, R, s0, m, args, below, meth, cde, A, cells, slots⟩, nL0, Q, r⟩ := G
  obtain ⟨hexec, hb, hml, rfl, hown, hts, hK, hD, hr, hlocks, ⟨hfr, hlo, hc, hs⟩, hst⟩ := hX
  exact fun hx H locs ls hP hS hl => lv_tableOut hexec hb hd h ht (k hx H locs ls hP hS hl)
theorem tr_lsw (hX : ok G cc nL own ret fr lo) {a : Int32} {dflt off : Int} {ps : Array (Int × Int)} {len : Nat} (tgt : Nat) (hd : decode cc pc = .ok (.lookupswitch dflt ps, len)) (hp : (ps.toList.zip (ps.toList.drop 1)).all (fun (a, next) => a.1 < next.1) = true) (ho : Op.lookupswitch.offset ps.toList dflt a.toInt = off) (ht : (pc : Int) + off = (tgt : Int)) (k : T G x s tgt lv st) : T G x s pc lv (.int a :: st) := by
  obtain ⟨E, ⟨p, e, R, s0, m, args, below, meth, cde, A, cells, slots⟩, nL0, Q, r⟩ := G
  obtain ⟨hexec, hb, hml, rfl, hown, hts, hK, hD, hr, hlocks, ⟨hfr, hlo, hc, hs⟩, hst⟩ := hX
  exact fun hx H locs ls hP hS hl => lv_lookup hexec hb hd hp ho ht (k hx H locs ls hP hS hl)
end TR
theorem rw_c58 {i : Int32} (h : inR i 60 = true) : 58 + ix i < NC := by
  have h1 : ¬ 60 ≤ i.toNatClampNeg := fun q => inR_in h (Or.inr q)
  show 58 + i.toNatClampNeg < 136
  omega
theorem rw_s58 {i : Int32} (h : inR i 60 = true) : sch (58 + ix i) = .inl (0, 32) := by
  have h1 : ¬ 60 ≤ i.toNatClampNeg := fun q => inR_in h (Or.inr q)
  unfold sch ix
  generalize i.toNatClampNeg = z at h1
  rw [if_neg (by omega), if_pos (by omega)]
theorem rw_c118 {i : Int32} (h : inR i 10 = true) : 118 + ix i < NC := by
  have h1 : ¬ 10 ≤ i.toNatClampNeg := fun q => inR_in h (Or.inr q)
  show 118 + i.toNatClampNeg < 136
  omega
theorem rw_s118 {i : Int32} (h : inR i 10 = true) : sch (118 + ix i) = .inl (0, 10) := by
  have h1 : ¬ 10 ≤ i.toNatClampNeg := fun q => inR_in h (Or.inr q)
  unfold sch ix
  generalize i.toNatClampNeg = z at h1
  rw [if_neg (by omega), if_neg (by omega), if_pos (by omega)]
theorem rw_c128 {i : Int32} (h : inR i 4 = true) : 128 + ix i < NC := by
  have h1 : ¬ 4 ≤ i.toNatClampNeg := fun q => inR_in h (Or.inr q)
  show 128 + i.toNatClampNeg < 136
  omega
theorem rw_s128 {i : Int32} (h : inR i 4 = true) : sch (128 + ix i) = .inl (0, 16) := by
  have h1 : ¬ 4 ≤ i.toNatClampNeg := fun q => inR_in h (Or.inr q)
  unfold sch ix
  generalize i.toNatClampNeg = z at h1
  rw [if_neg (by omega), if_neg (by omega), if_neg (by omega), if_pos (by omega)]
theorem rw_c132 {i : Int32} (h : inR i 4 = true) : 132 + ix i < NC := by
  have h1 : ¬ 4 ≤ i.toNatClampNeg := fun q => inR_in h (Or.inr q)
  show 132 + i.toNatClampNeg < 136
  omega
theorem rw_s132 {i : Int32} (h : inR i 4 = true) : sch (132 + ix i) = .inl (0, 4) := by
  unfold sch ix
  generalize i.toNatClampNeg = z
  rw [if_neg (by omega), if_neg (by omega), if_neg (by omega), if_neg (by omega)]
end
section
/-! ends, contracts, calls -/
def bd (f : Option (Int32 × Hp)) (k : Int32 → Hp → Option (Int32 × Hp)) : Option (Int32 × Hp) := match f with
  | none => none
  | some q => k q.1 q.2
theorem bd_some {f : Option (Int32 × Hp)} {k : Int32 → Hp → Option (Int32 × Hp)} {r : Int32 × Hp} (h : bd f k = some r) : ∃ v s, f = some (v, s) ∧ k v s = some r := by
  cases f with
  | none => cases h
  | some q => exact ⟨q.1, q.2, rfl, h⟩
def isB (v : Int32) : Bool := decide (v = 0 ∨ v = 1)
theorem isB_nar {v : Int32} (h : isB v = true) : narrow .boolean (.int v) = .int v := by
  rcases of_decide_eq_true h with rfl | rfl <;> rfl
def okR (G : Gx) : Prop := match G with
  | (E, (_, _, _, s0, _, args, below, _, _, A, cells, slots), _, Q, r) => A = AW E ∧ Q = MQ below (va_Qi (fun (v : Int32) (u : Hp) => (v, u) = r) (fun u t => va_P E.2.1 classes (wd E u) t.heap) (AW E)) args s0 cells slots (AW E)
def okV (G : Gx) : Prop := match G with
  | (E, (_, _, _, s0, _, args, below, _, _, A, cells, slots), _, Q, r) => A = AW E ∧ Q = MQ below (va_Qv (fun (u : Hp) => (0, u) = r) (fun u t => va_P E.2.1 classes (wd E u) t.heap) (AW E)) args s0 cells slots (AW E)
theorem okE {G : Gx} {cc : ByteArray} {nL : Nat} {own : String} {ret : Option FieldType} {fr lo : Nat} (hX : ok G cc nL own ret fr lo) : va_D (AW G.1) (wd G.1 (fun _ _ => 0)) := by
  obtain ⟨E, ⟨p, e, R, s0, m, args, below, meth, cde, A, cells, slots⟩, nL0, Q, r⟩ := G
  exact AW_D hX.2.2.2.2.2.2.2.1
section TE
variable {G : Gx} {s : Hp} {pc : Nat} {lv : List (Nat × Value)} {st : List Value} {cc : ByteArray} {nL : Nat} {own : String} {ret : Option FieldType} {fr lo : Nat}
theorem tr_iret (hX : ok G cc nL own (some .int) fr lo) (hR : okR G) {v : Int32} (hd : decode cc pc = .ok (.ireturn, 1)) : T G (some (v, s)) s pc lv [.int v] := by
  obtain ⟨E, ⟨p, e, R, s0, m, args, below, meth, cde, A, cells, slots⟩, nL0, Q, r⟩ := G
  obtain ⟨hexec, hb, hml, rfl, hown, hts, hK, hD, hr, hlocks, ⟨hfr, hlo, hc, hs⟩, hst⟩ := hX
  obtain ⟨rfl, rfl⟩ := hR
  intro hx H locs ls hP hS hl
  exact W.iret hexec hb hr (fun t ht hW => ⟨⟨v, s, rfl, Option.some.inj hx, (by show va_P _ _ _ t.heap; rw [ht]; exact hP)⟩, hS.F ht⟩) hS.2.2 hd hlocks
theorem tr_zret (hX : ok G cc nL own (some .boolean) fr lo) (hR : okR G) {v : Int32} (hn : narrow .boolean (.int v) = .int v) (hd : decode cc pc = .ok (.ireturn, 1)) : T G (some (v, s)) s pc lv [.int v] := by
  obtain ⟨E, ⟨p, e, R, s0, m, args, below, meth, cde, A, cells, slots⟩, nL0, Q, r⟩ := G
  obtain ⟨hexec, hb, hml, rfl, hown, hts, hK, hD, hr, hlocks, ⟨hfr, hlo, hc, hs⟩, hst⟩ := hX
  obtain ⟨rfl, rfl⟩ := hR
  intro hx H locs ls hP hS hl
  exact W.zret hexec hb hr hn (fun t ht hW => ⟨⟨v, s, rfl, Option.some.inj hx, (by show va_P _ _ _ t.heap; rw [ht]; exact hP)⟩, hS.F ht⟩) hS.2.2 hd hlocks
theorem tr_zretC (hX : ok G cc nL own (some .boolean) fr lo) (hR : okR G) {v : Int32} (hd : decode cc pc = .ok (.ireturn, 1)) : T G (ck (isB v) (some (v, s))) s pc lv [.int v] := fun hx => tr_zret hX hR (isB_nar (ck_some hx).1) hd (ck_some hx).2
theorem tr_vret (hX : ok G cc nL own none fr lo) (hR : okV G) (hd : decode cc pc = .ok (.return_, 1)) : T G (some (0, s)) s pc lv [] := by
  obtain ⟨E, ⟨p, e, R, s0, m, args, below, meth, cde, A, cells, slots⟩, nL0, Q, r⟩ := G
  obtain ⟨hexec, hb, hml, rfl, hown, hts, hK, hD, hr, hlocks, ⟨hfr, hlo, hc, hs⟩, hst⟩ := hX
  obtain ⟨rfl, rfl⟩ := hR
  intro hx H locs ls hP hS hl
  exact W.vret hexec hb hr (fun t ht hW => ⟨⟨s, rfl, Option.some.inj hx, (by show va_P _ _ _ t.heap; rw [ht]; exact hP)⟩, hS.F ht⟩) hS.2.2 hd hlocks
end TE
def PRE (E : Ex) (s : Hp) (U : State) : Prop := va_P E.2.1 classes (wd E s) U.heap ∧ va_K E.2.1 classes (tysL E.2.2.1) U ∧ stat E (AW E) U U.heap
def CtrI (E : Ex) (y : MethodName) (cc : ByteArray) (nL : Nat) (ret : Option FieldType) (fr lo : Nat) (av : List Value) (s : Hp) (r : Int32 × Hp) : Prop :=
  Met E.1 y (.code y cc nL ret :: gw) { frames := fr, cells := 0, slots := 0, locals := lo } (va_Pc av (PRE E s)) (va_Qi (fun (v : Int32) (u : Hp) => (v, u) = r) (fun u t => va_P E.2.1 classes (wd E u) t.heap) (AW E)) 0 0 (AW E)
def CtrV (E : Ex) (y : MethodName) (cc : ByteArray) (nL : Nat) (ret : Option FieldType) (fr lo : Nat) (av : List Value) (s : Hp) (r : Int32 × Hp) : Prop :=
  Met E.1 y (.code y cc nL ret :: gw) { frames := fr, cells := 0, slots := 0, locals := lo } (va_Pc av (PRE E s)) (va_Qv (fun (u : Hp) => (0, u) = r) (fun u t => va_P E.2.1 classes (wd E u) t.heap) (AW E)) 0 0 (AW E)
theorem ctrI_of {E : Ex} {y : MethodName} {cc : ByteArray} {nL : Nat} {ret : Option FieldType} {fr lo : Nat} {av : List Value} {s : Hp} {r : Int32 × Hp} {x : Option (Int32 × Hp)} (hy : plainName y.cls = true) (hE : va_D (AW E) (wd E (fun _ _ => 0))) (hlen : (lg_sl av).length ≤ nL) (hx : x = some r)
    (body : ∀ G : Gx, ok G cc nL y.cls ret fr lo → okR G → G.1 = E → T G x s 0 (lv_args 0 av) []) : CtrI E y cc nL ret fr lo av s r := by
  refine Met.ofW (cc := cc) (maxL := nL) (ret := ret) hy rfl ?_
  intro p e s0 m args below meth c s₁ B hml hv
  obtain ⟨rfl, hP, hK, hst⟩ := hv
  have hts := atoms_spec (ws := .code y cc nL ret :: gw) B.pre
  have hown : s0.vm.findClass y.cls = some m.cls := findClass_of_methodNamed B.named
  have hl := lv_entry av (n := nL) hlen
  rw [lg_entry_eq]
  exact body (E, (p, e, { frames := fr, cells := 0, slots := 0, locals := lo }, s0, m, av.toArray, below, meth, c, AW E, 0, 0), nL, _, r) ⟨B.exec, B.bytes, hml, rfl, hown, fun w hw => hts w (List.mem_cons_of_mem _ hw), hK, hE, B.returns, B.notSynchronized, ⟨Nat.le_refl _, Nat.le_refl _, Nat.le_refl _, Nat.le_refl _⟩, hst⟩ ⟨rfl, rfl⟩ rfl hx s0.heap [] _ hP va_S.rf hl
theorem ctrV_of {E : Ex} {y : MethodName} {cc : ByteArray} {nL : Nat} {ret : Option FieldType} {fr lo : Nat} {av : List Value} {s : Hp} {r : Int32 × Hp} {x : Option (Int32 × Hp)} (hy : plainName y.cls = true) (hE : va_D (AW E) (wd E (fun _ _ => 0))) (hlen : (lg_sl av).length ≤ nL) (hx : x = some r)
    (body : ∀ G : Gx, ok G cc nL y.cls ret fr lo → okV G → G.1 = E → T G x s 0 (lv_args 0 av) []) : CtrV E y cc nL ret fr lo av s r := by
  refine Met.ofW (cc := cc) (maxL := nL) (ret := ret) hy rfl ?_
  intro p e s0 m args below meth c s₁ B hml hv
  obtain ⟨rfl, hP, hK, hst⟩ := hv
  have hts := atoms_spec (ws := .code y cc nL ret :: gw) B.pre
  have hown : s0.vm.findClass y.cls = some m.cls := findClass_of_methodNamed B.named
  have hl := lv_entry av (n := nL) hlen
  rw [lg_entry_eq]
  exact body (E, (p, e, { frames := fr, cells := 0, slots := 0, locals := lo }, s0, m, av.toArray, below, meth, c, AW E, 0, 0), nL, _, r) ⟨B.exec, B.bytes, hml, rfl, hown, fun w hw => hts w (List.mem_cons_of_mem _ hw), hK, hE, B.returns, B.notSynchronized, ⟨Nat.le_refl _, Nat.le_refl _, Nat.le_refl _, Nat.le_refl _⟩, hst⟩ ⟨rfl, rfl⟩ rfl hx s0.heap [] _ hP va_S.rf hl
theorem stat_warm {E : Ex} {A : Nat → Prop} {s U : State} {H : Heap} (hW : s.WarmedH U.vm) (h : stat E A s H) : stat E A U H :=
  ⟨fun a i b n d h9 hw => va_Nw.warmF hW (h.1 a i b n d h9 hw), h.2.1.moved hW.alike, h.2.2.1.moved hW.alike, h.2.2.2.1.warm hW, h.2.2.2.2.1.warm hW, h.2.2.2.2.2.1.warm hW, h.2.2.2.2.2.2.1.warm hW, h.2.2.2.2.2.2.2.1.moved hW.alike, h.2.2.2.2.2.2.2.2.moved hW.alike⟩
theorem stat_same {E : Ex} {A : Nat → Prop} {u U : State} {H : Heap} (hv : U.vm = u.vm) (h : stat E A u H) : stat E A U H := by
  have ha : u.vm.Alike U.vm := by rw [hv]; exact Vm.Alike.refl u.vm
  exact ⟨fun a i b n d h9 hw => va_Nw.same rfl hv.symm (h.1 a i b n d h9 hw), h.2.1.moved ha, h.2.2.1.moved ha, h.2.2.2.1.same hv, h.2.2.2.2.1.same hv, h.2.2.2.2.2.1.same hv, h.2.2.2.2.2.2.1.same hv, h.2.2.2.2.2.2.2.1.moved ha, h.2.2.2.2.2.2.2.2.moved ha⟩
theorem stat_kept {E : Ex} {A B : Nat → Prop} {U : State} {H H1 : Heap} (h : stat E A U H) (hq : ∀ a : Nat, a < H.size → ¬ A a → H1[a]? = H[a]?) (hB : ∀ q, B q → A q) : stat E B U H1 :=
  ⟨h.1, (h.2.1.kept hq).narrow hB, (h.2.2.1.kept hq).narrow hB, h.2.2.2.1, h.2.2.2.2.1, h.2.2.2.2.2.1, h.2.2.2.2.2.2.1, (h.2.2.2.2.2.2.2.1.kept hq).narrow hB, (h.2.2.2.2.2.2.2.2.kept hq).narrow hB⟩
theorem PRE_blind {E : Ex} {s : Hp} {av : List Value} : FrameBlind (va_Pc av (PRE E s)) := by
  intro a U g mk h
  obtain ⟨h1, h2, h3, h4⟩ := h
  exact ⟨h1, h2, va_K.moved (u := U) (U := U.calling g mk a) (Vm.Alike.refl U.vm) h3, stat_same (u := U) (U := U.calling g mk a) rfl h4⟩
theorem PRE_at {E : Ex} {A : Nat → Prop} {s : Hp} {s0 U : State} {H : Heap} {locs : List Loc} (hW : s0.WarmedH U.vm) (hU : U.heap = H) (hP : va_P E.2.1 classes (wd E s) H) (hK : va_K E.2.1 classes (tysL E.2.2.1) s0) (hS : va_S A s0.heap H locs) (hD : va_D A (wd E (fun _ _ => 0))) (hst : stat E A s0 s0.heap) : PRE E s U :=
  ⟨by rw [hU]; exact hP, va_K.moved hW.alike hK, stat_warm hW (by rw [hU]; exact stat_kept hst hS.2.1 (fun q h => AW_in hD h))⟩
/-- what the words say of a method that is called on an object, and of a static one -/
def calV (y : MethodName) (cc : ByteArray) (nL : Nat) (ret : Option FieldType) (n : Nat) : Prop := Cond.instanceMethod y ∈ gw ∧ Cond.selects y.cls y y ∈ gw ∧ Cond.initialized y.cls ∈ gw ∧ Cond.code y cc nL ret ∈ gw ∧ (y.cls ≠ "java/lang/invoke/MethodHandle" ∧ y.cls ≠ "java/lang/invoke/VarHandle" ∧ (parseMethodDescriptor y.desc).map (fun d => d.parameters.length) = some n)
def calS (y : MethodName) (cc : ByteArray) (nL : Nat) (ret : Option FieldType) (n : Nat) : Prop := Cond.static y ∈ gw ∧ Cond.initialized y.cls ∈ gw ∧ Cond.code y cc nL ret ∈ gw ∧ (y.cls ≠ "java/lang/invoke/MethodHandle" ∧ y.cls ≠ "java/lang/invoke/VarHandle" ∧ (parseMethodDescriptor y.desc).map (fun d => d.parameters.length) = some n)
theorem gw_wsV {own : String} {i : Nat} {y : MethodName} {cc : ByteArray} {nL n : Nat} {ret : Option FieldType} (hw : Cond.methodLink own i y ∈ gw) (h : calV y cc nL ret n) : GoodIn gw (wsV own i y.cls y (.code y cc nL ret :: gw)) := by
  intro w hw2
  have key : w ∈ gw := by
    unfold wsV at hw2
    rcases List.mem_append.mp hw2 with h2 | h2
    · simp only [List.mem_cons, List.not_mem_nil, or_false] at h2
      rcases h2 with rfl | rfl | rfl | rfl
      · exact hw
      · exact h.1
      · exact h.2.1
      · exact h.2.2.1
    · rcases List.mem_cons.mp h2 with rfl | h2
      · exact h.2.2.2.1
      · exact h2
  exact ⟨key, gw_good key⟩
theorem gw_wsS {own : String} {i : Nat} {y : MethodName} {cc : ByteArray} {nL n : Nat} {ret : Option FieldType} (hw : Cond.methodLink own i y ∈ gw) (h : calS y cc nL ret n) : GoodIn gw (va_wsS own i y (.code y cc nL ret :: gw)) := by
  intro w hw2
  have key : w ∈ gw := by
    unfold va_wsS at hw2
    rcases List.mem_append.mp hw2 with h2 | h2
    · simp only [List.mem_cons, List.not_mem_nil, or_false] at h2
      rcases h2 with rfl | rfl | rfl
      · exact hw
      · exact h.1
      · exact h.2.1
    · rcases List.mem_cons.mp h2 with rfl | h2
      · exact h.2.2.1
      · exact h2
  exact ⟨key, gw_good key⟩
section TC
variable {G : Gx} {s : Hp} {pc : Nat} {lv : List (Nat × Value)} {st rest : List Value} {cc cc2 : ByteArray} {nL nL2 : Nat} {own : String} {ret ret2 : Option FieldType} {fr lo fr2 lo2 i n ci : Nat} {y : MethodName} {f : Option (Int32 × Hp)} {k : Int32 → Hp → Option (Int32 × Hp)}
theorem tr_callV (hX : ok G cc nL own ret fr lo) (c : Nat) (As : List Value) {q : vw_C} {fs : List (Option Nat)} (hm : calV y cc2 nL2 ret2 n) (hw : Cond.methodLink own i y ∈ gw) (hc0 : c < NC) (hs0 : sch c = .inr (.inr (ci, fs))) (hcl : classes[ci]? = some q) (hq : q.1 = y.cls) (hR : fr2 + 1 ≤ fr ∧ 8 + (nL2 + 11) + lo2 ≤ lo) (hn : As.length = n) (hst0 : st = As.reverse ++ rf G.1 c :: rest) (hrm : (rest.map fun v => v.category).sum ≤ 8) (hd : decode cc pc = .ok (.invokevirtual i, 3))
    (hC : ∀ v s2, f = some (v, s2) → CtrI G.1 y cc2 nL2 ret2 fr2 lo2 (rf G.1 c :: As) s (v, s2)) (k0 : ∀ v s2, T G (k v s2) s2 (pc + 3) lv (.int v :: rest)) : T G (bd f k) s pc lv st := by
  obtain ⟨E, ⟨p, e, R, s0, m, args, below, meth, cde, A, cells, slots⟩, nL0, Q, r⟩ := G
  obtain ⟨hexec, hb, hml, rfl, hown, hts, hK, hD, hr, hlocks, ⟨hfr, hlo, hc, hs⟩, hst⟩ := hX
  intro hx H locs ls hP hS hl
  obtain ⟨v, s2, hf, hx⟩ := bd_some hx
  have he : (wd E s)[c]? = some (E.2.2.2 c, .inr (ci, fs.mapIdx (fun k f => fval E s c k f))) := by rw [wd_get E s hc0, hs0]; rfl
  refine va_calli (va_runV (As := As) (rest := rest) (b := E.2.2.2 c) ⟨hexec, hb, hml, hown, hts⟩ (hC v s2 hf) (cwV n hts (gw_wsV hw hm) rfl rfl rfl ⟨rfl, hm.2.2.2.2⟩ ⟨Nat.le_trans hR.1 hfr, Nat.le_trans hR.2 hlo⟩) ⟨PRE_blind, by have h9 := va_recv hK hP hcl he; rw [hq] at h9; exact h9, fun U hU hW => ⟨rfl, PRE_at hW hU hP hK hS hD hst⟩⟩ rfl hn hl.1 hst0 (lv_room hrm) hd ⟨hc, hs⟩) hS (fun q _ h => AW_in hD h) (fun q h => AW_in hD h) (fun v1 u t H1 locs1 ht hvm hw1 hB hz1 hk1 hS1 => ?_)
  cases hw1
  exact k0 v s2 hx H1 locs1 ls (by rw [← ht]; exact hB) hS1 hl
theorem tr_callVv (hX : ok G cc nL own ret fr lo) (c : Nat) (As : List Value) {q : vw_C} {fs : List (Option Nat)} (hm : calV y cc2 nL2 ret2 n) (hw : Cond.methodLink own i y ∈ gw) (hc0 : c < NC) (hs0 : sch c = .inr (.inr (ci, fs))) (hcl : classes[ci]? = some q) (hq : q.1 = y.cls) (hR : fr2 + 1 ≤ fr ∧ 8 + (nL2 + 11) + lo2 ≤ lo) (hn : As.length = n) (hst0 : st = As.reverse ++ rf G.1 c :: rest) (hrm : (rest.map fun v => v.category).sum ≤ 8) (hd : decode cc pc = .ok (.invokevirtual i, 3))
    (hC : ∀ v s2, f = some (v, s2) → CtrV G.1 y cc2 nL2 ret2 fr2 lo2 (rf G.1 c :: As) s (v, s2)) (k0 : ∀ v s2, T G (k v s2) s2 (pc + 3) lv rest) : T G (bd f k) s pc lv st := by
  obtain ⟨E, ⟨p, e, R, s0, m, args, below, meth, cde, A, cells, slots⟩, nL0, Q, r⟩ := G
  obtain ⟨hexec, hb, hml, rfl, hown, hts, hK, hD, hr, hlocks, ⟨hfr, hlo, hc, hs⟩, hst⟩ := hX
  intro hx H locs ls hP hS hl
  obtain ⟨v, s2, hf, hx⟩ := bd_some hx
  have he : (wd E s)[c]? = some (E.2.2.2 c, .inr (ci, fs.mapIdx (fun k f => fval E s c k f))) := by rw [wd_get E s hc0, hs0]; rfl
  refine va_callv (va_runV (As := As) (rest := rest) (b := E.2.2.2 c) ⟨hexec, hb, hml, hown, hts⟩ (hC v s2 hf) (cwV n hts (gw_wsV hw hm) rfl rfl rfl ⟨rfl, hm.2.2.2.2⟩ ⟨Nat.le_trans hR.1 hfr, Nat.le_trans hR.2 hlo⟩) ⟨PRE_blind, by have h9 := va_recv hK hP hcl he; rw [hq] at h9; exact h9, fun U hU hW => ⟨rfl, PRE_at hW hU hP hK hS hD hst⟩⟩ rfl hn hl.1 hst0 (lv_room hrm) hd ⟨hc, hs⟩) hS (fun q _ h => AW_in hD h) (fun q h => AW_in hD h) (fun u t H1 locs1 ht hvm hw1 hB hz1 hk1 hS1 => ?_)
  cases hw1
  exact k0 _ _ hx H1 locs1 ls (by rw [← ht]; exact hB) hS1 hl
theorem tr_callS (hX : ok G cc nL own ret fr lo) (As : List Value) (hm : calS y cc2 nL2 ret2 n) (hw : Cond.methodLink own i y ∈ gw) (hR : fr2 + 1 ≤ fr ∧ 8 + (nL2 + 11) + lo2 ≤ lo) (hn : As.length = n) (hst0 : st = As.reverse ++ rest) (hrm : (rest.map fun v => v.category).sum ≤ 8) (hd : decode cc pc = .ok (.invokestatic i, 3))
    (hC : ∀ v s2, f = some (v, s2) → CtrI G.1 y cc2 nL2 ret2 fr2 lo2 As s (v, s2)) (k0 : ∀ v s2, T G (k v s2) s2 (pc + 3) lv (.int v :: rest)) : T G (bd f k) s pc lv st := by
  obtain ⟨E, ⟨p, e, R, s0, m, args, below, meth, cde, A, cells, slots⟩, nL0, Q, r⟩ := G
  obtain ⟨hexec, hb, hml, rfl, hown, hts, hK, hD, hr, hlocks, ⟨hfr, hlo, hc, hs⟩, hst⟩ := hX
  intro hx H locs ls hP hS hl
  obtain ⟨v, s2, hf, hx⟩ := bd_some hx
  refine va_calli (va_runS (As := As) (rest := rest) ⟨hexec, hb, hml, hown, hts⟩ (hC v s2 hf) (va_cwS n hts (gw_wsS hw hm) rfl rfl rfl hm.2.2.2 ⟨Nat.le_trans hR.1 hfr, Nat.le_trans hR.2 hlo⟩) ⟨PRE_blind, fun U hU hW => ⟨rfl, PRE_at hW hU hP hK hS hD hst⟩⟩ rfl hn hl.1 hst0 (lv_room hrm) hd ⟨hc, hs⟩) hS (fun q _ h => AW_in hD h) (fun q h => AW_in hD h) (fun v1 u t H1 locs1 ht hvm hw1 hB hz1 hk1 hS1 => ?_)
  cases hw1
  exact k0 v s2 hx H1 locs1 ls (by rw [← ht]; exact hB) hS1 hl
end TC
/-- loops -/
def lp {F : Type} (bot : F) (body : F → F) : Nat → F
  | 0 => bot
  | n + 1 => body (lp bot body n)
def sAt (k j : Nat) : Int32 := (sByt.getD k []).getD j 0
end
section
theorem wm_322 : Cond.code yX9_isBelow cX9_isBelow 2 (some .boolean) ∈ gw := gw_in (List.mem_append_right _ (List.mem_of_getElem? (i := 322) (by decide +kernel))) (by decide +kernel)
theorem wm_1 : Cond.initialized RX9 ∈ gw := gw_in (List.mem_append_right _ (List.mem_of_getElem? (i := 1) (by decide +kernel))) (by decide +kernel)
theorem wm_321 : Cond.static yX9_isBelow ∈ gw := gw_in (List.mem_append_right _ (List.mem_of_getElem? (i := 321) (by decide +kernel))) (by decide +kernel)
theorem ks_X9_isBelow : calS yX9_isBelow cX9_isBelow 2 (some .boolean) 2 := ⟨wm_321, wm_1, wm_322, by decide +kernel⟩
theorem wm_320 : Cond.methodLink RX9 74 yX9_isBelow ∈ gw := gw_in (List.mem_append_right _ (List.mem_of_getElem? (i := 320) (by decide +kernel))) (by decide +kernel)
theorem wm_288 : Cond.fieldLink RX9 10 (TX9 0).1 (TX9 0).2.1 (TX9 0).2.2.1 ∈ gw := gw_in (List.mem_append_right _ (List.mem_of_getElem? (i := 288) (by decide +kernel))) (by decide +kernel)
theorem wm_37 : Cond.fieldLinkNest RX9 78 (TX4 2).1 (TX4 2).2.1 (TX4 2).2.2.1 "AirWatch" ∈ lw_tbl := List.mem_append_right _ (List.mem_of_getElem? (i := 37) (by decide +kernel))
theorem wm_326 : Cond.code yX4_add cX4_add 3 (some .int) ∈ gw := gw_in (List.mem_append_right _ (List.mem_of_getElem? (i := 326) (by decide +kernel))) (by decide +kernel)
theorem wm_2 : Cond.initialized RX4 ∈ gw := gw_in (List.mem_append_right _ (List.mem_of_getElem? (i := 2) (by decide +kernel))) (by decide +kernel)
theorem wm_324 : Cond.instanceMethod yX4_add ∈ gw := gw_in (List.mem_append_right _ (List.mem_of_getElem? (i := 324) (by decide +kernel))) (by decide +kernel)
theorem wm_325 : Cond.selects yX4_add.cls yX4_add yX4_add ∈ gw := gw_in (List.mem_append_right _ (List.mem_of_getElem? (i := 325) (by decide +kernel))) (by decide +kernel)
theorem kv_X4_add : calV yX4_add cX4_add 3 (some .int) 2 := ⟨wm_324, wm_325, wm_2, wm_326, by decide +kernel⟩
theorem wm_36 : Cond.fieldLink RX4 18 (TX4 2).1 (TX4 2).2.1 (TX4 2).2.2.1 ∈ gw := gw_in (List.mem_append_right _ (List.mem_of_getElem? (i := 36) (by decide +kernel))) (by decide +kernel)
theorem wm_32 : Cond.fieldLink RX4 9 (TX4 0).1 (TX4 0).2.1 (TX4 0).2.2.1 ∈ gw := gw_in (List.mem_append_right _ (List.mem_of_getElem? (i := 32) (by decide +kernel))) (by decide +kernel)
theorem wm_34 : Cond.fieldLink RX4 15 (TX4 1).1 (TX4 1).2.1 (TX4 1).2.2.1 ∈ gw := gw_in (List.mem_append_right _ (List.mem_of_getElem? (i := 34) (by decide +kernel))) (by decide +kernel)
theorem wm_323 : Cond.methodLink RX9 82 yX4_add ∈ gw := gw_in (List.mem_append_right _ (List.mem_of_getElem? (i := 323) (by decide +kernel))) (by decide +kernel)
theorem wm_334 : Cond.code yX9_isHearing cX9_isHearing 5 (some .boolean) ∈ gw := gw_in (List.mem_append_right _ (List.mem_of_getElem? (i := 334) (by decide +kernel))) (by decide +kernel)
theorem wm_333 : Cond.instanceMethod yX9_isHearing ∈ gw := gw_in (List.mem_append_right _ (List.mem_of_getElem? (i := 333) (by decide +kernel))) (by decide +kernel)
theorem wp_0 : Cond.selects yX9_isHearing.cls yX9_isHearing yX9_isHearing ∈ gw := gw_in (List.mem_append_left _ (List.mem_of_getElem? (i := 0) (by decide +kernel))) (by decide +kernel)
theorem kv_X9_isHearing : calV yX9_isHearing cX9_isHearing 5 (some .boolean) 4 := ⟨wm_333, wp_0, wm_1, wm_334, by decide +kernel⟩
theorem wm_337 : Cond.code yX9_isStretch cX9_isStretch 2 (some .boolean) ∈ gw := gw_in (List.mem_append_right _ (List.mem_of_getElem? (i := 337) (by decide +kernel))) (by decide +kernel)
theorem wm_336 : Cond.static yX9_isStretch ∈ gw := gw_in (List.mem_append_right _ (List.mem_of_getElem? (i := 336) (by decide +kernel))) (by decide +kernel)
theorem ks_X9_isStretch : calS yX9_isStretch cX9_isStretch 2 (some .boolean) 2 := ⟨wm_336, wm_1, wm_337, by decide +kernel⟩
theorem wm_335 : Cond.methodLink RX9 180 yX9_isStretch ∈ gw := gw_in (List.mem_append_right _ (List.mem_of_getElem? (i := 335) (by decide +kernel))) (by decide +kernel)
theorem wm_331 : Cond.methodLink RX9 86 yX9_isHearing ∈ gw := gw_in (List.mem_append_right _ (List.mem_of_getElem? (i := 331) (by decide +kernel))) (by decide +kernel)
theorem wm_289 : Cond.fieldLink RX9 21 (TX9 1).1 (TX9 1).2.1 (TX9 1).2.2.1 ∈ gw := gw_in (List.mem_append_right _ (List.mem_of_getElem? (i := 289) (by decide +kernel))) (by decide +kernel)
theorem wm_72 : Cond.fieldLinkNest RX9 90 (TX7 4).1 (TX7 4).2.1 (TX7 4).2.2.1 "AirWatch" ∈ lw_tbl := List.mem_append_right _ (List.mem_of_getElem? (i := 72) (by decide +kernel))
theorem wm_341 : Cond.code yX7_add cX7_add 5 (some .int) ∈ gw := gw_in (List.mem_append_right _ (List.mem_of_getElem? (i := 341) (by decide +kernel))) (by decide +kernel)
theorem wm_3 : Cond.initialized RX7 ∈ gw := gw_in (List.mem_append_right _ (List.mem_of_getElem? (i := 3) (by decide +kernel))) (by decide +kernel)
theorem wm_339 : Cond.instanceMethod yX7_add ∈ gw := gw_in (List.mem_append_right _ (List.mem_of_getElem? (i := 339) (by decide +kernel))) (by decide +kernel)
theorem wm_340 : Cond.selects yX7_add.cls yX7_add yX7_add ∈ gw := gw_in (List.mem_append_right _ (List.mem_of_getElem? (i := 340) (by decide +kernel))) (by decide +kernel)
theorem kv_X7_add : calV yX7_add cX7_add 5 (some .int) 4 := ⟨wm_339, wm_340, wm_3, wm_341, by decide +kernel⟩
theorem wm_69 : Cond.fieldLink RX7 30 (TX7 4).1 (TX7 4).2.1 (TX7 4).2.2.1 ∈ gw := gw_in (List.mem_append_right _ (List.mem_of_getElem? (i := 69) (by decide +kernel))) (by decide +kernel)
theorem wm_55 : Cond.fieldLink RX7 15 (TX7 0).1 (TX7 0).2.1 (TX7 0).2.2.1 ∈ gw := gw_in (List.mem_append_right _ (List.mem_of_getElem? (i := 55) (by decide +kernel))) (by decide +kernel)
theorem wm_58 : Cond.fieldLink RX7 21 (TX7 1).1 (TX7 1).2.1 (TX7 1).2.2.1 ∈ gw := gw_in (List.mem_append_right _ (List.mem_of_getElem? (i := 58) (by decide +kernel))) (by decide +kernel)
theorem wm_61 : Cond.fieldLink RX7 24 (TX7 2).1 (TX7 2).2.1 (TX7 2).2.2.1 ∈ gw := gw_in (List.mem_append_right _ (List.mem_of_getElem? (i := 61) (by decide +kernel))) (by decide +kernel)
theorem wm_65 : Cond.fieldLink RX7 27 (TX7 3).1 (TX7 3).2.1 (TX7 3).2.2.1 ∈ gw := gw_in (List.mem_append_right _ (List.mem_of_getElem? (i := 65) (by decide +kernel))) (by decide +kernel)
theorem wm_338 : Cond.methodLink RX9 91 yX7_add ∈ gw := gw_in (List.mem_append_right _ (List.mem_of_getElem? (i := 338) (by decide +kernel))) (by decide +kernel)
theorem wm_290 : Cond.fieldLink RX9 28 (TX9 2).1 (TX9 2).2.1 (TX9 2).2.2.1 ∈ gw := gw_in (List.mem_append_right _ (List.mem_of_getElem? (i := 290) (by decide +kernel))) (by decide +kernel)
theorem wm_97 : Cond.fieldLinkNest RX9 94 (TX2 0).1 (TX2 0).2.1 (TX2 0).2.2.1 "AirWatch" ∈ lw_tbl := List.mem_append_right _ (List.mem_of_getElem? (i := 97) (by decide +kernel))
theorem wm_349 : Cond.code yX7_holdsEach cX7_holdsEach 7 (some .boolean) ∈ gw := gw_in (List.mem_append_right _ (List.mem_of_getElem? (i := 349) (by decide +kernel))) (by decide +kernel)
theorem wm_347 : Cond.instanceMethod yX7_holdsEach ∈ gw := gw_in (List.mem_append_right _ (List.mem_of_getElem? (i := 347) (by decide +kernel))) (by decide +kernel)
theorem wm_348 : Cond.selects yX7_holdsEach.cls yX7_holdsEach yX7_holdsEach ∈ gw := gw_in (List.mem_append_right _ (List.mem_of_getElem? (i := 348) (by decide +kernel))) (by decide +kernel)
theorem kv_X7_holdsEach : calV yX7_holdsEach cX7_holdsEach 7 (some .boolean) 4 := ⟨wm_347, wm_348, wm_3, wm_349, by decide +kernel⟩
theorem wm_353 : Cond.code yX7_openBehind cX7_openBehind 6 (some .int) ∈ gw := gw_in (List.mem_append_right _ (List.mem_of_getElem? (i := 353) (by decide +kernel))) (by decide +kernel)
theorem wm_352 : Cond.instanceMethod yX7_openBehind ∈ gw := gw_in (List.mem_append_right _ (List.mem_of_getElem? (i := 352) (by decide +kernel))) (by decide +kernel)
theorem wp_1 : Cond.selects yX7_openBehind.cls yX7_openBehind yX7_openBehind ∈ gw := gw_in (List.mem_append_left _ (List.mem_of_getElem? (i := 1) (by decide +kernel))) (by decide +kernel)
theorem kv_X7_openBehind : calV yX7_openBehind cX7_openBehind 6 (some .int) 3 := ⟨wm_352, wp_1, wm_3, wm_353, by decide +kernel⟩
theorem wm_52 : Cond.methodLink RX7 9 Lib.Math.max.name ∈ gw := gw_in (List.mem_append_right _ (List.mem_of_getElem? (i := 52) (by decide +kernel))) (by decide +kernel)
theorem wm_53 : Cond.static Lib.Math.max.name ∈ gw := gw_in (List.mem_append_right _ (List.mem_of_getElem? (i := 53) (by decide +kernel))) (by decide +kernel)
theorem wm_4 : Cond.initialized RJ9 ∈ gw := gw_in (List.mem_append_right _ (List.mem_of_getElem? (i := 4) (by decide +kernel))) (by decide +kernel)
theorem wm_54 : Cond.code Lib.Math.max.name Lib.Math.max.code 2 (some .int) ∈ gw := gw_in (List.mem_append_right _ (List.mem_of_getElem? (i := 54) (by decide +kernel))) (by decide +kernel)
theorem wm_350 : Cond.methodLink RX7 37 yX7_openBehind ∈ gw := gw_in (List.mem_append_right _ (List.mem_of_getElem? (i := 350) (by decide +kernel))) (by decide +kernel)
theorem wm_346 : Cond.methodLink RX9 97 yX7_holdsEach ∈ gw := gw_in (List.mem_append_right _ (List.mem_of_getElem? (i := 346) (by decide +kernel))) (by decide +kernel)
theorem wm_357 : Cond.code yX2_add cX2_add 7 (some .int) ∈ gw := gw_in (List.mem_append_right _ (List.mem_of_getElem? (i := 357) (by decide +kernel))) (by decide +kernel)
theorem wm_5 : Cond.initialized RX2 ∈ gw := gw_in (List.mem_append_right _ (List.mem_of_getElem? (i := 5) (by decide +kernel))) (by decide +kernel)
theorem wm_355 : Cond.instanceMethod yX2_add ∈ gw := gw_in (List.mem_append_right _ (List.mem_of_getElem? (i := 355) (by decide +kernel))) (by decide +kernel)
theorem wm_356 : Cond.selects yX2_add.cls yX2_add yX2_add ∈ gw := gw_in (List.mem_append_right _ (List.mem_of_getElem? (i := 356) (by decide +kernel))) (by decide +kernel)
theorem kv_X2_add : calV yX2_add cX2_add 7 (some .int) 5 := ⟨wm_355, wm_356, wm_5, wm_357, by decide +kernel⟩
theorem wm_94 : Cond.fieldLink RX2 14 (TX2 0).1 (TX2 0).2.1 (TX2 0).2.2.1 ∈ gw := gw_in (List.mem_append_right _ (List.mem_of_getElem? (i := 94) (by decide +kernel))) (by decide +kernel)
theorem wm_358 : Cond.methodLink RX2 33 yX7_add ∈ gw := gw_in (List.mem_append_right _ (List.mem_of_getElem? (i := 358) (by decide +kernel))) (by decide +kernel)
theorem wm_98 : Cond.fieldLink RX2 20 (TX2 1).1 (TX2 1).2.1 (TX2 1).2.2.1 ∈ gw := gw_in (List.mem_append_right _ (List.mem_of_getElem? (i := 98) (by decide +kernel))) (by decide +kernel)
theorem wm_354 : Cond.methodLink RX9 100 yX2_add ∈ gw := gw_in (List.mem_append_right _ (List.mem_of_getElem? (i := 354) (by decide +kernel))) (by decide +kernel)
theorem wm_291 : Cond.fieldLink RX9 35 (TX9 3).1 (TX9 3).2.1 (TX9 3).2.2.1 ∈ gw := gw_in (List.mem_append_right _ (List.mem_of_getElem? (i := 291) (by decide +kernel))) (by decide +kernel)
theorem wm_362 : Cond.code yX0_gather cX0_gather 4 none ∈ gw := gw_in (List.mem_append_right _ (List.mem_of_getElem? (i := 362) (by decide +kernel))) (by decide +kernel)
theorem wm_6 : Cond.initialized RX0 ∈ gw := gw_in (List.mem_append_right _ (List.mem_of_getElem? (i := 6) (by decide +kernel))) (by decide +kernel)
theorem wm_360 : Cond.instanceMethod yX0_gather ∈ gw := gw_in (List.mem_append_right _ (List.mem_of_getElem? (i := 360) (by decide +kernel))) (by decide +kernel)
theorem wm_361 : Cond.selects yX0_gather.cls yX0_gather yX0_gather ∈ gw := gw_in (List.mem_append_right _ (List.mem_of_getElem? (i := 361) (by decide +kernel))) (by decide +kernel)
theorem kv_X0_gather : calV yX0_gather cX0_gather 4 none 1 := ⟨wm_360, wm_361, wm_6, wm_362, by decide +kernel⟩
theorem wm_95 : Cond.fieldLinkNest RX0 25 (TX2 0).1 (TX2 0).2.1 (TX2 0).2.2.1 "AirWatch" ∈ lw_tbl := List.mem_append_right _ (List.mem_of_getElem? (i := 95) (by decide +kernel))
theorem wm_70 : Cond.fieldLinkNest RX0 31 (TX7 4).1 (TX7 4).2.1 (TX7 4).2.2.1 "AirWatch" ∈ lw_tbl := List.mem_append_right _ (List.mem_of_getElem? (i := 70) (by decide +kernel))
theorem wm_381 : Cond.code yX0_giveNumbers cX0_giveNumbers 3 none ∈ gw := gw_in (List.mem_append_right _ (List.mem_of_getElem? (i := 381) (by decide +kernel))) (by decide +kernel)
theorem wm_380 : Cond.instanceMethod yX0_giveNumbers ∈ gw := gw_in (List.mem_append_right _ (List.mem_of_getElem? (i := 380) (by decide +kernel))) (by decide +kernel)
theorem wp_3 : Cond.selects yX0_giveNumbers.cls yX0_giveNumbers yX0_giveNumbers ∈ gw := gw_in (List.mem_append_left _ (List.mem_of_getElem? (i := 3) (by decide +kernel))) (by decide +kernel)
theorem kv_X0_giveNumbers : calV yX0_giveNumbers cX0_giveNumbers 3 none 1 := ⟨wm_380, wp_3, wm_6, wm_381, by decide +kernel⟩
theorem wm_131 : Cond.fieldLink RX0 57 (TX0 4).1 (TX0 4).2.1 (TX0 4).2.2.1 ∈ gw := gw_in (List.mem_append_right _ (List.mem_of_getElem? (i := 131) (by decide +kernel))) (by decide +kernel)
theorem wm_124 : Cond.fieldLink RX0 9 (TX0 0).1 (TX0 0).2.1 (TX0 0).2.2.1 ∈ gw := gw_in (List.mem_append_right _ (List.mem_of_getElem? (i := 124) (by decide +kernel))) (by decide +kernel)
theorem wm_125 : Cond.fieldLink RX0 15 (TX0 1).1 (TX0 1).2.1 (TX0 1).2.2.1 ∈ gw := gw_in (List.mem_append_right _ (List.mem_of_getElem? (i := 125) (by decide +kernel))) (by decide +kernel)
theorem wm_378 : Cond.methodLink RX0 44 yX0_giveNumbers ∈ gw := gw_in (List.mem_append_right _ (List.mem_of_getElem? (i := 378) (by decide +kernel))) (by decide +kernel)
theorem wm_127 : Cond.fieldLink RX0 18 (TX0 2).1 (TX0 2).2.1 (TX0 2).2.2.1 ∈ gw := gw_in (List.mem_append_right _ (List.mem_of_getElem? (i := 127) (by decide +kernel))) (by decide +kernel)
theorem wm_129 : Cond.fieldLink RX0 22 (TX0 3).1 (TX0 3).2.1 (TX0 3).2.2.1 ∈ gw := gw_in (List.mem_append_right _ (List.mem_of_getElem? (i := 129) (by decide +kernel))) (by decide +kernel)
theorem wm_366 : Cond.code yX2_areJoined cX2_areJoined 5 (some .boolean) ∈ gw := gw_in (List.mem_append_right _ (List.mem_of_getElem? (i := 366) (by decide +kernel))) (by decide +kernel)
theorem wm_364 : Cond.instanceMethod yX2_areJoined ∈ gw := gw_in (List.mem_append_right _ (List.mem_of_getElem? (i := 364) (by decide +kernel))) (by decide +kernel)
theorem wm_365 : Cond.selects yX2_areJoined.cls yX2_areJoined yX2_areJoined ∈ gw := gw_in (List.mem_append_right _ (List.mem_of_getElem? (i := 365) (by decide +kernel))) (by decide +kernel)
theorem kv_X2_areJoined : calV yX2_areJoined cX2_areJoined 5 (some .boolean) 4 := ⟨wm_364, wm_365, wm_5, wm_366, by decide +kernel⟩
theorem wm_60 : Cond.fieldLinkNest RX2 41 (TX7 1).1 (TX7 1).2.1 (TX7 1).2.2.1 "AirWatch" ∈ lw_tbl := List.mem_append_right _ (List.mem_of_getElem? (i := 60) (by decide +kernel))
theorem wm_367 : Cond.methodLink RX2 44 Lib.Math.abs.name ∈ gw := gw_in (List.mem_append_right _ (List.mem_of_getElem? (i := 367) (by decide +kernel))) (by decide +kernel)
theorem wm_368 : Cond.static Lib.Math.abs.name ∈ gw := gw_in (List.mem_append_right _ (List.mem_of_getElem? (i := 368) (by decide +kernel))) (by decide +kernel)
theorem wm_369 : Cond.code Lib.Math.abs.name Lib.Math.abs.code 1 (some .int) ∈ gw := gw_in (List.mem_append_right _ (List.mem_of_getElem? (i := 369) (by decide +kernel))) (by decide +kernel)
theorem wm_64 : Cond.fieldLinkNest RX2 50 (TX7 2).1 (TX7 2).2.1 (TX7 2).2.2.1 "AirWatch" ∈ lw_tbl := List.mem_append_right _ (List.mem_of_getElem? (i := 64) (by decide +kernel))
theorem wm_68 : Cond.fieldLinkNest RX2 53 (TX7 3).1 (TX7 3).2.1 (TX7 3).2.2.1 "AirWatch" ∈ lw_tbl := List.mem_append_right _ (List.mem_of_getElem? (i := 68) (by decide +kernel))
theorem wm_363 : Cond.methodLink RX0 36 yX2_areJoined ∈ gw := gw_in (List.mem_append_right _ (List.mem_of_getElem? (i := 363) (by decide +kernel))) (by decide +kernel)
theorem wm_373 : Cond.code yX0_unite cX0_unite 6 none ∈ gw := gw_in (List.mem_append_right _ (List.mem_of_getElem? (i := 373) (by decide +kernel))) (by decide +kernel)
theorem wm_372 : Cond.instanceMethod yX0_unite ∈ gw := gw_in (List.mem_append_right _ (List.mem_of_getElem? (i := 372) (by decide +kernel))) (by decide +kernel)
theorem wp_2 : Cond.selects yX0_unite.cls yX0_unite yX0_unite ∈ gw := gw_in (List.mem_append_left _ (List.mem_of_getElem? (i := 2) (by decide +kernel))) (by decide +kernel)
theorem kv_X0_unite : calV yX0_unite cX0_unite 6 none 2 := ⟨wm_372, wp_2, wm_6, wm_373, by decide +kernel⟩
theorem wm_374 : Cond.methodLink RX0 48 Lib.Math.min.name ∈ gw := gw_in (List.mem_append_right _ (List.mem_of_getElem? (i := 374) (by decide +kernel))) (by decide +kernel)
theorem wm_375 : Cond.static Lib.Math.min.name ∈ gw := gw_in (List.mem_append_right _ (List.mem_of_getElem? (i := 375) (by decide +kernel))) (by decide +kernel)
theorem wm_376 : Cond.code Lib.Math.min.name Lib.Math.min.code 2 (some .int) ∈ gw := gw_in (List.mem_append_right _ (List.mem_of_getElem? (i := 376) (by decide +kernel))) (by decide +kernel)
theorem wm_377 : Cond.methodLink RX0 54 Lib.Math.max.name ∈ gw := gw_in (List.mem_append_right _ (List.mem_of_getElem? (i := 377) (by decide +kernel))) (by decide +kernel)
theorem wm_370 : Cond.methodLink RX0 40 yX0_unite ∈ gw := gw_in (List.mem_append_right _ (List.mem_of_getElem? (i := 370) (by decide +kernel))) (by decide +kernel)
theorem wm_359 : Cond.methodLink RX9 103 yX0_gather ∈ gw := gw_in (List.mem_append_right _ (List.mem_of_getElem? (i := 359) (by decide +kernel))) (by decide +kernel)
theorem wm_388 : Cond.code yX9_isSide cX9_isSide 1 (some .boolean) ∈ gw := gw_in (List.mem_append_right _ (List.mem_of_getElem? (i := 388) (by decide +kernel))) (by decide +kernel)
theorem wm_387 : Cond.static yX9_isSide ∈ gw := gw_in (List.mem_append_right _ (List.mem_of_getElem? (i := 387) (by decide +kernel))) (by decide +kernel)
theorem ks_X9_isSide : calS yX9_isSide cX9_isSide 1 (some .boolean) 1 := ⟨wm_387, wm_1, wm_388, by decide +kernel⟩
theorem wm_386 : Cond.methodLink RX9 107 yX9_isSide ∈ gw := gw_in (List.mem_append_right _ (List.mem_of_getElem? (i := 386) (by decide +kernel))) (by decide +kernel)
theorem wm_57 : Cond.fieldLinkNest RX9 111 (TX7 0).1 (TX7 0).2.1 (TX7 0).2.2.1 "AirWatch" ∈ lw_tbl := List.mem_append_right _ (List.mem_of_getElem? (i := 57) (by decide +kernel))
theorem wm_392 : Cond.code yX2_clearFields cX2_clearFields 3 none ∈ gw := gw_in (List.mem_append_right _ (List.mem_of_getElem? (i := 392) (by decide +kernel))) (by decide +kernel)
theorem wm_390 : Cond.instanceMethod yX2_clearFields ∈ gw := gw_in (List.mem_append_right _ (List.mem_of_getElem? (i := 390) (by decide +kernel))) (by decide +kernel)
theorem wm_391 : Cond.selects yX2_clearFields.cls yX2_clearFields yX2_clearFields ∈ gw := gw_in (List.mem_append_right _ (List.mem_of_getElem? (i := 391) (by decide +kernel))) (by decide +kernel)
theorem kv_X2_clearFields : calV yX2_clearFields cX2_clearFields 3 none 1 := ⟨wm_390, wm_391, wm_5, wm_392, by decide +kernel⟩
theorem wm_100 : Cond.fieldLink RX2 24 (TX2 2).1 (TX2 2).2.1 (TX2 2).2.2.1 ∈ gw := gw_in (List.mem_append_right _ (List.mem_of_getElem? (i := 100) (by decide +kernel))) (by decide +kernel)
theorem wm_104 : Cond.fieldLink RX2 37 (TX2 4).1 (TX2 4).2.1 (TX2 4).2.2.1 ∈ gw := gw_in (List.mem_append_right _ (List.mem_of_getElem? (i := 104) (by decide +kernel))) (by decide +kernel)
theorem wm_102 : Cond.fieldLink RX2 30 (TX2 3).1 (TX2 3).2.1 (TX2 3).2.2.1 ∈ gw := gw_in (List.mem_append_right _ (List.mem_of_getElem? (i := 102) (by decide +kernel))) (by decide +kernel)
theorem wm_389 : Cond.methodLink RX9 115 yX2_clearFields ∈ gw := gw_in (List.mem_append_right _ (List.mem_of_getElem? (i := 389) (by decide +kernel))) (by decide +kernel)
theorem wm_33 : Cond.fieldLinkNest RX9 118 (TX4 0).1 (TX4 0).2.1 (TX4 0).2.2.1 "AirWatch" ∈ lw_tbl := List.mem_append_right _ (List.mem_of_getElem? (i := 33) (by decide +kernel))
theorem wm_35 : Cond.fieldLinkNest RX9 121 (TX4 1).1 (TX4 1).2.1 (TX4 1).2.2.1 "AirWatch" ∈ lw_tbl := List.mem_append_right _ (List.mem_of_getElem? (i := 35) (by decide +kernel))
theorem wm_396 : Cond.code yX2_addField cX2_addField 3 none ∈ gw := gw_in (List.mem_append_right _ (List.mem_of_getElem? (i := 396) (by decide +kernel))) (by decide +kernel)
theorem wm_394 : Cond.instanceMethod yX2_addField ∈ gw := gw_in (List.mem_append_right _ (List.mem_of_getElem? (i := 394) (by decide +kernel))) (by decide +kernel)
theorem wm_395 : Cond.selects yX2_addField.cls yX2_addField yX2_addField ∈ gw := gw_in (List.mem_append_right _ (List.mem_of_getElem? (i := 395) (by decide +kernel))) (by decide +kernel)
theorem kv_X2_addField : calV yX2_addField cX2_addField 3 none 2 := ⟨wm_394, wm_395, wm_5, wm_396, by decide +kernel⟩
theorem wm_393 : Cond.methodLink RX9 124 yX2_addField ∈ gw := gw_in (List.mem_append_right _ (List.mem_of_getElem? (i := 393) (by decide +kernel))) (by decide +kernel)
theorem wm_128 : Cond.fieldLinkNest RX9 128 (TX0 2).1 (TX0 2).2.1 (TX0 2).2.2.1 "AirWatch" ∈ lw_tbl := List.mem_append_right _ (List.mem_of_getElem? (i := 128) (by decide +kernel))
theorem wm_130 : Cond.fieldLinkNest RX9 131 (TX0 3).1 (TX0 3).2.1 (TX0 3).2.2.1 "AirWatch" ∈ lw_tbl := List.mem_append_right _ (List.mem_of_getElem? (i := 130) (by decide +kernel))
theorem wm_132 : Cond.fieldLinkNest RX9 134 (TX0 4).1 (TX0 4).2.1 (TX0 4).2.2.1 "AirWatch" ∈ lw_tbl := List.mem_append_right _ (List.mem_of_getElem? (i := 132) (by decide +kernel))
theorem wm_126 : Cond.fieldLinkNest RX9 135 (TX0 1).1 (TX0 1).2.1 (TX0 1).2.2.1 "AirWatch" ∈ lw_tbl := List.mem_append_right _ (List.mem_of_getElem? (i := 126) (by decide +kernel))
theorem wm_292 : Cond.fieldLink RX9 42 (TX9 4).1 (TX9 4).2.1 (TX9 4).2.2.1 ∈ gw := gw_in (List.mem_append_right _ (List.mem_of_getElem? (i := 292) (by decide +kernel))) (by decide +kernel)
theorem wm_416 : Cond.code yX6_draw cX6_draw 5 none ∈ gw := gw_in (List.mem_append_right _ (List.mem_of_getElem? (i := 416) (by decide +kernel))) (by decide +kernel)
theorem wm_7 : Cond.initialized RX6 ∈ gw := gw_in (List.mem_append_right _ (List.mem_of_getElem? (i := 7) (by decide +kernel))) (by decide +kernel)
theorem wm_414 : Cond.instanceMethod yX6_draw ∈ gw := gw_in (List.mem_append_right _ (List.mem_of_getElem? (i := 414) (by decide +kernel))) (by decide +kernel)
theorem wm_415 : Cond.selects yX6_draw.cls yX6_draw yX6_draw ∈ gw := gw_in (List.mem_append_right _ (List.mem_of_getElem? (i := 415) (by decide +kernel))) (by decide +kernel)
theorem kv_X6_draw : calV yX6_draw cX6_draw 5 none 3 := ⟨wm_414, wm_415, wm_7, wm_416, by decide +kernel⟩
theorem wm_155 : Cond.fieldLink RX6 18 (TX6 2).1 (TX6 2).2.1 (TX6 2).2.2.1 ∈ gw := gw_in (List.mem_append_right _ (List.mem_of_getElem? (i := 155) (by decide +kernel))) (by decide +kernel)
theorem wm_158 : Cond.fieldLink RX6 22 (TX6 3).1 (TX6 3).2.1 (TX6 3).2.2.1 ∈ gw := gw_in (List.mem_append_right _ (List.mem_of_getElem? (i := 158) (by decide +kernel))) (by decide +kernel)
theorem wm_161 : Cond.fieldLink RX6 25 (TX6 4).1 (TX6 4).2.1 (TX6 4).2.2.1 ∈ gw := gw_in (List.mem_append_right _ (List.mem_of_getElem? (i := 161) (by decide +kernel))) (by decide +kernel)
theorem wm_163 : Cond.fieldLink RX6 28 (TX6 5).1 (TX6 5).2.1 (TX6 5).2.2.1 ∈ gw := gw_in (List.mem_append_right _ (List.mem_of_getElem? (i := 163) (by decide +kernel))) (by decide +kernel)
theorem wm_165 : Cond.fieldLink RX6 31 (TX6 6).1 (TX6 6).2.1 (TX6 6).2.2.1 ∈ gw := gw_in (List.mem_append_right _ (List.mem_of_getElem? (i := 165) (by decide +kernel))) (by decide +kernel)
theorem wm_168 : Cond.fieldLink RX6 34 (TX6 7).1 (TX6 7).2.1 (TX6 7).2.2.1 ∈ gw := gw_in (List.mem_append_right _ (List.mem_of_getElem? (i := 168) (by decide +kernel))) (by decide +kernel)
theorem wm_171 : Cond.fieldLink RX6 37 (TX6 8).1 (TX6 8).2.1 (TX6 8).2.2.1 ∈ gw := gw_in (List.mem_append_right _ (List.mem_of_getElem? (i := 171) (by decide +kernel))) (by decide +kernel)
theorem wm_153 : Cond.fieldLink RX6 15 (TX6 1).1 (TX6 1).2.1 (TX6 1).2.2.1 ∈ gw := gw_in (List.mem_append_right _ (List.mem_of_getElem? (i := 153) (by decide +kernel))) (by decide +kernel)
theorem wm_96 : Cond.fieldLinkNest RX6 40 (TX2 0).1 (TX2 0).2.1 (TX2 0).2.2.1 "AirWatch" ∈ lw_tbl := List.mem_append_right _ (List.mem_of_getElem? (i := 96) (by decide +kernel))
theorem wm_71 : Cond.fieldLinkNest RX6 46 (TX7 4).1 (TX7 4).2.1 (TX7 4).2.2.1 "AirWatch" ∈ lw_tbl := List.mem_append_right _ (List.mem_of_getElem? (i := 71) (by decide +kernel))
theorem wm_420 : Cond.code yX6_add cX6_add 4 none ∈ gw := gw_in (List.mem_append_right _ (List.mem_of_getElem? (i := 420) (by decide +kernel))) (by decide +kernel)
theorem wm_419 : Cond.instanceMethod yX6_add ∈ gw := gw_in (List.mem_append_right _ (List.mem_of_getElem? (i := 419) (by decide +kernel))) (by decide +kernel)
theorem wp_4 : Cond.selects yX6_add.cls yX6_add yX6_add ∈ gw := gw_in (List.mem_append_left _ (List.mem_of_getElem? (i := 4) (by decide +kernel))) (by decide +kernel)
theorem kv_X6_add : calV yX6_add cX6_add 4 none 2 := ⟨wm_419, wp_4, wm_7, wm_420, by decide +kernel⟩
theorem wm_150 : Cond.fieldLink RX6 9 (TX6 0).1 (TX6 0).2.1 (TX6 0).2.2.1 ∈ gw := gw_in (List.mem_append_right _ (List.mem_of_getElem? (i := 150) (by decide +kernel))) (by decide +kernel)
theorem wm_59 : Cond.fieldLinkNest RX6 53 (TX7 1).1 (TX7 1).2.1 (TX7 1).2.2.1 "AirWatch" ∈ lw_tbl := List.mem_append_right _ (List.mem_of_getElem? (i := 59) (by decide +kernel))
theorem wm_62 : Cond.fieldLinkNest RX6 55 (TX7 2).1 (TX7 2).2.1 (TX7 2).2.2.1 "AirWatch" ∈ lw_tbl := List.mem_append_right _ (List.mem_of_getElem? (i := 62) (by decide +kernel))
theorem wm_421 : Cond.methodLink RX6 58 Lib.Math.min.name ∈ gw := gw_in (List.mem_append_right _ (List.mem_of_getElem? (i := 421) (by decide +kernel))) (by decide +kernel)
theorem wm_66 : Cond.fieldLinkNest RX6 64 (TX7 3).1 (TX7 3).2.1 (TX7 3).2.2.1 "AirWatch" ∈ lw_tbl := List.mem_append_right _ (List.mem_of_getElem? (i := 66) (by decide +kernel))
theorem wm_422 : Cond.methodLink RX6 67 Lib.Math.max.name ∈ gw := gw_in (List.mem_append_right _ (List.mem_of_getElem? (i := 422) (by decide +kernel))) (by decide +kernel)
theorem wm_99 : Cond.fieldLinkNest RX6 70 (TX2 1).1 (TX2 1).2.1 (TX2 1).2.2.1 "AirWatch" ∈ lw_tbl := List.mem_append_right _ (List.mem_of_getElem? (i := 99) (by decide +kernel))
theorem wm_56 : Cond.fieldLinkNest RX6 73 (TX7 0).1 (TX7 0).2.1 (TX7 0).2.2.1 "AirWatch" ∈ lw_tbl := List.mem_append_right _ (List.mem_of_getElem? (i := 56) (by decide +kernel))
theorem wm_101 : Cond.fieldLinkNest RX6 76 (TX2 2).1 (TX2 2).2.1 (TX2 2).2.2.1 "AirWatch" ∈ lw_tbl := List.mem_append_right _ (List.mem_of_getElem? (i := 101) (by decide +kernel))
theorem wm_103 : Cond.fieldLinkNest RX6 80 (TX2 3).1 (TX2 3).2.1 (TX2 3).2.2.1 "AirWatch" ∈ lw_tbl := List.mem_append_right _ (List.mem_of_getElem? (i := 103) (by decide +kernel))
theorem wm_417 : Cond.methodLink RX6 49 yX6_add ∈ gw := gw_in (List.mem_append_right _ (List.mem_of_getElem? (i := 417) (by decide +kernel))) (by decide +kernel)
theorem wm_413 : Cond.methodLink RX9 138 yX6_draw ∈ gw := gw_in (List.mem_append_right _ (List.mem_of_getElem? (i := 413) (by decide +kernel))) (by decide +kernel)
theorem wm_152 : Cond.fieldLinkNest RX9 142 (TX6 0).1 (TX6 0).2.1 (TX6 0).2.2.1 "AirWatch" ∈ lw_tbl := List.mem_append_right _ (List.mem_of_getElem? (i := 152) (by decide +kernel))
theorem wm_157 : Cond.fieldLinkNest RX9 145 (TX6 2).1 (TX6 2).2.1 (TX6 2).2.2.1 "AirWatch" ∈ lw_tbl := List.mem_append_right _ (List.mem_of_getElem? (i := 157) (by decide +kernel))
theorem wm_160 : Cond.fieldLinkNest RX9 146 (TX6 3).1 (TX6 3).2.1 (TX6 3).2.2.1 "AirWatch" ∈ lw_tbl := List.mem_append_right _ (List.mem_of_getElem? (i := 160) (by decide +kernel))
theorem wm_162 : Cond.fieldLinkNest RX9 149 (TX6 4).1 (TX6 4).2.1 (TX6 4).2.2.1 "AirWatch" ∈ lw_tbl := List.mem_append_right _ (List.mem_of_getElem? (i := 162) (by decide +kernel))
theorem wm_164 : Cond.fieldLinkNest RX9 152 (TX6 5).1 (TX6 5).2.1 (TX6 5).2.2.1 "AirWatch" ∈ lw_tbl := List.mem_append_right _ (List.mem_of_getElem? (i := 164) (by decide +kernel))
theorem wm_167 : Cond.fieldLinkNest RX9 155 (TX6 6).1 (TX6 6).2.1 (TX6 6).2.2.1 "AirWatch" ∈ lw_tbl := List.mem_append_right _ (List.mem_of_getElem? (i := 167) (by decide +kernel))
theorem wm_170 : Cond.fieldLinkNest RX9 158 (TX6 7).1 (TX6 7).2.1 (TX6 7).2.2.1 "AirWatch" ∈ lw_tbl := List.mem_append_right _ (List.mem_of_getElem? (i := 170) (by decide +kernel))
theorem wm_426 : Cond.code yX6_countFields cX6_countFields 3 (some .int) ∈ gw := gw_in (List.mem_append_right _ (List.mem_of_getElem? (i := 426) (by decide +kernel))) (by decide +kernel)
theorem wm_424 : Cond.instanceMethod yX6_countFields ∈ gw := gw_in (List.mem_append_right _ (List.mem_of_getElem? (i := 424) (by decide +kernel))) (by decide +kernel)
theorem wm_425 : Cond.selects yX6_countFields.cls yX6_countFields yX6_countFields ∈ gw := gw_in (List.mem_append_right _ (List.mem_of_getElem? (i := 425) (by decide +kernel))) (by decide +kernel)
theorem kv_X6_countFields : calV yX6_countFields cX6_countFields 3 (some .int) 0 := ⟨wm_424, wm_425, wm_7, wm_426, by decide +kernel⟩
theorem wm_429 : Cond.code yJ6_bitCount_0f7a4 cJ6_bitCount_0f7a4 1 (some .int) ∈ gw := gw_in (List.mem_append_right _ (List.mem_of_getElem? (i := 429) (by decide +kernel))) (by decide +kernel)
theorem wm_13 : Cond.initialized RJ6 ∈ gw := gw_in (List.mem_append_right _ (List.mem_of_getElem? (i := 13) (by decide +kernel))) (by decide +kernel)
theorem wm_428 : Cond.static yJ6_bitCount_0f7a4 ∈ gw := gw_in (List.mem_append_right _ (List.mem_of_getElem? (i := 428) (by decide +kernel))) (by decide +kernel)
theorem ks_J6_bitCount_0f7a4 : calS yJ6_bitCount_0f7a4 cJ6_bitCount_0f7a4 1 (some .int) 1 := ⟨wm_428, wm_13, wm_429, by decide +kernel⟩
theorem wm_430 : Cond.constant RJ6 265 1431655765 ∈ gw := gw_in (List.mem_append_right _ (List.mem_of_getElem? (i := 430) (by decide +kernel))) (by decide +kernel)
theorem wm_431 : Cond.constant RJ6 266 858993459 ∈ gw := gw_in (List.mem_append_right _ (List.mem_of_getElem? (i := 431) (by decide +kernel))) (by decide +kernel)
theorem wm_432 : Cond.constant RJ6 267 252645135 ∈ gw := gw_in (List.mem_append_right _ (List.mem_of_getElem? (i := 432) (by decide +kernel))) (by decide +kernel)
theorem wm_427 : Cond.methodLink RX6 83 yJ6_bitCount_0f7a4 ∈ gw := gw_in (List.mem_append_right _ (List.mem_of_getElem? (i := 427) (by decide +kernel))) (by decide +kernel)
theorem wm_423 : Cond.methodLink RX9 161 yX6_countFields ∈ gw := gw_in (List.mem_append_right _ (List.mem_of_getElem? (i := 423) (by decide +kernel))) (by decide +kernel)
theorem wm_172 : Cond.fieldLinkNest RX9 165 (TX6 8).1 (TX6 8).2.1 (TX6 8).2.2.1 "AirWatch" ∈ lw_tbl := List.mem_append_right _ (List.mem_of_getElem? (i := 172) (by decide +kernel))
theorem wm_433 : Cond.methodLink RX9 167 yJ6_bitCount_0f7a4 ∈ gw := gw_in (List.mem_append_right _ (List.mem_of_getElem? (i := 433) (by decide +kernel))) (by decide +kernel)
theorem wm_441 : Cond.code yX6_fieldAt cX6_fieldAt 4 (some .int) ∈ gw := gw_in (List.mem_append_right _ (List.mem_of_getElem? (i := 441) (by decide +kernel))) (by decide +kernel)
theorem wm_439 : Cond.instanceMethod yX6_fieldAt ∈ gw := gw_in (List.mem_append_right _ (List.mem_of_getElem? (i := 439) (by decide +kernel))) (by decide +kernel)
theorem wm_440 : Cond.selects yX6_fieldAt.cls yX6_fieldAt yX6_fieldAt ∈ gw := gw_in (List.mem_append_right _ (List.mem_of_getElem? (i := 440) (by decide +kernel))) (by decide +kernel)
theorem kv_X6_fieldAt : calV yX6_fieldAt cX6_fieldAt 4 (some .int) 1 := ⟨wm_439, wm_440, wm_7, wm_441, by decide +kernel⟩
theorem wm_445 : Cond.code yX6_has cX6_has 2 (some .boolean) ∈ gw := gw_in (List.mem_append_right _ (List.mem_of_getElem? (i := 445) (by decide +kernel))) (by decide +kernel)
theorem wm_444 : Cond.instanceMethod yX6_has ∈ gw := gw_in (List.mem_append_right _ (List.mem_of_getElem? (i := 444) (by decide +kernel))) (by decide +kernel)
theorem wp_5 : Cond.selects yX6_has.cls yX6_has yX6_has ∈ gw := gw_in (List.mem_append_left _ (List.mem_of_getElem? (i := 5) (by decide +kernel))) (by decide +kernel)
theorem kv_X6_has : calV yX6_has cX6_has 2 (some .boolean) 1 := ⟨wm_444, wp_5, wm_7, wm_445, by decide +kernel⟩
theorem wm_442 : Cond.methodLink RX6 89 yX6_has ∈ gw := gw_in (List.mem_append_right _ (List.mem_of_getElem? (i := 442) (by decide +kernel))) (by decide +kernel)
theorem wm_438 : Cond.methodLink RX9 173 yX6_fieldAt ∈ gw := gw_in (List.mem_append_right _ (List.mem_of_getElem? (i := 438) (by decide +kernel))) (by decide +kernel)
theorem wm_453 : Cond.code yX6_edge cX6_edge 7 (some .int) ∈ gw := gw_in (List.mem_append_right _ (List.mem_of_getElem? (i := 453) (by decide +kernel))) (by decide +kernel)
theorem wm_451 : Cond.instanceMethod yX6_edge ∈ gw := gw_in (List.mem_append_right _ (List.mem_of_getElem? (i := 451) (by decide +kernel))) (by decide +kernel)
theorem wm_452 : Cond.selects yX6_edge.cls yX6_edge yX6_edge ∈ gw := gw_in (List.mem_append_right _ (List.mem_of_getElem? (i := 452) (by decide +kernel))) (by decide +kernel)
theorem kv_X6_edge : calV yX6_edge cX6_edge 7 (some .int) 2 := ⟨wm_451, wm_452, wm_7, wm_453, by decide +kernel⟩
theorem wm_450 : Cond.methodLink RX9 176 yX6_edge ∈ gw := gw_in (List.mem_append_right _ (List.mem_of_getElem? (i := 450) (by decide +kernel))) (by decide +kernel)
theorem wm_461 : Cond.code yX9_changeBehind cX9_changeBehind 4 (some .int) ∈ gw := gw_in (List.mem_append_right _ (List.mem_of_getElem? (i := 461) (by decide +kernel))) (by decide +kernel)
theorem wm_460 : Cond.instanceMethod yX9_changeBehind ∈ gw := gw_in (List.mem_append_right _ (List.mem_of_getElem? (i := 460) (by decide +kernel))) (by decide +kernel)
theorem wp_6 : Cond.selects yX9_changeBehind.cls yX9_changeBehind yX9_changeBehind ∈ gw := gw_in (List.mem_append_left _ (List.mem_of_getElem? (i := 6) (by decide +kernel))) (by decide +kernel)
theorem kv_X9_changeBehind : calV yX9_changeBehind cX9_changeBehind 4 (some .int) 3 := ⟨wm_460, wp_6, wm_1, wm_461, by decide +kernel⟩
theorem wm_465 : Cond.code yX7_changeBehind cX7_changeBehind 6 (some .int) ∈ gw := gw_in (List.mem_append_right _ (List.mem_of_getElem? (i := 465) (by decide +kernel))) (by decide +kernel)
theorem wm_463 : Cond.instanceMethod yX7_changeBehind ∈ gw := gw_in (List.mem_append_right _ (List.mem_of_getElem? (i := 463) (by decide +kernel))) (by decide +kernel)
theorem wm_464 : Cond.selects yX7_changeBehind.cls yX7_changeBehind yX7_changeBehind ∈ gw := gw_in (List.mem_append_right _ (List.mem_of_getElem? (i := 464) (by decide +kernel))) (by decide +kernel)
theorem kv_X7_changeBehind : calV yX7_changeBehind cX7_changeBehind 6 (some .int) 3 := ⟨wm_463, wm_464, wm_3, wm_465, by decide +kernel⟩
theorem wm_466 : Cond.methodLink RX7 34 Lib.Math.min.name ∈ gw := gw_in (List.mem_append_right _ (List.mem_of_getElem? (i := 466) (by decide +kernel))) (by decide +kernel)
theorem wm_462 : Cond.methodLink RX9 249 yX7_changeBehind ∈ gw := gw_in (List.mem_append_right _ (List.mem_of_getElem? (i := 462) (by decide +kernel))) (by decide +kernel)
theorem wm_458 : Cond.methodLink RX9 183 yX9_changeBehind ∈ gw := gw_in (List.mem_append_right _ (List.mem_of_getElem? (i := 458) (by decide +kernel))) (by decide +kernel)
theorem wm_470 : Cond.code yX9_stateAt cX9_stateAt 3 (some .int) ∈ gw := gw_in (List.mem_append_right _ (List.mem_of_getElem? (i := 470) (by decide +kernel))) (by decide +kernel)
theorem wm_469 : Cond.instanceMethod yX9_stateAt ∈ gw := gw_in (List.mem_append_right _ (List.mem_of_getElem? (i := 469) (by decide +kernel))) (by decide +kernel)
theorem wp_7 : Cond.selects yX9_stateAt.cls yX9_stateAt yX9_stateAt ∈ gw := gw_in (List.mem_append_left _ (List.mem_of_getElem? (i := 7) (by decide +kernel))) (by decide +kernel)
theorem kv_X9_stateAt : calV yX9_stateAt cX9_stateAt 3 (some .int) 2 := ⟨wm_469, wp_7, wm_1, wm_470, by decide +kernel⟩
theorem wm_474 : Cond.code yX7_holds cX7_holds 4 (some .boolean) ∈ gw := gw_in (List.mem_append_right _ (List.mem_of_getElem? (i := 474) (by decide +kernel))) (by decide +kernel)
theorem wm_472 : Cond.instanceMethod yX7_holds ∈ gw := gw_in (List.mem_append_right _ (List.mem_of_getElem? (i := 472) (by decide +kernel))) (by decide +kernel)
theorem wm_473 : Cond.selects yX7_holds.cls yX7_holds yX7_holds ∈ gw := gw_in (List.mem_append_right _ (List.mem_of_getElem? (i := 473) (by decide +kernel))) (by decide +kernel)
theorem kv_X7_holds : calV yX7_holds cX7_holds 4 (some .boolean) 2 := ⟨wm_472, wm_473, wm_3, wm_474, by decide +kernel⟩
theorem wm_471 : Cond.methodLink RX9 246 yX7_holds ∈ gw := gw_in (List.mem_append_right _ (List.mem_of_getElem? (i := 471) (by decide +kernel))) (by decide +kernel)
theorem wm_467 : Cond.methodLink RX9 187 yX9_stateAt ∈ gw := gw_in (List.mem_append_right _ (List.mem_of_getElem? (i := 467) (by decide +kernel))) (by decide +kernel)
theorem wm_475 : Cond.methodLink RX9 190 Lib.Math.max.name ∈ gw := gw_in (List.mem_append_right _ (List.mem_of_getElem? (i := 475) (by decide +kernel))) (by decide +kernel)
theorem wm_293 : Cond.fieldLink RX9 49 (TX9 5).1 (TX9 5).2.1 (TX9 5).2.2.1 ∈ gw := gw_in (List.mem_append_right _ (List.mem_of_getElem? (i := 293) (by decide +kernel))) (by decide +kernel)
theorem wm_200 : Cond.fieldLinkNest RX9 195 (TX8 1).1 (TX8 1).2.1 (TX8 1).2.2.1 "AirWatch" ∈ lw_tbl := List.mem_append_right _ (List.mem_of_getElem? (i := 200) (by decide +kernel))
theorem wm_487 : Cond.code yX8_add cX8_add 3 none ∈ gw := gw_in (List.mem_append_right _ (List.mem_of_getElem? (i := 487) (by decide +kernel))) (by decide +kernel)
theorem wm_8 : Cond.initialized RX8 ∈ gw := gw_in (List.mem_append_right _ (List.mem_of_getElem? (i := 8) (by decide +kernel))) (by decide +kernel)
theorem wm_485 : Cond.instanceMethod yX8_add ∈ gw := gw_in (List.mem_append_right _ (List.mem_of_getElem? (i := 485) (by decide +kernel))) (by decide +kernel)
theorem wm_486 : Cond.selects yX8_add.cls yX8_add yX8_add ∈ gw := gw_in (List.mem_append_right _ (List.mem_of_getElem? (i := 486) (by decide +kernel))) (by decide +kernel)
theorem kv_X8_add : calV yX8_add cX8_add 3 none 1 := ⟨wm_485, wm_486, wm_8, wm_487, by decide +kernel⟩
theorem wm_199 : Cond.fieldLink RX8 15 (TX8 1).1 (TX8 1).2.1 (TX8 1).2.2.1 ∈ gw := gw_in (List.mem_append_right _ (List.mem_of_getElem? (i := 199) (by decide +kernel))) (by decide +kernel)
theorem wm_198 : Cond.fieldLink RX8 9 (TX8 0).1 (TX8 0).2.1 (TX8 0).2.2.1 ∈ gw := gw_in (List.mem_append_right _ (List.mem_of_getElem? (i := 198) (by decide +kernel))) (by decide +kernel)
theorem wm_484 : Cond.methodLink RX9 198 yX8_add ∈ gw := gw_in (List.mem_append_right _ (List.mem_of_getElem? (i := 484) (by decide +kernel))) (by decide +kernel)
theorem wm_295 : Cond.fieldLink RX9 63 (TX9 7).1 (TX9 7).2.1 (TX9 7).2.2.1 ∈ gw := gw_in (List.mem_append_right _ (List.mem_of_getElem? (i := 295) (by decide +kernel))) (by decide +kernel)
theorem wm_248 : Cond.fieldLinkNest RX9 200 (TX1 1).1 (TX1 1).2.1 (TX1 1).2.2.1 "AirWatch" ∈ lw_tbl := List.mem_append_right _ (List.mem_of_getElem? (i := 248) (by decide +kernel))
theorem wm_294 : Cond.fieldLink RX9 56 (TX9 6).1 (TX9 6).2.1 (TX9 6).2.2.1 ∈ gw := gw_in (List.mem_append_right _ (List.mem_of_getElem? (i := 294) (by decide +kernel))) (by decide +kernel)
theorem wm_499 : Cond.code yX5_read cX5_read 3 none ∈ gw := gw_in (List.mem_append_right _ (List.mem_of_getElem? (i := 499) (by decide +kernel))) (by decide +kernel)
theorem wm_9 : Cond.initialized RX5 ∈ gw := gw_in (List.mem_append_right _ (List.mem_of_getElem? (i := 9) (by decide +kernel))) (by decide +kernel)
theorem wm_497 : Cond.instanceMethod yX5_read ∈ gw := gw_in (List.mem_append_right _ (List.mem_of_getElem? (i := 497) (by decide +kernel))) (by decide +kernel)
theorem wm_498 : Cond.selects yX5_read.cls yX5_read yX5_read ∈ gw := gw_in (List.mem_append_right _ (List.mem_of_getElem? (i := 498) (by decide +kernel))) (by decide +kernel)
theorem kv_X5_read : calV yX5_read cX5_read 3 none 1 := ⟨wm_497, wm_498, wm_9, wm_499, by decide +kernel⟩
theorem wm_226 : Cond.fieldLink RX5 15 (TX5 2).1 (TX5 2).2.1 (TX5 2).2.2.1 ∈ gw := gw_in (List.mem_append_right _ (List.mem_of_getElem? (i := 226) (by decide +kernel))) (by decide +kernel)
theorem wm_228 : Cond.fieldLink RX5 19 (TX5 3).1 (TX5 3).2.1 (TX5 3).2.2.1 ∈ gw := gw_in (List.mem_append_right _ (List.mem_of_getElem? (i := 228) (by decide +kernel))) (by decide +kernel)
theorem wm_225 : Cond.fieldLink RX5 22 (TX5 1).1 (TX5 1).2.1 (TX5 1).2.2.1 ∈ gw := gw_in (List.mem_append_right _ (List.mem_of_getElem? (i := 225) (by decide +kernel))) (by decide +kernel)
theorem wm_505 : Cond.code yX8_rewind cX8_rewind 1 none ∈ gw := gw_in (List.mem_append_right _ (List.mem_of_getElem? (i := 505) (by decide +kernel))) (by decide +kernel)
theorem wm_503 : Cond.instanceMethod yX8_rewind ∈ gw := gw_in (List.mem_append_right _ (List.mem_of_getElem? (i := 503) (by decide +kernel))) (by decide +kernel)
theorem wm_504 : Cond.selects yX8_rewind.cls yX8_rewind yX8_rewind ∈ gw := gw_in (List.mem_append_right _ (List.mem_of_getElem? (i := 504) (by decide +kernel))) (by decide +kernel)
theorem kv_X8_rewind : calV yX8_rewind cX8_rewind 1 none 0 := ⟨wm_503, wm_504, wm_8, wm_505, by decide +kernel⟩
theorem wm_203 : Cond.fieldLink RX8 19 (TX8 3).1 (TX8 3).2.1 (TX8 3).2.2.1 ∈ gw := gw_in (List.mem_append_right _ (List.mem_of_getElem? (i := 203) (by decide +kernel))) (by decide +kernel)
theorem wm_509 : Cond.code yX8_step cX8_step 2 none ∈ gw := gw_in (List.mem_append_right _ (List.mem_of_getElem? (i := 509) (by decide +kernel))) (by decide +kernel)
theorem wm_507 : Cond.instanceMethod yX8_step ∈ gw := gw_in (List.mem_append_right _ (List.mem_of_getElem? (i := 507) (by decide +kernel))) (by decide +kernel)
theorem wm_508 : Cond.selects yX8_step.cls yX8_step yX8_step ∈ gw := gw_in (List.mem_append_right _ (List.mem_of_getElem? (i := 508) (by decide +kernel))) (by decide +kernel)
theorem kv_X8_step : calV yX8_step cX8_step 2 none 0 := ⟨wm_507, wm_508, wm_8, wm_509, by decide +kernel⟩
theorem wm_201 : Cond.fieldLink RX8 25 (TX8 2).1 (TX8 2).2.1 (TX8 2).2.2.1 ∈ gw := gw_in (List.mem_append_right _ (List.mem_of_getElem? (i := 201) (by decide +kernel))) (by decide +kernel)
theorem wm_512 : Cond.code yX8_kindOf cX8_kindOf 1 (some .int) ∈ gw := gw_in (List.mem_append_right _ (List.mem_of_getElem? (i := 512) (by decide +kernel))) (by decide +kernel)
theorem wm_511 : Cond.static yX8_kindOf ∈ gw := gw_in (List.mem_append_right _ (List.mem_of_getElem? (i := 511) (by decide +kernel))) (by decide +kernel)
theorem ks_X8_kindOf : calS yX8_kindOf cX8_kindOf 1 (some .int) 1 := ⟨wm_511, wm_8, wm_512, by decide +kernel⟩
theorem wm_510 : Cond.methodLink RX8 28 yX8_kindOf ∈ gw := gw_in (List.mem_append_right _ (List.mem_of_getElem? (i := 510) (by decide +kernel))) (by decide +kernel)
theorem wm_205 : Cond.fieldLink RX8 32 (TX8 4).1 (TX8 4).2.1 (TX8 4).2.2.1 ∈ gw := gw_in (List.mem_append_right _ (List.mem_of_getElem? (i := 205) (by decide +kernel))) (by decide +kernel)
theorem wm_506 : Cond.methodLink RX8 22 yX8_step ∈ gw := gw_in (List.mem_append_right _ (List.mem_of_getElem? (i := 506) (by decide +kernel))) (by decide +kernel)
theorem wm_502 : Cond.methodLink RX5 28 yX8_rewind ∈ gw := gw_in (List.mem_append_right _ (List.mem_of_getElem? (i := 502) (by decide +kernel))) (by decide +kernel)
theorem wm_223 : Cond.fieldLink RX5 9 (TX5 0).1 (TX5 0).2.1 (TX5 0).2.2.1 ∈ gw := gw_in (List.mem_append_right _ (List.mem_of_getElem? (i := 223) (by decide +kernel))) (by decide +kernel)
theorem wm_500 : Cond.fieldLinkNest RX5 25 "AirWatch" "GREATEST" "[I" "AirWatch" ∈ lw_tbl := List.mem_append_right _ (List.mem_of_getElem? (i := 500) (by decide +kernel))
theorem wm_204 : Cond.fieldLinkNest RX5 33 (TX8 4).1 (TX8 4).2.1 (TX8 4).2.2.1 "AirWatch" ∈ lw_tbl := List.mem_append_right _ (List.mem_of_getElem? (i := 204) (by decide +kernel))
theorem wm_516 : Cond.code yX5_readClause cX5_readClause 3 none ∈ gw := gw_in (List.mem_append_right _ (List.mem_of_getElem? (i := 516) (by decide +kernel))) (by decide +kernel)
theorem wm_515 : Cond.instanceMethod yX5_readClause ∈ gw := gw_in (List.mem_append_right _ (List.mem_of_getElem? (i := 515) (by decide +kernel))) (by decide +kernel)
theorem wp_8 : Cond.selects yX5_readClause.cls yX5_readClause yX5_readClause ∈ gw := gw_in (List.mem_append_left _ (List.mem_of_getElem? (i := 8) (by decide +kernel))) (by decide +kernel)
theorem kv_X5_readClause : calV yX5_readClause cX5_readClause 3 none 1 := ⟨wm_515, wp_8, wm_9, wm_516, by decide +kernel⟩
theorem wm_519 : Cond.code yX5_wordOf cX5_wordOf 1 (some .int) ∈ gw := gw_in (List.mem_append_right _ (List.mem_of_getElem? (i := 519) (by decide +kernel))) (by decide +kernel)
theorem wm_518 : Cond.static yX5_wordOf ∈ gw := gw_in (List.mem_append_right _ (List.mem_of_getElem? (i := 518) (by decide +kernel))) (by decide +kernel)
theorem ks_X5_wordOf : calS yX5_wordOf cX5_wordOf 1 (some .int) 1 := ⟨wm_518, wm_9, wm_519, by decide +kernel⟩
theorem wm_524 : Cond.code yX8_spells cX8_spells 3 (some .boolean) ∈ gw := gw_in (List.mem_append_right _ (List.mem_of_getElem? (i := 524) (by decide +kernel))) (by decide +kernel)
theorem wm_522 : Cond.instanceMethod yX8_spells ∈ gw := gw_in (List.mem_append_right _ (List.mem_of_getElem? (i := 522) (by decide +kernel))) (by decide +kernel)
theorem wm_523 : Cond.selects yX8_spells.cls yX8_spells yX8_spells ∈ gw := gw_in (List.mem_append_right _ (List.mem_of_getElem? (i := 523) (by decide +kernel))) (by decide +kernel)
theorem kv_X8_spells : calV yX8_spells cX8_spells 3 (some .boolean) 1 := ⟨wm_522, wm_523, wm_8, wm_524, by decide +kernel⟩
theorem wm_521 : Cond.methodLink RX5 59 yX8_spells ∈ gw := gw_in (List.mem_append_right _ (List.mem_of_getElem? (i := 521) (by decide +kernel))) (by decide +kernel)
theorem wm_517 : Cond.methodLink RX5 40 yX5_wordOf ∈ gw := gw_in (List.mem_append_right _ (List.mem_of_getElem? (i := 517) (by decide +kernel))) (by decide +kernel)
theorem wm_580 : Cond.methodLink RX5 48 yX8_step ∈ gw := gw_in (List.mem_append_right _ (List.mem_of_getElem? (i := 580) (by decide +kernel))) (by decide +kernel)
theorem wm_584 : Cond.code yX5_readRange cX5_readRange 4 none ∈ gw := gw_in (List.mem_append_right _ (List.mem_of_getElem? (i := 584) (by decide +kernel))) (by decide +kernel)
theorem wm_583 : Cond.instanceMethod yX5_readRange ∈ gw := gw_in (List.mem_append_right _ (List.mem_of_getElem? (i := 583) (by decide +kernel))) (by decide +kernel)
theorem wp_10 : Cond.selects yX5_readRange.cls yX5_readRange yX5_readRange ∈ gw := gw_in (List.mem_append_left _ (List.mem_of_getElem? (i := 10) (by decide +kernel))) (by decide +kernel)
theorem kv_X5_readRange : calV yX5_readRange cX5_readRange 4 none 2 := ⟨wm_583, wp_10, wm_9, wm_584, by decide +kernel⟩
theorem wm_588 : Cond.code yX5_readNumber cX5_readNumber 6 none ∈ gw := gw_in (List.mem_append_right _ (List.mem_of_getElem? (i := 588) (by decide +kernel))) (by decide +kernel)
theorem wm_587 : Cond.instanceMethod yX5_readNumber ∈ gw := gw_in (List.mem_append_right _ (List.mem_of_getElem? (i := 587) (by decide +kernel))) (by decide +kernel)
theorem wp_11 : Cond.selects yX5_readNumber.cls yX5_readNumber yX5_readNumber ∈ gw := gw_in (List.mem_append_left _ (List.mem_of_getElem? (i := 11) (by decide +kernel))) (by decide +kernel)
theorem kv_X5_readNumber : calV yX5_readNumber cX5_readNumber 6 none 4 := ⟨wm_587, wp_11, wm_9, wm_588, by decide +kernel⟩
theorem wm_592 : Cond.code yX8_value cX8_value 3 (some .int) ∈ gw := gw_in (List.mem_append_right _ (List.mem_of_getElem? (i := 592) (by decide +kernel))) (by decide +kernel)
theorem wm_590 : Cond.instanceMethod yX8_value ∈ gw := gw_in (List.mem_append_right _ (List.mem_of_getElem? (i := 590) (by decide +kernel))) (by decide +kernel)
theorem wm_591 : Cond.selects yX8_value.cls yX8_value yX8_value ∈ gw := gw_in (List.mem_append_right _ (List.mem_of_getElem? (i := 591) (by decide +kernel))) (by decide +kernel)
theorem kv_X8_value : calV yX8_value cX8_value 3 (some .int) 0 := ⟨wm_590, wm_591, wm_8, wm_592, by decide +kernel⟩
theorem wm_593 : Cond.methodLink RX8 44 Lib.Math.min.name ∈ gw := gw_in (List.mem_append_right _ (List.mem_of_getElem? (i := 593) (by decide +kernel))) (by decide +kernel)
theorem wm_589 : Cond.methodLink RX5 73 yX8_value ∈ gw := gw_in (List.mem_append_right _ (List.mem_of_getElem? (i := 589) (by decide +kernel))) (by decide +kernel)
theorem wm_579 : Cond.code yX5_blame cX5_blame 3 none ∈ gw := gw_in (List.mem_append_right _ (List.mem_of_getElem? (i := 579) (by decide +kernel))) (by decide +kernel)
theorem wm_578 : Cond.instanceMethod yX5_blame ∈ gw := gw_in (List.mem_append_right _ (List.mem_of_getElem? (i := 578) (by decide +kernel))) (by decide +kernel)
theorem wp_9 : Cond.selects yX5_blame.cls yX5_blame yX5_blame ∈ gw := gw_in (List.mem_append_left _ (List.mem_of_getElem? (i := 9) (by decide +kernel))) (by decide +kernel)
theorem kv_X5_blame : calV yX5_blame cX5_blame 3 none 2 := ⟨wm_578, wp_9, wm_9, wm_579, by decide +kernel⟩
theorem wm_202 : Cond.fieldLinkNest RX5 77 (TX8 2).1 (TX8 2).2.1 (TX8 2).2.2.1 "AirWatch" ∈ lw_tbl := List.mem_append_right _ (List.mem_of_getElem? (i := 202) (by decide +kernel))
theorem wm_576 : Cond.methodLink RX5 44 yX5_blame ∈ gw := gw_in (List.mem_append_right _ (List.mem_of_getElem? (i := 576) (by decide +kernel))) (by decide +kernel)
theorem wm_585 : Cond.methodLink RX5 69 yX5_readNumber ∈ gw := gw_in (List.mem_append_right _ (List.mem_of_getElem? (i := 585) (by decide +kernel))) (by decide +kernel)
theorem wm_597 : Cond.code yX5_readSign cX5_readSign 3 none ∈ gw := gw_in (List.mem_append_right _ (List.mem_of_getElem? (i := 597) (by decide +kernel))) (by decide +kernel)
theorem wm_596 : Cond.instanceMethod yX5_readSign ∈ gw := gw_in (List.mem_append_right _ (List.mem_of_getElem? (i := 596) (by decide +kernel))) (by decide +kernel)
theorem wp_12 : Cond.selects yX5_readSign.cls yX5_readSign yX5_readSign ∈ gw := gw_in (List.mem_append_left _ (List.mem_of_getElem? (i := 12) (by decide +kernel))) (by decide +kernel)
theorem kv_X5_readSign : calV yX5_readSign cX5_readSign 3 none 2 := ⟨wm_596, wp_12, wm_9, wm_597, by decide +kernel⟩
theorem wm_594 : Cond.methodLink RX5 54 yX5_readSign ∈ gw := gw_in (List.mem_append_right _ (List.mem_of_getElem? (i := 594) (by decide +kernel))) (by decide +kernel)
theorem wm_581 : Cond.methodLink RX5 51 yX5_readRange ∈ gw := gw_in (List.mem_append_right _ (List.mem_of_getElem? (i := 581) (by decide +kernel))) (by decide +kernel)
theorem wm_513 : Cond.methodLink RX5 36 yX5_readClause ∈ gw := gw_in (List.mem_append_right _ (List.mem_of_getElem? (i := 513) (by decide +kernel))) (by decide +kernel)
theorem wm_496 : Cond.methodLink RX9 201 yX5_read ∈ gw := gw_in (List.mem_append_right _ (List.mem_of_getElem? (i := 496) (by decide +kernel))) (by decide +kernel)
theorem wm_227 : Cond.fieldLinkNest RX9 205 (TX5 2).1 (TX5 2).2.1 (TX5 2).2.2.1 "AirWatch" ∈ lw_tbl := List.mem_append_right _ (List.mem_of_getElem? (i := 227) (by decide +kernel))
theorem wm_224 : Cond.fieldLinkNest RX9 208 (TX5 0).1 (TX5 0).2.1 (TX5 0).2.2.1 "AirWatch" ∈ lw_tbl := List.mem_append_right _ (List.mem_of_getElem? (i := 224) (by decide +kernel))
theorem wm_601 : Cond.code yX1_add cX1_add 3 (some .int) ∈ gw := gw_in (List.mem_append_right _ (List.mem_of_getElem? (i := 601) (by decide +kernel))) (by decide +kernel)
theorem wm_10 : Cond.initialized RX1 ∈ gw := gw_in (List.mem_append_right _ (List.mem_of_getElem? (i := 10) (by decide +kernel))) (by decide +kernel)
theorem wm_599 : Cond.instanceMethod yX1_add ∈ gw := gw_in (List.mem_append_right _ (List.mem_of_getElem? (i := 599) (by decide +kernel))) (by decide +kernel)
theorem wm_600 : Cond.selects yX1_add.cls yX1_add yX1_add ∈ gw := gw_in (List.mem_append_right _ (List.mem_of_getElem? (i := 600) (by decide +kernel))) (by decide +kernel)
theorem kv_X1_add : calV yX1_add cX1_add 3 (some .int) 1 := ⟨wm_599, wm_600, wm_10, wm_601, by decide +kernel⟩
theorem wm_247 : Cond.fieldLink RX1 16 (TX1 1).1 (TX1 1).2.1 (TX1 1).2.2.1 ∈ gw := gw_in (List.mem_append_right _ (List.mem_of_getElem? (i := 247) (by decide +kernel))) (by decide +kernel)
theorem wm_246 : Cond.fieldLink RX1 11 (TX1 0).1 (TX1 0).2.1 (TX1 0).2.2.1 ∈ gw := gw_in (List.mem_append_right _ (List.mem_of_getElem? (i := 246) (by decide +kernel))) (by decide +kernel)
theorem wm_598 : Cond.methodLink RX9 211 yX1_add ∈ gw := gw_in (List.mem_append_right _ (List.mem_of_getElem? (i := 598) (by decide +kernel))) (by decide +kernel)
theorem wm_229 : Cond.fieldLinkNest RX9 214 (TX5 3).1 (TX5 3).2.1 (TX5 3).2.2.1 "AirWatch" ∈ lw_tbl := List.mem_append_right _ (List.mem_of_getElem? (i := 229) (by decide +kernel))
theorem wm_614 : Cond.code yX1_judge cX1_judge 6 (some .int) ∈ gw := gw_in (List.mem_append_right _ (List.mem_of_getElem? (i := 614) (by decide +kernel))) (by decide +kernel)
theorem wm_612 : Cond.instanceMethod yX1_judge ∈ gw := gw_in (List.mem_append_right _ (List.mem_of_getElem? (i := 612) (by decide +kernel))) (by decide +kernel)
theorem wm_613 : Cond.selects yX1_judge.cls yX1_judge yX1_judge ∈ gw := gw_in (List.mem_append_right _ (List.mem_of_getElem? (i := 613) (by decide +kernel))) (by decide +kernel)
theorem kv_X1_judge : calV yX1_judge cX1_judge 6 (some .int) 3 := ⟨wm_612, wm_613, wm_10, wm_614, by decide +kernel⟩
theorem wm_159 : Cond.fieldLinkNest RX1 20 (TX6 3).1 (TX6 3).2.1 (TX6 3).2.2.1 "AirWatch" ∈ lw_tbl := List.mem_append_right _ (List.mem_of_getElem? (i := 159) (by decide +kernel))
theorem wm_618 : Cond.code yX1_allows cX1_allows 5 (some .boolean) ∈ gw := gw_in (List.mem_append_right _ (List.mem_of_getElem? (i := 618) (by decide +kernel))) (by decide +kernel)
theorem wm_617 : Cond.instanceMethod yX1_allows ∈ gw := gw_in (List.mem_append_right _ (List.mem_of_getElem? (i := 617) (by decide +kernel))) (by decide +kernel)
theorem wp_13 : Cond.selects yX1_allows.cls yX1_allows yX1_allows ∈ gw := gw_in (List.mem_append_left _ (List.mem_of_getElem? (i := 13) (by decide +kernel))) (by decide +kernel)
theorem kv_X1_allows : calV yX1_allows cX1_allows 5 (some .boolean) 4 := ⟨wm_617, wp_13, wm_10, wm_618, by decide +kernel⟩
theorem wm_615 : Cond.methodLink RX1 25 yX1_allows ∈ gw := gw_in (List.mem_append_right _ (List.mem_of_getElem? (i := 615) (by decide +kernel))) (by decide +kernel)
theorem wm_166 : Cond.fieldLinkNest RX1 29 (TX6 6).1 (TX6 6).2.1 (TX6 6).2.2.1 "AirWatch" ∈ lw_tbl := List.mem_append_right _ (List.mem_of_getElem? (i := 166) (by decide +kernel))
theorem wm_169 : Cond.fieldLinkNest RX1 32 (TX6 7).1 (TX6 7).2.1 (TX6 7).2.2.1 "AirWatch" ∈ lw_tbl := List.mem_append_right _ (List.mem_of_getElem? (i := 169) (by decide +kernel))
theorem wm_156 : Cond.fieldLinkNest RX1 35 (TX6 2).1 (TX6 2).2.1 (TX6 2).2.2.1 "AirWatch" ∈ lw_tbl := List.mem_append_right _ (List.mem_of_getElem? (i := 156) (by decide +kernel))
theorem wm_154 : Cond.fieldLinkNest RX1 52 (TX6 1).1 (TX6 1).2.1 (TX6 1).2.2.1 "AirWatch" ∈ lw_tbl := List.mem_append_right _ (List.mem_of_getElem? (i := 154) (by decide +kernel))
theorem wm_629 : Cond.code yX1_judgeFields cX1_judgeFields 10 (some .int) ∈ gw := gw_in (List.mem_append_right _ (List.mem_of_getElem? (i := 629) (by decide +kernel))) (by decide +kernel)
theorem wm_628 : Cond.instanceMethod yX1_judgeFields ∈ gw := gw_in (List.mem_append_right _ (List.mem_of_getElem? (i := 628) (by decide +kernel))) (by decide +kernel)
theorem wp_15 : Cond.selects yX1_judgeFields.cls yX1_judgeFields yX1_judgeFields ∈ gw := gw_in (List.mem_append_left _ (List.mem_of_getElem? (i := 15) (by decide +kernel))) (by decide +kernel)
theorem kv_X1_judgeFields : calV yX1_judgeFields cX1_judgeFields 10 (some .int) 2 := ⟨wm_628, wp_15, wm_10, wm_629, by decide +kernel⟩
theorem wm_626 : Cond.methodLink RX1 55 yX1_judgeFields ∈ gw := gw_in (List.mem_append_right _ (List.mem_of_getElem? (i := 626) (by decide +kernel))) (by decide +kernel)
theorem wm_151 : Cond.fieldLinkNest RX1 36 (TX6 0).1 (TX6 0).2.1 (TX6 0).2.2.1 "AirWatch" ∈ lw_tbl := List.mem_append_right _ (List.mem_of_getElem? (i := 151) (by decide +kernel))
theorem wm_63 : Cond.fieldLinkNest RX1 40 (TX7 2).1 (TX7 2).2.1 (TX7 2).2.2.1 "AirWatch" ∈ lw_tbl := List.mem_append_right _ (List.mem_of_getElem? (i := 63) (by decide +kernel))
theorem wm_67 : Cond.fieldLinkNest RX1 45 (TX7 3).1 (TX7 3).2.1 (TX7 3).2.2.1 "AirWatch" ∈ lw_tbl := List.mem_append_right _ (List.mem_of_getElem? (i := 67) (by decide +kernel))
theorem wm_622 : Cond.code yX1_allowsTime cX1_allowsTime 6 (some .boolean) ∈ gw := gw_in (List.mem_append_right _ (List.mem_of_getElem? (i := 622) (by decide +kernel))) (by decide +kernel)
theorem wm_621 : Cond.instanceMethod yX1_allowsTime ∈ gw := gw_in (List.mem_append_right _ (List.mem_of_getElem? (i := 621) (by decide +kernel))) (by decide +kernel)
theorem wp_14 : Cond.selects yX1_allowsTime.cls yX1_allowsTime yX1_allowsTime ∈ gw := gw_in (List.mem_append_left _ (List.mem_of_getElem? (i := 14) (by decide +kernel))) (by decide +kernel)
theorem kv_X1_allowsTime : calV yX1_allowsTime cX1_allowsTime 6 (some .boolean) 3 := ⟨wm_621, wp_14, wm_10, wm_622, by decide +kernel⟩
theorem wm_625 : Cond.code yJ9_floorMod_7cf53 cJ9_floorMod_7cf53 3 (some .int) ∈ gw := gw_in (List.mem_append_right _ (List.mem_of_getElem? (i := 625) (by decide +kernel))) (by decide +kernel)
theorem wm_624 : Cond.static yJ9_floorMod_7cf53 ∈ gw := gw_in (List.mem_append_right _ (List.mem_of_getElem? (i := 624) (by decide +kernel))) (by decide +kernel)
theorem ks_J9_floorMod_7cf53 : calS yJ9_floorMod_7cf53 cJ9_floorMod_7cf53 3 (some .int) 2 := ⟨wm_624, wm_4, wm_625, by decide +kernel⟩
theorem wm_623 : Cond.methodLink RX1 59 yJ9_floorMod_7cf53 ∈ gw := gw_in (List.mem_append_right _ (List.mem_of_getElem? (i := 623) (by decide +kernel))) (by decide +kernel)
theorem wm_619 : Cond.methodLink RX1 48 yX1_allowsTime ∈ gw := gw_in (List.mem_append_right _ (List.mem_of_getElem? (i := 619) (by decide +kernel))) (by decide +kernel)
theorem wm_611 : Cond.methodLink RX9 217 yX1_judge ∈ gw := gw_in (List.mem_append_right _ (List.mem_of_getElem? (i := 611) (by decide +kernel))) (by decide +kernel)
theorem wm_637 : Cond.code yX1_choose cX1_choose 7 (some .int) ∈ gw := gw_in (List.mem_append_right _ (List.mem_of_getElem? (i := 637) (by decide +kernel))) (by decide +kernel)
theorem wm_635 : Cond.instanceMethod yX1_choose ∈ gw := gw_in (List.mem_append_right _ (List.mem_of_getElem? (i := 635) (by decide +kernel))) (by decide +kernel)
theorem wm_636 : Cond.selects yX1_choose.cls yX1_choose yX1_choose ∈ gw := gw_in (List.mem_append_right _ (List.mem_of_getElem? (i := 636) (by decide +kernel))) (by decide +kernel)
theorem kv_X1_choose : calV yX1_choose cX1_choose 7 (some .int) 2 := ⟨wm_635, wm_636, wm_10, wm_637, by decide +kernel⟩
theorem wm_638 : Cond.methodLink RX1 65 yX1_judge ∈ gw := gw_in (List.mem_append_right _ (List.mem_of_getElem? (i := 638) (by decide +kernel))) (by decide +kernel)
theorem wm_634 : Cond.methodLink RX9 221 yX1_choose ∈ gw := gw_in (List.mem_append_right _ (List.mem_of_getElem? (i := 634) (by decide +kernel))) (by decide +kernel)
theorem wm_647 : Cond.constant RX9 225 65536 ∈ gw := gw_in (List.mem_append_right _ (List.mem_of_getElem? (i := 647) (by decide +kernel))) (by decide +kernel)
theorem wm_296 : Cond.fieldLink RX9 70 (TX9 8).1 (TX9 8).2.1 (TX9 8).2.2.1 ∈ gw := gw_in (List.mem_append_right _ (List.mem_of_getElem? (i := 296) (by decide +kernel))) (by decide +kernel)
theorem wm_651 : Cond.code yX3_lay cX3_lay 5 none ∈ gw := gw_in (List.mem_append_right _ (List.mem_of_getElem? (i := 651) (by decide +kernel))) (by decide +kernel)
theorem wm_11 : Cond.initialized RX3 ∈ gw := gw_in (List.mem_append_right _ (List.mem_of_getElem? (i := 11) (by decide +kernel))) (by decide +kernel)
theorem wm_649 : Cond.instanceMethod yX3_lay ∈ gw := gw_in (List.mem_append_right _ (List.mem_of_getElem? (i := 649) (by decide +kernel))) (by decide +kernel)
theorem wm_650 : Cond.selects yX3_lay.cls yX3_lay yX3_lay ∈ gw := gw_in (List.mem_append_right _ (List.mem_of_getElem? (i := 650) (by decide +kernel))) (by decide +kernel)
theorem kv_X3_lay : calV yX3_lay cX3_lay 5 none 3 := ⟨wm_649, wm_650, wm_11, wm_651, by decide +kernel⟩
theorem wm_652 : Cond.methodLink RX3 29 Lib.Math.min.name ∈ gw := gw_in (List.mem_append_right _ (List.mem_of_getElem? (i := 652) (by decide +kernel))) (by decide +kernel)
theorem wm_267 : Cond.fieldLink RX3 35 (TX3 5).1 (TX3 5).2.1 (TX3 5).2.2.1 ∈ gw := gw_in (List.mem_append_right _ (List.mem_of_getElem? (i := 267) (by decide +kernel))) (by decide +kernel)
theorem wm_269 : Cond.fieldLink RX3 39 (TX3 6).1 (TX3 6).2.1 (TX3 6).2.2.1 ∈ gw := gw_in (List.mem_append_right _ (List.mem_of_getElem? (i := 269) (by decide +kernel))) (by decide +kernel)
theorem wm_261 : Cond.fieldLink RX3 9 (TX3 0).1 (TX3 0).2.1 (TX3 0).2.2.1 ∈ gw := gw_in (List.mem_append_right _ (List.mem_of_getElem? (i := 261) (by decide +kernel))) (by decide +kernel)
theorem wm_648 : Cond.methodLink RX9 226 yX3_lay ∈ gw := gw_in (List.mem_append_right _ (List.mem_of_getElem? (i := 648) (by decide +kernel))) (by decide +kernel)
theorem wm_656 : Cond.code yX3_look cX3_look 5 none ∈ gw := gw_in (List.mem_append_right _ (List.mem_of_getElem? (i := 656) (by decide +kernel))) (by decide +kernel)
theorem wm_654 : Cond.instanceMethod yX3_look ∈ gw := gw_in (List.mem_append_right _ (List.mem_of_getElem? (i := 654) (by decide +kernel))) (by decide +kernel)
theorem wm_655 : Cond.selects yX3_look.cls yX3_look yX3_look ∈ gw := gw_in (List.mem_append_right _ (List.mem_of_getElem? (i := 655) (by decide +kernel))) (by decide +kernel)
theorem kv_X3_look : calV yX3_look cX3_look 5 none 2 := ⟨wm_654, wm_655, wm_11, wm_656, by decide +kernel⟩
theorem wm_270 : Cond.fieldLink RX3 47 (TX3 7).1 (TX3 7).2.1 (TX3 7).2.2.1 ∈ gw := gw_in (List.mem_append_right _ (List.mem_of_getElem? (i := 270) (by decide +kernel))) (by decide +kernel)
theorem wm_262 : Cond.fieldLink RX3 17 (TX3 1).1 (TX3 1).2.1 (TX3 1).2.2.1 ∈ gw := gw_in (List.mem_append_right _ (List.mem_of_getElem? (i := 262) (by decide +kernel))) (by decide +kernel)
theorem wm_660 : Cond.code yX7_latestAhead cX7_latestAhead 5 (some .int) ∈ gw := gw_in (List.mem_append_right _ (List.mem_of_getElem? (i := 660) (by decide +kernel))) (by decide +kernel)
theorem wm_658 : Cond.instanceMethod yX7_latestAhead ∈ gw := gw_in (List.mem_append_right _ (List.mem_of_getElem? (i := 658) (by decide +kernel))) (by decide +kernel)
theorem wm_659 : Cond.selects yX7_latestAhead.cls yX7_latestAhead yX7_latestAhead ∈ gw := gw_in (List.mem_append_right _ (List.mem_of_getElem? (i := 659) (by decide +kernel))) (by decide +kernel)
theorem kv_X7_latestAhead : calV yX7_latestAhead cX7_latestAhead 5 (some .int) 2 := ⟨wm_658, wm_659, wm_3, wm_660, by decide +kernel⟩
theorem wm_657 : Cond.methodLink RX3 42 yX7_latestAhead ∈ gw := gw_in (List.mem_append_right _ (List.mem_of_getElem? (i := 657) (by decide +kernel))) (by decide +kernel)
theorem wm_664 : Cond.code yX3_isOneOfOldest cX3_isOneOfOldest 7 (some .boolean) ∈ gw := gw_in (List.mem_append_right _ (List.mem_of_getElem? (i := 664) (by decide +kernel))) (by decide +kernel)
theorem wm_663 : Cond.instanceMethod yX3_isOneOfOldest ∈ gw := gw_in (List.mem_append_right _ (List.mem_of_getElem? (i := 663) (by decide +kernel))) (by decide +kernel)
theorem wp_16 : Cond.selects yX3_isOneOfOldest.cls yX3_isOneOfOldest yX3_isOneOfOldest ∈ gw := gw_in (List.mem_append_left _ (List.mem_of_getElem? (i := 16) (by decide +kernel))) (by decide +kernel)
theorem kv_X3_isOneOfOldest : calV yX3_isOneOfOldest cX3_isOneOfOldest 7 (some .boolean) 3 := ⟨wm_663, wp_16, wm_11, wm_664, by decide +kernel⟩
theorem wm_661 : Cond.methodLink RX3 50 yX3_isOneOfOldest ∈ gw := gw_in (List.mem_append_right _ (List.mem_of_getElem? (i := 661) (by decide +kernel))) (by decide +kernel)
theorem wm_263 : Cond.fieldLink RX3 20 (TX3 2).1 (TX3 2).2.1 (TX3 2).2.2.1 ∈ gw := gw_in (List.mem_append_right _ (List.mem_of_getElem? (i := 263) (by decide +kernel))) (by decide +kernel)
theorem wm_653 : Cond.methodLink RX9 230 yX3_look ∈ gw := gw_in (List.mem_append_right _ (List.mem_of_getElem? (i := 653) (by decide +kernel))) (by decide +kernel)
theorem wm_668 : Cond.code yX3_search cX3_search 5 (some .int) ∈ gw := gw_in (List.mem_append_right _ (List.mem_of_getElem? (i := 668) (by decide +kernel))) (by decide +kernel)
theorem wm_666 : Cond.instanceMethod yX3_search ∈ gw := gw_in (List.mem_append_right _ (List.mem_of_getElem? (i := 666) (by decide +kernel))) (by decide +kernel)
theorem wm_667 : Cond.selects yX3_search.cls yX3_search yX3_search ∈ gw := gw_in (List.mem_append_right _ (List.mem_of_getElem? (i := 667) (by decide +kernel))) (by decide +kernel)
theorem kv_X3_search : calV yX3_search cX3_search 5 (some .int) 0 := ⟨wm_666, wm_667, wm_11, wm_668, by decide +kernel⟩
theorem wm_672 : Cond.code yX3_choose cX3_choose 4 none ∈ gw := gw_in (List.mem_append_right _ (List.mem_of_getElem? (i := 672) (by decide +kernel))) (by decide +kernel)
theorem wm_671 : Cond.instanceMethod yX3_choose ∈ gw := gw_in (List.mem_append_right _ (List.mem_of_getElem? (i := 671) (by decide +kernel))) (by decide +kernel)
theorem wp_17 : Cond.selects yX3_choose.cls yX3_choose yX3_choose ∈ gw := gw_in (List.mem_append_left _ (List.mem_of_getElem? (i := 17) (by decide +kernel))) (by decide +kernel)
theorem kv_X3_choose : calV yX3_choose cX3_choose 4 none 1 := ⟨wm_671, wp_17, wm_11, wm_672, by decide +kernel⟩
theorem wm_264 : Cond.fieldLink RX3 23 (TX3 3).1 (TX3 3).2.1 (TX3 3).2.2.1 ∈ gw := gw_in (List.mem_append_right _ (List.mem_of_getElem? (i := 264) (by decide +kernel))) (by decide +kernel)
theorem wm_669 : Cond.methodLink RX3 54 yX3_choose ∈ gw := gw_in (List.mem_append_right _ (List.mem_of_getElem? (i := 669) (by decide +kernel))) (by decide +kernel)
theorem wm_676 : Cond.code yX3_worthOfChosen cX3_worthOfChosen 5 (some .int) ∈ gw := gw_in (List.mem_append_right _ (List.mem_of_getElem? (i := 676) (by decide +kernel))) (by decide +kernel)
theorem wm_675 : Cond.instanceMethod yX3_worthOfChosen ∈ gw := gw_in (List.mem_append_right _ (List.mem_of_getElem? (i := 675) (by decide +kernel))) (by decide +kernel)
theorem wp_18 : Cond.selects yX3_worthOfChosen.cls yX3_worthOfChosen yX3_worthOfChosen ∈ gw := gw_in (List.mem_append_left _ (List.mem_of_getElem? (i := 18) (by decide +kernel))) (by decide +kernel)
theorem kv_X3_worthOfChosen : calV yX3_worthOfChosen cX3_worthOfChosen 5 (some .int) 0 := ⟨wm_675, wp_18, wm_11, wm_676, by decide +kernel⟩
theorem wm_677 : Cond.methodLink RX3 65 Lib.Math.max.name ∈ gw := gw_in (List.mem_append_right _ (List.mem_of_getElem? (i := 677) (by decide +kernel))) (by decide +kernel)
theorem wm_673 : Cond.methodLink RX3 58 yX3_worthOfChosen ∈ gw := gw_in (List.mem_append_right _ (List.mem_of_getElem? (i := 673) (by decide +kernel))) (by decide +kernel)
theorem wm_681 : Cond.code yX3_keepChosen cX3_keepChosen 2 none ∈ gw := gw_in (List.mem_append_right _ (List.mem_of_getElem? (i := 681) (by decide +kernel))) (by decide +kernel)
theorem wm_680 : Cond.instanceMethod yX3_keepChosen ∈ gw := gw_in (List.mem_append_right _ (List.mem_of_getElem? (i := 680) (by decide +kernel))) (by decide +kernel)
theorem wp_19 : Cond.selects yX3_keepChosen.cls yX3_keepChosen yX3_keepChosen ∈ gw := gw_in (List.mem_append_left _ (List.mem_of_getElem? (i := 19) (by decide +kernel))) (by decide +kernel)
theorem kv_X3_keepChosen : calV yX3_keepChosen cX3_keepChosen 2 none 0 := ⟨wm_680, wp_19, wm_11, wm_681, by decide +kernel⟩
theorem wm_265 : Cond.fieldLink RX3 26 (TX3 4).1 (TX3 4).2.1 (TX3 4).2.2.1 ∈ gw := gw_in (List.mem_append_right _ (List.mem_of_getElem? (i := 265) (by decide +kernel))) (by decide +kernel)
theorem wm_678 : Cond.methodLink RX3 62 yX3_keepChosen ∈ gw := gw_in (List.mem_append_right _ (List.mem_of_getElem? (i := 678) (by decide +kernel))) (by decide +kernel)
theorem wm_665 : Cond.methodLink RX9 234 yX3_search ∈ gw := gw_in (List.mem_append_right _ (List.mem_of_getElem? (i := 665) (by decide +kernel))) (by decide +kernel)
theorem wm_268 : Cond.fieldLinkNest RX9 237 (TX3 5).1 (TX3 5).2.1 (TX3 5).2.2.1 "AirWatch" ∈ lw_tbl := List.mem_append_right _ (List.mem_of_getElem? (i := 268) (by decide +kernel))
theorem wm_266 : Cond.fieldLinkNest RX9 240 (TX3 4).1 (TX3 4).2.1 (TX3 4).2.2.1 "AirWatch" ∈ lw_tbl := List.mem_append_right _ (List.mem_of_getElem? (i := 266) (by decide +kernel))
theorem wm_105 : Cond.fieldLinkNest RX9 243 (TX2 4).1 (TX2 4).2.1 (TX2 4).2.2.1 "AirWatch" ∈ lw_tbl := List.mem_append_right _ (List.mem_of_getElem? (i := 105) (by decide +kernel))
theorem wm_811 : Cond.code yX10_isIn cX10_isIn 3 (some .boolean) ∈ gw := gw_in (List.mem_append_right _ (List.mem_of_getElem? (i := 811) (by decide +kernel))) (by decide +kernel)
theorem wm_12 : Cond.initialized RX10 ∈ gw := gw_in (List.mem_append_right _ (List.mem_of_getElem? (i := 12) (by decide +kernel))) (by decide +kernel)
theorem wm_810 : Cond.static yX10_isIn ∈ gw := gw_in (List.mem_append_right _ (List.mem_of_getElem? (i := 810) (by decide +kernel))) (by decide +kernel)
theorem ks_X10_isIn : calS yX10_isIn cX10_isIn 3 (some .boolean) 3 := ⟨wm_810, wm_12, wm_811, by decide +kernel⟩
theorem wm_809 : Cond.methodLink RX10 87 yX10_isIn ∈ gw := gw_in (List.mem_append_right _ (List.mem_of_getElem? (i := 809) (by decide +kernel))) (by decide +kernel)
theorem wm_696 : Cond.fieldLink RX10 91 (TX10 0).1 (TX10 0).2.1 (TX10 0).2.2.1 ∈ gw := gw_in (List.mem_append_right _ (List.mem_of_getElem? (i := 696) (by decide +kernel))) (by decide +kernel)
theorem wm_697 : Cond.fieldLink RX10 7 (TX10 1).1 (TX10 1).2.1 (TX10 1).2.2.1 ∈ gw := gw_in (List.mem_append_right _ (List.mem_of_getElem? (i := 697) (by decide +kernel))) (by decide +kernel)
theorem wm_698 : Cond.fieldLink RX10 13 (TX10 2).1 (TX10 2).2.1 (TX10 2).2.2.1 ∈ gw := gw_in (List.mem_append_right _ (List.mem_of_getElem? (i := 698) (by decide +kernel))) (by decide +kernel)
theorem wm_819 : Cond.code yX10_isPost cX10_isPost 2 (some .boolean) ∈ gw := gw_in (List.mem_append_right _ (List.mem_of_getElem? (i := 819) (by decide +kernel))) (by decide +kernel)
theorem wm_818 : Cond.instanceMethod yX10_isPost ∈ gw := gw_in (List.mem_append_right _ (List.mem_of_getElem? (i := 818) (by decide +kernel))) (by decide +kernel)
theorem wp_20 : Cond.selects yX10_isPost.cls yX10_isPost yX10_isPost ∈ gw := gw_in (List.mem_append_left _ (List.mem_of_getElem? (i := 20) (by decide +kernel))) (by decide +kernel)
theorem kv_X10_isPost : calV yX10_isPost cX10_isPost 2 (some .boolean) 1 := ⟨wm_818, wp_20, wm_12, wm_819, by decide +kernel⟩
theorem wm_816 : Cond.methodLink RX10 94 yX10_isPost ∈ gw := gw_in (List.mem_append_right _ (List.mem_of_getElem? (i := 816) (by decide +kernel))) (by decide +kernel)
theorem wm_822 : Cond.code yX10_isSpan cX10_isSpan 2 (some .boolean) ∈ gw := gw_in (List.mem_append_right _ (List.mem_of_getElem? (i := 822) (by decide +kernel))) (by decide +kernel)
theorem wm_821 : Cond.static yX10_isSpan ∈ gw := gw_in (List.mem_append_right _ (List.mem_of_getElem? (i := 821) (by decide +kernel))) (by decide +kernel)
theorem ks_X10_isSpan : calS yX10_isSpan cX10_isSpan 2 (some .boolean) 2 := ⟨wm_821, wm_12, wm_822, by decide +kernel⟩
theorem wm_820 : Cond.methodLink RX10 98 yX10_isSpan ∈ gw := gw_in (List.mem_append_right _ (List.mem_of_getElem? (i := 820) (by decide +kernel))) (by decide +kernel)
theorem wm_699 : Cond.fieldLink RX10 102 (TX10 3).1 (TX10 3).2.1 (TX10 3).2.2.1 ∈ gw := gw_in (List.mem_append_right _ (List.mem_of_getElem? (i := 699) (by decide +kernel))) (by decide +kernel)
theorem wm_700 : Cond.fieldLink RX10 16 (TX10 4).1 (TX10 4).2.1 (TX10 4).2.2.1 ∈ gw := gw_in (List.mem_append_right _ (List.mem_of_getElem? (i := 700) (by decide +kernel))) (by decide +kernel)
theorem wm_701 : Cond.fieldLink RX10 19 (TX10 5).1 (TX10 5).2.1 (TX10 5).2.2.1 ∈ gw := gw_in (List.mem_append_right _ (List.mem_of_getElem? (i := 701) (by decide +kernel))) (by decide +kernel)
theorem wm_702 : Cond.fieldLink RX10 22 (TX10 6).1 (TX10 6).2.1 (TX10 6).2.2.1 ∈ gw := gw_in (List.mem_append_right _ (List.mem_of_getElem? (i := 702) (by decide +kernel))) (by decide +kernel)
theorem wm_703 : Cond.fieldLink RX10 25 (TX10 7).1 (TX10 7).2.1 (TX10 7).2.2.1 ∈ gw := gw_in (List.mem_append_right _ (List.mem_of_getElem? (i := 703) (by decide +kernel))) (by decide +kernel)
theorem wm_704 : Cond.fieldLink RX10 105 (TX10 8).1 (TX10 8).2.1 (TX10 8).2.2.1 ∈ gw := gw_in (List.mem_append_right _ (List.mem_of_getElem? (i := 704) (by decide +kernel))) (by decide +kernel)
theorem wm_705 : Cond.fieldLink RX10 28 (TX10 9).1 (TX10 9).2.1 (TX10 9).2.2.1 ∈ gw := gw_in (List.mem_append_right _ (List.mem_of_getElem? (i := 705) (by decide +kernel))) (by decide +kernel)
theorem wm_706 : Cond.fieldLink RX10 31 (TX10 10).1 (TX10 10).2.1 (TX10 10).2.2.1 ∈ gw := gw_in (List.mem_append_right _ (List.mem_of_getElem? (i := 706) (by decide +kernel))) (by decide +kernel)
theorem wm_707 : Cond.fieldLink RX10 34 (TX10 11).1 (TX10 11).2.1 (TX10 11).2.2.1 ∈ gw := gw_in (List.mem_append_right _ (List.mem_of_getElem? (i := 707) (by decide +kernel))) (by decide +kernel)
theorem wm_708 : Cond.fieldLink RX10 37 (TX10 12).1 (TX10 12).2.1 (TX10 12).2.2.1 ∈ gw := gw_in (List.mem_append_right _ (List.mem_of_getElem? (i := 708) (by decide +kernel))) (by decide +kernel)
theorem wm_709 : Cond.fieldLink RX10 40 (TX10 13).1 (TX10 13).2.1 (TX10 13).2.2.1 ∈ gw := gw_in (List.mem_append_right _ (List.mem_of_getElem? (i := 709) (by decide +kernel))) (by decide +kernel)
theorem wm_830 : Cond.code yX10_wasListened cX10_wasListened 5 (some .boolean) ∈ gw := gw_in (List.mem_append_right _ (List.mem_of_getElem? (i := 830) (by decide +kernel))) (by decide +kernel)
theorem wm_829 : Cond.instanceMethod yX10_wasListened ∈ gw := gw_in (List.mem_append_right _ (List.mem_of_getElem? (i := 829) (by decide +kernel))) (by decide +kernel)
theorem wp_21 : Cond.selects yX10_wasListened.cls yX10_wasListened yX10_wasListened ∈ gw := gw_in (List.mem_append_left _ (List.mem_of_getElem? (i := 21) (by decide +kernel))) (by decide +kernel)
theorem kv_X10_wasListened : calV yX10_wasListened cX10_wasListened 5 (some .boolean) 3 := ⟨wm_829, wp_21, wm_12, wm_830, by decide +kernel⟩
theorem wm_827 : Cond.methodLink RX10 108 yX10_wasListened ∈ gw := gw_in (List.mem_append_right _ (List.mem_of_getElem? (i := 827) (by decide +kernel))) (by decide +kernel)
theorem wm_837 : Cond.code yX10_isWay cX10_isWay 2 (some .boolean) ∈ gw := gw_in (List.mem_append_right _ (List.mem_of_getElem? (i := 837) (by decide +kernel))) (by decide +kernel)
theorem wm_836 : Cond.static yX10_isWay ∈ gw := gw_in (List.mem_append_right _ (List.mem_of_getElem? (i := 836) (by decide +kernel))) (by decide +kernel)
theorem ks_X10_isWay : calS yX10_isWay cX10_isWay 2 (some .boolean) 2 := ⟨wm_836, wm_12, wm_837, by decide +kernel⟩
theorem wm_835 : Cond.methodLink RX10 111 yX10_isWay ∈ gw := gw_in (List.mem_append_right _ (List.mem_of_getElem? (i := 835) (by decide +kernel))) (by decide +kernel)
theorem wm_710 : Cond.fieldLink RX10 43 (TX10 14).1 (TX10 14).2.1 (TX10 14).2.2.1 ∈ gw := gw_in (List.mem_append_right _ (List.mem_of_getElem? (i := 710) (by decide +kernel))) (by decide +kernel)
theorem wm_711 : Cond.fieldLink RX10 47 (TX10 15).1 (TX10 15).2.1 (TX10 15).2.2.1 ∈ gw := gw_in (List.mem_append_right _ (List.mem_of_getElem? (i := 711) (by decide +kernel))) (by decide +kernel)
theorem wm_712 : Cond.fieldLink RX10 50 (TX10 16).1 (TX10 16).2.1 (TX10 16).2.2.1 ∈ gw := gw_in (List.mem_append_right _ (List.mem_of_getElem? (i := 712) (by decide +kernel))) (by decide +kernel)
theorem wm_713 : Cond.fieldLink RX10 54 (TX10 17).1 (TX10 17).2.1 (TX10 17).2.2.1 ∈ gw := gw_in (List.mem_append_right _ (List.mem_of_getElem? (i := 713) (by decide +kernel))) (by decide +kernel)
theorem wm_849 : Cond.code yX10_join cX10_join 3 none ∈ gw := gw_in (List.mem_append_right _ (List.mem_of_getElem? (i := 849) (by decide +kernel))) (by decide +kernel)
theorem wm_848 : Cond.instanceMethod yX10_join ∈ gw := gw_in (List.mem_append_right _ (List.mem_of_getElem? (i := 848) (by decide +kernel))) (by decide +kernel)
theorem wp_22 : Cond.selects yX10_join.cls yX10_join yX10_join ∈ gw := gw_in (List.mem_append_left _ (List.mem_of_getElem? (i := 22) (by decide +kernel))) (by decide +kernel)
theorem kv_X10_join : calV yX10_join cX10_join 3 none 0 := ⟨wm_848, wp_22, wm_12, wm_849, by decide +kernel⟩
theorem wm_714 : Cond.fieldLink RX10 114 (TX10 18).1 (TX10 18).2.1 (TX10 18).2.2.1 ∈ gw := gw_in (List.mem_append_right _ (List.mem_of_getElem? (i := 714) (by decide +kernel))) (by decide +kernel)
theorem wm_715 : Cond.fieldLink RX10 57 (TX10 19).1 (TX10 19).2.1 (TX10 19).2.2.1 ∈ gw := gw_in (List.mem_append_right _ (List.mem_of_getElem? (i := 715) (by decide +kernel))) (by decide +kernel)
theorem wm_716 : Cond.fieldLink RX10 60 (TX10 20).1 (TX10 20).2.1 (TX10 20).2.2.1 ∈ gw := gw_in (List.mem_append_right _ (List.mem_of_getElem? (i := 716) (by decide +kernel))) (by decide +kernel)
theorem wm_853 : Cond.code yX10_spreads cX10_spreads 5 (some .boolean) ∈ gw := gw_in (List.mem_append_right _ (List.mem_of_getElem? (i := 853) (by decide +kernel))) (by decide +kernel)
theorem wm_852 : Cond.instanceMethod yX10_spreads ∈ gw := gw_in (List.mem_append_right _ (List.mem_of_getElem? (i := 852) (by decide +kernel))) (by decide +kernel)
theorem wp_23 : Cond.selects yX10_spreads.cls yX10_spreads yX10_spreads ∈ gw := gw_in (List.mem_append_left _ (List.mem_of_getElem? (i := 23) (by decide +kernel))) (by decide +kernel)
theorem kv_X10_spreads : calV yX10_spreads cX10_spreads 5 (some .boolean) 1 := ⟨wm_852, wp_23, wm_12, wm_853, by decide +kernel⟩
theorem wm_857 : Cond.code yX10_isJoin cX10_isJoin 4 (some .boolean) ∈ gw := gw_in (List.mem_append_right _ (List.mem_of_getElem? (i := 857) (by decide +kernel))) (by decide +kernel)
theorem wm_856 : Cond.instanceMethod yX10_isJoin ∈ gw := gw_in (List.mem_append_right _ (List.mem_of_getElem? (i := 856) (by decide +kernel))) (by decide +kernel)
theorem wp_24 : Cond.selects yX10_isJoin.cls yX10_isJoin yX10_isJoin ∈ gw := gw_in (List.mem_append_left _ (List.mem_of_getElem? (i := 24) (by decide +kernel))) (by decide +kernel)
theorem kv_X10_isJoin : calV yX10_isJoin cX10_isJoin 4 (some .boolean) 2 := ⟨wm_856, wp_24, wm_12, wm_857, by decide +kernel⟩
theorem wm_854 : Cond.methodLink RX10 120 yX10_isJoin ∈ gw := gw_in (List.mem_append_right _ (List.mem_of_getElem? (i := 854) (by decide +kernel))) (by decide +kernel)
theorem wm_850 : Cond.methodLink RX10 117 yX10_spreads ∈ gw := gw_in (List.mem_append_right _ (List.mem_of_getElem? (i := 850) (by decide +kernel))) (by decide +kernel)
theorem wm_846 : Cond.methodLink RX10 123 yX10_join ∈ gw := gw_in (List.mem_append_right _ (List.mem_of_getElem? (i := 846) (by decide +kernel))) (by decide +kernel)
theorem wm_869 : Cond.code yX10_isSender cX10_isSender 2 (some .boolean) ∈ gw := gw_in (List.mem_append_right _ (List.mem_of_getElem? (i := 869) (by decide +kernel))) (by decide +kernel)
theorem wm_868 : Cond.instanceMethod yX10_isSender ∈ gw := gw_in (List.mem_append_right _ (List.mem_of_getElem? (i := 868) (by decide +kernel))) (by decide +kernel)
theorem wp_25 : Cond.selects yX10_isSender.cls yX10_isSender yX10_isSender ∈ gw := gw_in (List.mem_append_left _ (List.mem_of_getElem? (i := 25) (by decide +kernel))) (by decide +kernel)
theorem kv_X10_isSender : calV yX10_isSender cX10_isSender 2 (some .boolean) 1 := ⟨wm_868, wp_25, wm_12, wm_869, by decide +kernel⟩
theorem wm_866 : Cond.methodLink RX10 129 yX10_isSender ∈ gw := gw_in (List.mem_append_right _ (List.mem_of_getElem? (i := 866) (by decide +kernel))) (by decide +kernel)
theorem wm_873 : Cond.code yX10_isPlace cX10_isPlace 4 (some .boolean) ∈ gw := gw_in (List.mem_append_right _ (List.mem_of_getElem? (i := 873) (by decide +kernel))) (by decide +kernel)
theorem wm_872 : Cond.instanceMethod yX10_isPlace ∈ gw := gw_in (List.mem_append_right _ (List.mem_of_getElem? (i := 872) (by decide +kernel))) (by decide +kernel)
theorem wp_26 : Cond.selects yX10_isPlace.cls yX10_isPlace yX10_isPlace ∈ gw := gw_in (List.mem_append_left _ (List.mem_of_getElem? (i := 26) (by decide +kernel))) (by decide +kernel)
theorem kv_X10_isPlace : calV yX10_isPlace cX10_isPlace 4 (some .boolean) 2 := ⟨wm_872, wp_26, wm_12, wm_873, by decide +kernel⟩
theorem wm_877 : Cond.code yX10_liesIn cX10_liesIn 6 (some .boolean) ∈ gw := gw_in (List.mem_append_right _ (List.mem_of_getElem? (i := 877) (by decide +kernel))) (by decide +kernel)
theorem wm_876 : Cond.instanceMethod yX10_liesIn ∈ gw := gw_in (List.mem_append_right _ (List.mem_of_getElem? (i := 876) (by decide +kernel))) (by decide +kernel)
theorem wp_27 : Cond.selects yX10_liesIn.cls yX10_liesIn yX10_liesIn ∈ gw := gw_in (List.mem_append_left _ (List.mem_of_getElem? (i := 27) (by decide +kernel))) (by decide +kernel)
theorem kv_X10_liesIn : calV yX10_liesIn cX10_liesIn 6 (some .boolean) 3 := ⟨wm_876, wp_27, wm_12, wm_877, by decide +kernel⟩
theorem wm_874 : Cond.methodLink RX10 126 yX10_liesIn ∈ gw := gw_in (List.mem_append_right _ (List.mem_of_getElem? (i := 874) (by decide +kernel))) (by decide +kernel)
theorem wm_870 : Cond.methodLink RX10 132 yX10_isPlace ∈ gw := gw_in (List.mem_append_right _ (List.mem_of_getElem? (i := 870) (by decide +kernel))) (by decide +kernel)
theorem wm_893 : Cond.code yX10_sortOf cX10_sortOf 4 (some .int) ∈ gw := gw_in (List.mem_append_right _ (List.mem_of_getElem? (i := 893) (by decide +kernel))) (by decide +kernel)
theorem wm_892 : Cond.instanceMethod yX10_sortOf ∈ gw := gw_in (List.mem_append_right _ (List.mem_of_getElem? (i := 892) (by decide +kernel))) (by decide +kernel)
theorem wp_28 : Cond.selects yX10_sortOf.cls yX10_sortOf yX10_sortOf ∈ gw := gw_in (List.mem_append_left _ (List.mem_of_getElem? (i := 28) (by decide +kernel))) (by decide +kernel)
theorem kv_X10_sortOf : calV yX10_sortOf cX10_sortOf 4 (some .int) 2 := ⟨wm_892, wp_28, wm_12, wm_893, by decide +kernel⟩
theorem wm_890 : Cond.methodLink RX10 135 yX10_sortOf ∈ gw := gw_in (List.mem_append_right _ (List.mem_of_getElem? (i := 890) (by decide +kernel))) (by decide +kernel)
theorem wm_718 : Cond.fieldLink RX10 139 (TX10 22).1 (TX10 22).2.1 (TX10 22).2.2.1 ∈ gw := gw_in (List.mem_append_right _ (List.mem_of_getElem? (i := 718) (by decide +kernel))) (by decide +kernel)
theorem wm_905 : Cond.code yX10_four cX10_four 3 none ∈ gw := gw_in (List.mem_append_right _ (List.mem_of_getElem? (i := 905) (by decide +kernel))) (by decide +kernel)
theorem wm_904 : Cond.instanceMethod yX10_four ∈ gw := gw_in (List.mem_append_right _ (List.mem_of_getElem? (i := 904) (by decide +kernel))) (by decide +kernel)
theorem wp_29 : Cond.selects yX10_four.cls yX10_four yX10_four ∈ gw := gw_in (List.mem_append_left _ (List.mem_of_getElem? (i := 29) (by decide +kernel))) (by decide +kernel)
theorem kv_X10_four : calV yX10_four cX10_four 3 none 1 := ⟨wm_904, wp_29, wm_12, wm_905, by decide +kernel⟩
theorem wm_717 : Cond.fieldLink RX10 63 (TX10 21).1 (TX10 21).2.1 (TX10 21).2.2.1 ∈ gw := gw_in (List.mem_append_right _ (List.mem_of_getElem? (i := 717) (by decide +kernel))) (by decide +kernel)
theorem wm_902 : Cond.methodLink RX10 142 yX10_four ∈ gw := gw_in (List.mem_append_right _ (List.mem_of_getElem? (i := 902) (by decide +kernel))) (by decide +kernel)
theorem wm_719 : Cond.fieldLink RX10 186 (TX10 23).1 (TX10 23).2.1 (TX10 23).2.2.1 ∈ gw := gw_in (List.mem_append_right _ (List.mem_of_getElem? (i := 719) (by decide +kernel))) (by decide +kernel)
theorem wm_917 : Cond.code yX10_read cX10_read 4 (some .int) ∈ gw := gw_in (List.mem_append_right _ (List.mem_of_getElem? (i := 917) (by decide +kernel))) (by decide +kernel)
theorem wm_916 : Cond.instanceMethod yX10_read ∈ gw := gw_in (List.mem_append_right _ (List.mem_of_getElem? (i := 916) (by decide +kernel))) (by decide +kernel)
theorem wp_30 : Cond.selects yX10_read.cls yX10_read yX10_read ∈ gw := gw_in (List.mem_append_left _ (List.mem_of_getElem? (i := 30) (by decide +kernel))) (by decide +kernel)
theorem kv_X10_read : calV yX10_read cX10_read 4 (some .int) 0 := ⟨wm_916, wp_30, wm_12, wm_917, by decide +kernel⟩
theorem wm_723 : Cond.fieldLink RX10 150 (TX10 27).1 (TX10 27).2.1 (TX10 27).2.2.1 ∈ gw := gw_in (List.mem_append_right _ (List.mem_of_getElem? (i := 723) (by decide +kernel))) (by decide +kernel)
theorem wm_921 : Cond.code yX10_nextToken cX10_nextToken 3 none ∈ gw := gw_in (List.mem_append_right _ (List.mem_of_getElem? (i := 921) (by decide +kernel))) (by decide +kernel)
theorem wm_920 : Cond.instanceMethod yX10_nextToken ∈ gw := gw_in (List.mem_append_right _ (List.mem_of_getElem? (i := 920) (by decide +kernel))) (by decide +kernel)
theorem wp_31 : Cond.selects yX10_nextToken.cls yX10_nextToken yX10_nextToken ∈ gw := gw_in (List.mem_append_left _ (List.mem_of_getElem? (i := 31) (by decide +kernel))) (by decide +kernel)
theorem kv_X10_nextToken : calV yX10_nextToken cX10_nextToken 3 none 0 := ⟨wm_920, wp_31, wm_12, wm_921, by decide +kernel⟩
theorem wm_925 : Cond.code yX10_see cX10_see 2 (some .int) ∈ gw := gw_in (List.mem_append_right _ (List.mem_of_getElem? (i := 925) (by decide +kernel))) (by decide +kernel)
theorem wm_924 : Cond.instanceMethod yX10_see ∈ gw := gw_in (List.mem_append_right _ (List.mem_of_getElem? (i := 924) (by decide +kernel))) (by decide +kernel)
theorem wp_32 : Cond.selects yX10_see.cls yX10_see yX10_see ∈ gw := gw_in (List.mem_append_left _ (List.mem_of_getElem? (i := 32) (by decide +kernel))) (by decide +kernel)
theorem kv_X10_see : calV yX10_see cX10_see 2 (some .int) 1 := ⟨wm_924, wp_32, wm_12, wm_925, by decide +kernel⟩
theorem wm_922 : Cond.methodLink RX10 153 yX10_see ∈ gw := gw_in (List.mem_append_right _ (List.mem_of_getElem? (i := 922) (by decide +kernel))) (by decide +kernel)
theorem wm_724 : Cond.fieldLink RX10 157 (TX10 28).1 (TX10 28).2.1 (TX10 28).2.2.1 ∈ gw := gw_in (List.mem_append_right _ (List.mem_of_getElem? (i := 724) (by decide +kernel))) (by decide +kernel)
theorem wm_928 : Cond.code yX10_isDigit cX10_isDigit 1 (some .boolean) ∈ gw := gw_in (List.mem_append_right _ (List.mem_of_getElem? (i := 928) (by decide +kernel))) (by decide +kernel)
theorem wm_927 : Cond.static yX10_isDigit ∈ gw := gw_in (List.mem_append_right _ (List.mem_of_getElem? (i := 927) (by decide +kernel))) (by decide +kernel)
theorem ks_X10_isDigit : calS yX10_isDigit cX10_isDigit 1 (some .boolean) 1 := ⟨wm_927, wm_12, wm_928, by decide +kernel⟩
theorem wm_926 : Cond.methodLink RX10 163 yX10_isDigit ∈ gw := gw_in (List.mem_append_right _ (List.mem_of_getElem? (i := 926) (by decide +kernel))) (by decide +kernel)
theorem wm_932 : Cond.code yX10_isLetter cX10_isLetter 1 (some .boolean) ∈ gw := gw_in (List.mem_append_right _ (List.mem_of_getElem? (i := 932) (by decide +kernel))) (by decide +kernel)
theorem wm_931 : Cond.static yX10_isLetter ∈ gw := gw_in (List.mem_append_right _ (List.mem_of_getElem? (i := 931) (by decide +kernel))) (by decide +kernel)
theorem ks_X10_isLetter : calS yX10_isLetter cX10_isLetter 1 (some .boolean) 1 := ⟨wm_931, wm_12, wm_932, by decide +kernel⟩
theorem wm_930 : Cond.methodLink RX10 170 yX10_isLetter ∈ gw := gw_in (List.mem_append_right _ (List.mem_of_getElem? (i := 930) (by decide +kernel))) (by decide +kernel)
theorem wm_725 : Cond.fieldLink RX10 160 (TX10 29).1 (TX10 29).2.1 (TX10 29).2.2.1 ∈ gw := gw_in (List.mem_append_right _ (List.mem_of_getElem? (i := 725) (by decide +kernel))) (by decide +kernel)
theorem wm_726 : Cond.fieldLink RX10 166 (TX10 30).1 (TX10 30).2.1 (TX10 30).2.2.1 ∈ gw := gw_in (List.mem_append_right _ (List.mem_of_getElem? (i := 726) (by decide +kernel))) (by decide +kernel)
theorem wm_935 : Cond.code yX10_wordOf cX10_wordOf 1 (some .int) ∈ gw := gw_in (List.mem_append_right _ (List.mem_of_getElem? (i := 935) (by decide +kernel))) (by decide +kernel)
theorem wm_934 : Cond.static yX10_wordOf ∈ gw := gw_in (List.mem_append_right _ (List.mem_of_getElem? (i := 934) (by decide +kernel))) (by decide +kernel)
theorem ks_X10_wordOf : calS yX10_wordOf cX10_wordOf 1 (some .int) 1 := ⟨wm_934, wm_12, wm_935, by decide +kernel⟩
theorem wm_938 : Cond.code yX10_pack cX10_pack 4 (some .int) ∈ gw := gw_in (List.mem_append_right _ (List.mem_of_getElem? (i := 938) (by decide +kernel))) (by decide +kernel)
theorem wm_937 : Cond.static yX10_pack ∈ gw := gw_in (List.mem_append_right _ (List.mem_of_getElem? (i := 937) (by decide +kernel))) (by decide +kernel)
theorem ks_X10_pack : calS yX10_pack cX10_pack 4 (some .int) 4 := ⟨wm_937, wm_12, wm_938, by decide +kernel⟩
theorem wm_936 : Cond.methodLink RX10 146 yX10_pack ∈ gw := gw_in (List.mem_append_right _ (List.mem_of_getElem? (i := 936) (by decide +kernel))) (by decide +kernel)
theorem wm_933 : Cond.methodLink RX10 173 yX10_wordOf ∈ gw := gw_in (List.mem_append_right _ (List.mem_of_getElem? (i := 933) (by decide +kernel))) (by decide +kernel)
theorem wm_929 : Cond.constant RX10 169 100000 ∈ gw := gw_in (List.mem_append_right _ (List.mem_of_getElem? (i := 929) (by decide +kernel))) (by decide +kernel)
theorem wm_918 : Cond.methodLink RX10 176 yX10_nextToken ∈ gw := gw_in (List.mem_append_right _ (List.mem_of_getElem? (i := 918) (by decide +kernel))) (by decide +kernel)
theorem wm_720 : Cond.fieldLink RX10 66 (TX10 24).1 (TX10 24).2.1 (TX10 24).2.2.1 ∈ gw := gw_in (List.mem_append_right _ (List.mem_of_getElem? (i := 720) (by decide +kernel))) (by decide +kernel)
theorem wm_942 : Cond.code yX10_clause cX10_clause 3 (some .int) ∈ gw := gw_in (List.mem_append_right _ (List.mem_of_getElem? (i := 942) (by decide +kernel))) (by decide +kernel)
theorem wm_941 : Cond.instanceMethod yX10_clause ∈ gw := gw_in (List.mem_append_right _ (List.mem_of_getElem? (i := 941) (by decide +kernel))) (by decide +kernel)
theorem wp_33 : Cond.selects yX10_clause.cls yX10_clause yX10_clause ∈ gw := gw_in (List.mem_append_left _ (List.mem_of_getElem? (i := 33) (by decide +kernel))) (by decide +kernel)
theorem kv_X10_clause : calV yX10_clause cX10_clause 3 (some .int) 1 := ⟨wm_941, wp_33, wm_12, wm_942, by decide +kernel⟩
theorem wm_946 : Cond.code yX10_span cX10_span 5 (some .int) ∈ gw := gw_in (List.mem_append_right _ (List.mem_of_getElem? (i := 946) (by decide +kernel))) (by decide +kernel)
theorem wm_945 : Cond.instanceMethod yX10_span ∈ gw := gw_in (List.mem_append_right _ (List.mem_of_getElem? (i := 945) (by decide +kernel))) (by decide +kernel)
theorem wp_34 : Cond.selects yX10_span.cls yX10_span yX10_span ∈ gw := gw_in (List.mem_append_left _ (List.mem_of_getElem? (i := 34) (by decide +kernel))) (by decide +kernel)
theorem kv_X10_span : calV yX10_span cX10_span 5 (some .int) 3 := ⟨wm_945, wp_34, wm_12, wm_946, by decide +kernel⟩
theorem wm_943 : Cond.methodLink RX10 179 yX10_span ∈ gw := gw_in (List.mem_append_right _ (List.mem_of_getElem? (i := 943) (by decide +kernel))) (by decide +kernel)
theorem wm_939 : Cond.methodLink RX10 183 yX10_clause ∈ gw := gw_in (List.mem_append_right _ (List.mem_of_getElem? (i := 939) (by decide +kernel))) (by decide +kernel)
theorem wm_914 : Cond.methodLink RX10 189 yX10_read ∈ gw := gw_in (List.mem_append_right _ (List.mem_of_getElem? (i := 914) (by decide +kernel))) (by decide +kernel)
theorem wm_721 : Cond.fieldLink RX10 69 (TX10 25).1 (TX10 25).2.1 (TX10 25).2.2.1 ∈ gw := gw_in (List.mem_append_right _ (List.mem_of_getElem? (i := 721) (by decide +kernel))) (by decide +kernel)
theorem wm_722 : Cond.fieldLink RX10 72 (TX10 26).1 (TX10 26).2.1 (TX10 26).2.2.1 ∈ gw := gw_in (List.mem_append_right _ (List.mem_of_getElem? (i := 722) (by decide +kernel))) (by decide +kernel)
theorem wm_958 : Cond.code yX10_answer cX10_answer 9 (some .int) ∈ gw := gw_in (List.mem_append_right _ (List.mem_of_getElem? (i := 958) (by decide +kernel))) (by decide +kernel)
theorem wm_957 : Cond.instanceMethod yX10_answer ∈ gw := gw_in (List.mem_append_right _ (List.mem_of_getElem? (i := 957) (by decide +kernel))) (by decide +kernel)
theorem wp_35 : Cond.selects yX10_answer.cls yX10_answer yX10_answer ∈ gw := gw_in (List.mem_append_left _ (List.mem_of_getElem? (i := 35) (by decide +kernel))) (by decide +kernel)
theorem kv_X10_answer : calV yX10_answer cX10_answer 9 (some .int) 2 := ⟨wm_957, wp_35, wm_12, wm_958, by decide +kernel⟩
theorem wm_962 : Cond.code yX10_isTime cX10_isTime 6 (some .boolean) ∈ gw := gw_in (List.mem_append_right _ (List.mem_of_getElem? (i := 962) (by decide +kernel))) (by decide +kernel)
theorem wm_961 : Cond.instanceMethod yX10_isTime ∈ gw := gw_in (List.mem_append_right _ (List.mem_of_getElem? (i := 961) (by decide +kernel))) (by decide +kernel)
theorem wp_36 : Cond.selects yX10_isTime.cls yX10_isTime yX10_isTime ∈ gw := gw_in (List.mem_append_left _ (List.mem_of_getElem? (i := 36) (by decide +kernel))) (by decide +kernel)
theorem kv_X10_isTime : calV yX10_isTime cX10_isTime 6 (some .boolean) 2 := ⟨wm_961, wp_36, wm_12, wm_962, by decide +kernel⟩
theorem wm_959 : Cond.methodLink RX10 193 yX10_isTime ∈ gw := gw_in (List.mem_append_right _ (List.mem_of_getElem? (i := 959) (by decide +kernel))) (by decide +kernel)
theorem wm_955 : Cond.methodLink RX10 196 yX10_answer ∈ gw := gw_in (List.mem_append_right _ (List.mem_of_getElem? (i := 955) (by decide +kernel))) (by decide +kernel)
theorem wm_970 : Cond.code yX10_bestOf cX10_bestOf 4 (some .int) ∈ gw := gw_in (List.mem_append_right _ (List.mem_of_getElem? (i := 970) (by decide +kernel))) (by decide +kernel)
theorem wm_969 : Cond.instanceMethod yX10_bestOf ∈ gw := gw_in (List.mem_append_right _ (List.mem_of_getElem? (i := 969) (by decide +kernel))) (by decide +kernel)
theorem wp_37 : Cond.selects yX10_bestOf.cls yX10_bestOf yX10_bestOf ∈ gw := gw_in (List.mem_append_left _ (List.mem_of_getElem? (i := 37) (by decide +kernel))) (by decide +kernel)
theorem kv_X10_bestOf : calV yX10_bestOf cX10_bestOf 4 (some .int) 1 := ⟨wm_969, wp_37, wm_12, wm_970, by decide +kernel⟩
theorem wm_973 : Cond.code yX10_rankOf cX10_rankOf 1 (some .int) ∈ gw := gw_in (List.mem_append_right _ (List.mem_of_getElem? (i := 973) (by decide +kernel))) (by decide +kernel)
theorem wm_972 : Cond.static yX10_rankOf ∈ gw := gw_in (List.mem_append_right _ (List.mem_of_getElem? (i := 972) (by decide +kernel))) (by decide +kernel)
theorem ks_X10_rankOf : calS yX10_rankOf cX10_rankOf 1 (some .int) 1 := ⟨wm_972, wm_12, wm_973, by decide +kernel⟩
theorem wm_971 : Cond.methodLink RX10 199 yX10_rankOf ∈ gw := gw_in (List.mem_append_right _ (List.mem_of_getElem? (i := 971) (by decide +kernel))) (by decide +kernel)
theorem wm_967 : Cond.methodLink RX10 202 yX10_bestOf ∈ gw := gw_in (List.mem_append_right _ (List.mem_of_getElem? (i := 967) (by decide +kernel))) (by decide +kernel)
theorem wm_982 : Cond.constant RX10 205 65535 ∈ gw := gw_in (List.mem_append_right _ (List.mem_of_getElem? (i := 982) (by decide +kernel))) (by decide +kernel)
theorem wm_731 : Cond.fieldLink RX10 84 (TX10 35).1 (TX10 35).2.1 (TX10 35).2.2.1 ∈ gw := gw_in (List.mem_append_right _ (List.mem_of_getElem? (i := 731) (by decide +kernel))) (by decide +kernel)
theorem wm_990 : Cond.code yX10_worth cX10_worth 9 (some .int) ∈ gw := gw_in (List.mem_append_right _ (List.mem_of_getElem? (i := 990) (by decide +kernel))) (by decide +kernel)
theorem wm_989 : Cond.instanceMethod yX10_worth ∈ gw := gw_in (List.mem_append_right _ (List.mem_of_getElem? (i := 989) (by decide +kernel))) (by decide +kernel)
theorem wp_39 : Cond.selects yX10_worth.cls yX10_worth yX10_worth ∈ gw := gw_in (List.mem_append_left _ (List.mem_of_getElem? (i := 39) (by decide +kernel))) (by decide +kernel)
theorem kv_X10_worth : calV yX10_worth cX10_worth 9 (some .int) 3 := ⟨wm_989, wp_39, wm_12, wm_990, by decide +kernel⟩
theorem wm_729 : Cond.fieldLink RX10 78 (TX10 33).1 (TX10 33).2.1 (TX10 33).2.2.1 ∈ gw := gw_in (List.mem_append_right _ (List.mem_of_getElem? (i := 729) (by decide +kernel))) (by decide +kernel)
theorem wm_730 : Cond.fieldLink RX10 81 (TX10 34).1 (TX10 34).2.1 (TX10 34).2.2.1 ∈ gw := gw_in (List.mem_append_right _ (List.mem_of_getElem? (i := 730) (by decide +kernel))) (by decide +kernel)
theorem wm_987 : Cond.methodLink RX10 209 yX10_worth ∈ gw := gw_in (List.mem_append_right _ (List.mem_of_getElem? (i := 987) (by decide +kernel))) (by decide +kernel)
theorem wm_727 : Cond.fieldLink RX10 213 (TX10 31).1 (TX10 31).2.1 (TX10 31).2.2.1 ∈ gw := gw_in (List.mem_append_right _ (List.mem_of_getElem? (i := 727) (by decide +kernel))) (by decide +kernel)
theorem wm_986 : Cond.code yX10_latestAhead cX10_latestAhead 6 (some .int) ∈ gw := gw_in (List.mem_append_right _ (List.mem_of_getElem? (i := 986) (by decide +kernel))) (by decide +kernel)
theorem wm_985 : Cond.instanceMethod yX10_latestAhead ∈ gw := gw_in (List.mem_append_right _ (List.mem_of_getElem? (i := 985) (by decide +kernel))) (by decide +kernel)
theorem wp_38 : Cond.selects yX10_latestAhead.cls yX10_latestAhead yX10_latestAhead ∈ gw := gw_in (List.mem_append_left _ (List.mem_of_getElem? (i := 38) (by decide +kernel))) (by decide +kernel)
theorem kv_X10_latestAhead : calV yX10_latestAhead cX10_latestAhead 6 (some .int) 2 := ⟨wm_985, wp_38, wm_12, wm_986, by decide +kernel⟩
theorem wm_983 : Cond.methodLink RX10 206 yX10_latestAhead ∈ gw := gw_in (List.mem_append_right _ (List.mem_of_getElem? (i := 983) (by decide +kernel))) (by decide +kernel)
theorem wm_728 : Cond.fieldLink RX10 75 (TX10 32).1 (TX10 32).2.1 (TX10 32).2.2.1 ∈ gw := gw_in (List.mem_append_right _ (List.mem_of_getElem? (i := 728) (by decide +kernel))) (by decide +kernel)
end
section
def f_X9_isBelow (N : Nat) (s : Hp) (x0 x1 : Int32) : Option (Int32 × Hp) :=
 if x0 < 0 then (
  some (0, s))
 else (
  if x1 ≤ x0 then (
   some (0, s))
  else (
   some (1, s)))
def f_X4_add (N : Nat) (s : Hp) (x1 x2 : Int32) : Option (Int32 × Hp) :=
 if (s 1 2) < 6 then (
  ck (inR (s 1 2) 6) (sb (hset s 2 (ix (s 1 2)) x1) fun s1 =>
  ck (inR (s1 1 2) 6) (sb (hset s1 3 (ix (s1 1 2)) x2) fun s2 =>
  sb (hset s2 1 2 ((s2 1 2) + 1)) fun s3 =>
  some ((s3 1 2) - 1, s3))))
 else (
  some ((-1), s))
def f_X9_post (N : Nat) (s : Hp) (x1 x2 : Int32) : Option (Int32 × Hp) :=
 bd (f_X9_isBelow N s x1 32) fun v2 s1 =>
 if v2 = 0 then (
  some ((-1), s1))
 else (
  bd (f_X9_isBelow N s1 x2 32) fun v4 s3 =>
  if v4 = 0 then (
   some ((-1), s3))
  else (
   if (s3 1 2) < 6 then (
    bd (f_X4_add N s3 x1 x2) fun v6 s5 =>
    some (v6, s5))
   else (
    some ((-1), s3))))
def f_X9_isStretch (N : Nat) (s : Hp) (x0 x1 : Int32) : Option (Int32 × Hp) :=
 if x0 < 0 then (
  some (0, s))
 else (
  if x1 < x0 then (
   some (0, s))
  else (
   if 10000 ≤ x1 then (
    some (0, s))
   else (
    some (1, s))))
def f_X9_isHearing (N : Nat) (s : Hp) (x1 x2 x3 x4 : Int32) : Option (Int32 × Hp) :=
 bd (f_X9_isBelow N s x1 (s 1 2)) fun v2 s1 =>
 if v2 = 0 then (
  some (0, s1))
 else (
  bd (f_X9_isBelow N s1 x2 16) fun v4 s3 =>
  if v4 = 0 then (
   some (0, s3))
  else (
   bd (f_X9_isStretch N s3 x3 x4) fun v6 s5 =>
   if v6 = 0 then (
    some (0, s5))
   else (
    some (1, s5))))
def f_X7_add (N : Nat) (s : Hp) (x1 x2 x3 x4 : Int32) : Option (Int32 × Hp) :=
 if (s 4 4) < 100 then (
  ck (inR (s 4 4) 100) (sb (hset s 5 (ix (s 4 4)) x1) fun s1 =>
  ck (inR (s1 4 4) 100) (sb (hset s1 6 (ix (s1 4 4)) x2) fun s2 =>
  ck (inR (s2 4 4) 100) (sb (hset s2 7 (ix (s2 4 4)) x3) fun s3 =>
  ck (inR (s3 4 4) 100) (sb (hset s3 8 (ix (s3 4 4)) x4) fun s4 =>
  sb (hset s4 4 4 ((s4 4 4) + 1)) fun s5 =>
  some ((s5 4 4) - 1, s5))))))
 else (
  some ((-1), s))
def f_X9_listened (N : Nat) (s : Hp) (x1 x2 x3 x4 : Int32) : Option (Int32 × Hp) :=
 bd (f_X9_isHearing N s x1 x2 x3 x4) fun v2 s1 =>
 if v2 = 0 then (
  some ((-1), s1))
 else (
  if (s1 4 4) < 100 then (
   bd (f_X7_add N s1 x1 x2 x3 x4) fun v4 s3 =>
   some (v4 + 1, s3))
  else (
   some ((-1), s1)))
def f_X7_openBehind_64 (N : Nat) (k6 : Hp → Int32 → Int32 → Int32 → Int32 → Int32 → Option (Int32 × Hp)) (s : Hp) (x1 x2 x3 x4 x5 : Int32) : Option (Int32 × Hp) :=
 vb (x5 + 1) fun y2 =>
 k6 s x1 x2 x3 x4 y2
def f_X7_openBehind_6 (N : Nat) (k6 : Hp → Int32 → Int32 → Int32 → Int32 → Int32 → Option (Int32 × Hp)) (s : Hp) (x1 x2 x3 x4 x5 : Int32) : Option (Int32 × Hp) :=
 if (s 4 4) ≤ x5 then (
  some (x4, s))
 else (
  ck (inR x5 100) (
  if (s 5 (ix x5)) = x1 then (
   ck (inR x5 100) (
   if (s 6 (ix x5)) = x2 then (
    ck (inR x5 100) (
    if x3 < (s 7 (ix x5)) then (
     f_X7_openBehind_64 N k6 s x1 x2 x3 x4 x5)
    else (
     ck (inR x5 100) (
     vb (imax x4 ((s 8 (ix x5)) + 1)) fun y1 =>
     f_X7_openBehind_64 N k6 s x1 x2 x3 y1 x5))))
   else (
    f_X7_openBehind_64 N k6 s x1 x2 x3 x4 x5)))
  else (
   f_X7_openBehind_64 N k6 s x1 x2 x3 x4 x5)))
def l_X7_openBehind_6 (N : Nat) : Hp → Int32 → Int32 → Int32 → Int32 → Int32 → Option (Int32 × Hp) := lp (fun _ _ _ _ _ _ => none) (f_X7_openBehind_6 N) N
def f_X7_openBehind (N : Nat) (s : Hp) (x1 x2 x3 : Int32) : Option (Int32 × Hp) :=
 l_X7_openBehind_6 N s x1 x2 x3 x3 0
def f_X7_holdsEach_38 (N : Nat) (s : Hp) (x4 x5 : Int32) : Option (Int32 × Hp) :=
 if x5 ≤ x4 then (
  some (0, s))
 else (
  some (1, s))
def f_X7_holdsEach_6 (N : Nat) (k6 : Hp → Int32 → Int32 → Int32 → Int32 → Int32 → Option (Int32 × Hp)) (s : Hp) (x1 x2 x4 x5 x6 : Int32) : Option (Int32 × Hp) :=
 if (s 4 4) ≤ x6 then (
  f_X7_holdsEach_38 N s x4 x5)
 else (
  if x4 < x5 then (
   f_X7_holdsEach_38 N s x4 x5)
  else (
   bd (f_X7_openBehind N s x1 x2 x5) fun v2 s1 =>
   vb (x6 + 1) fun y3 =>
   k6 s1 x1 x2 x4 v2 y3))
def l_X7_holdsEach_6 (N : Nat) : Hp → Int32 → Int32 → Int32 → Int32 → Int32 → Option (Int32 × Hp) := lp (fun _ _ _ _ _ _ => none) (f_X7_holdsEach_6 N) N
def f_X7_holdsEach (N : Nat) (s : Hp) (x1 x2 x3 x4 : Int32) : Option (Int32 × Hp) :=
 l_X7_holdsEach_6 N s x1 x2 x4 x3 0
def f_X7_add_b (N : Nat) (s : Hp) (x1 x2 x3 x4 : Int32) : Option (Int32 × Hp) :=
 if (s 10 4) < 60 then (
  ck (inR (s 10 4) 60) (sb (hset s 11 (ix (s 10 4)) x1) fun s1 =>
  ck (inR (s1 10 4) 60) (sb (hset s1 12 (ix (s1 10 4)) x2) fun s2 =>
  ck (inR (s2 10 4) 60) (sb (hset s2 13 (ix (s2 10 4)) x3) fun s3 =>
  ck (inR (s3 10 4) 60) (sb (hset s3 14 (ix (s3 10 4)) x4) fun s4 =>
  sb (hset s4 10 4 ((s4 10 4) + 1)) fun s5 =>
  some ((s5 10 4) - 1, s5))))))
 else (
  some ((-1), s))
def f_X2_add (N : Nat) (s : Hp) (x1 x2 x3 x4 x5 : Int32) : Option (Int32 × Hp) :=
 bd (f_X7_add_b N s x1 x2 x3 x4) fun v2 s1 =>
 if v2 = (-1) then (
  some (v2, s1))
 else (
  ck (inR v2 60) (sb (hset s1 15 (ix v2) x5) fun s3 =>
  some (v2, s3)))
def f_X0_giveNumbers_62 (N : Nat) (k7 : Hp → Int32 → Int32 → Option (Int32 × Hp)) (s : Hp) (x1 x2 : Int32) : Option (Int32 × Hp) :=
 vb (x2 + 1) fun y5 =>
 k7 s x1 y5
def f_X0_giveNumbers_7 (N : Nat) (k7 : Hp → Int32 → Int32 → Option (Int32 × Hp)) (s : Hp) (x1 x2 : Int32) : Option (Int32 × Hp) :=
 if x1 ≤ x2 then (
  some (0, s))
 else (
  ck (inR x2 60) (
  if (s 19 (ix x2)) = x2 then (
   ck (inR x2 60) (sb (hset s 20 (ix x2) (s 18 4)) fun s3 =>
   sb (hset s3 18 4 ((s3 18 4) + 1)) fun s4 =>
   f_X0_giveNumbers_62 N k7 s4 x1 x2))
  else (
   ck (inR x2 60) (
   ck (inR (s 19 (ix x2)) 60) (
   ck (inR x2 60) (sb (hset s 20 (ix x2) (s 20 (ix (s 19 (ix x2))))) fun s2 =>
   f_X0_giveNumbers_62 N k7 s2 x1 x2))))))
def l_X0_giveNumbers_7 (N : Nat) : Hp → Int32 → Int32 → Option (Int32 × Hp) := lp (fun _ _ _ => none) (f_X0_giveNumbers_7 N) N
def f_X0_giveNumbers (N : Nat) (s : Hp) (x1 : Int32) : Option (Int32 × Hp) :=
 sb (hset s 18 4 0) fun s1 =>
 l_X0_giveNumbers_7 N s1 x1 0
def f_X2_areJoined (N : Nat) (s : Hp) (x1 x2 x3 x4 : Int32) : Option (Int32 × Hp) :=
 ck (inR x1 60) (
 ck (inR x2 60) (
 if (s 12 (ix x1)) = (s 12 (ix x2)) then (
  ck (inR x1 60) (
  ck (inR x2 60) (
  if x3 < (iabs ((s 15 (ix x1)) - (s 15 (ix x2)))) then (
   some (0, s))
  else (
   ck (inR x1 60) (
   ck (inR x2 60) (
   if x4 < ((s 13 (ix x1)) - (s 14 (ix x2))) then (
    some (0, s))
   else (
    ck (inR x2 60) (
    ck (inR x1 60) (
    if x4 < ((s 13 (ix x2)) - (s 14 (ix x1))) then (
     some (0, s))
    else (
     some (1, s)))))))))))
 else (
  some (0, s))))
def f_X0_unite_62 (N : Nat) (k36 : Hp → Int32 → Int32 → Int32 → Int32 → Option (Int32 × Hp)) (s : Hp) (x1 x3 x4 x5 : Int32) : Option (Int32 × Hp) :=
 vb (x5 + 1) fun y4 =>
 k36 s x1 x3 x4 y4
def f_X0_unite_36 (N : Nat) (k36 : Hp → Int32 → Int32 → Int32 → Int32 → Option (Int32 × Hp)) (s : Hp) (x1 x3 x4 x5 : Int32) : Option (Int32 × Hp) :=
 if x1 < x5 then (
  some (0, s))
 else (
  ck (inR x5 60) (
  if (s 19 (ix x5)) = x4 then (
   ck (inR x5 60) (sb (hset s 19 (ix x5) x3) fun s3 =>
   f_X0_unite_62 N k36 s3 x1 x3 x4 x5))
  else (
   f_X0_unite_62 N k36 s x1 x3 x4 x5)))
def l_X0_unite_36 (N : Nat) : Hp → Int32 → Int32 → Int32 → Int32 → Option (Int32 × Hp) := lp (fun _ _ _ _ _ => none) (f_X0_unite_36 N) N
def f_X0_unite (N : Nat) (s : Hp) (x1 x2 : Int32) : Option (Int32 × Hp) :=
 ck (inR x1 60) (
 ck (inR x2 60) (
 vb (imin (s 19 (ix x1)) (s 19 (ix x2))) fun y1 =>
 ck (inR x1 60) (
 ck (inR x2 60) (
 vb (imax (s 19 (ix x1)) (s 19 (ix x2))) fun y2 =>
 l_X0_unite_36 N s x1 y1 y2 0))))
def f_X0_gather_65 (N : Nat) (k2 : Hp → Int32 → Option (Int32 × Hp)) (k22 : Hp → Int32 → Int32 → Option (Int32 × Hp)) (s : Hp) (x2 x3 : Int32) : Option (Int32 × Hp) :=
 vb (x3 + 1) fun y9 =>
 k22 s x2 y9
def f_X0_gather_22 (N : Nat) (k2 : Hp → Int32 → Option (Int32 × Hp)) (k22 : Hp → Int32 → Int32 → Option (Int32 × Hp)) (s : Hp) (x2 x3 : Int32) : Option (Int32 × Hp) :=
 if x2 ≤ x3 then (
  vb (x2 + 1) fun y4 =>
  k2 s y4)
 else (
  ck (inR x2 60) (
  ck (inR x3 60) (
  if (s 19 (ix x2)) = (s 19 (ix x3)) then (
   f_X0_gather_65 N k2 k22 s x2 x3)
  else (
   bd (f_X2_areJoined N s x2 x3 (s 18 2) (s 18 3)) fun v6 s5 =>
   if v6 = 0 then (
    f_X0_gather_65 N k2 k22 s5 x2 x3)
   else (
    bd (f_X0_unite N s5 x2 x3) fun v8 s7 =>
    f_X0_gather_65 N k2 k22 s7 x2 x3)))))
def l_X0_gather_22 (N : Nat) (k2 : Hp → Int32 → Option (Int32 × Hp)) : Hp → Int32 → Int32 → Option (Int32 × Hp) := lp (fun _ _ _ => none) (f_X0_gather_22 N k2) N
def f_X0_gather_2 (N : Nat) (k2 : Hp → Int32 → Option (Int32 × Hp)) (s : Hp) (x2 : Int32) : Option (Int32 × Hp) :=
 if (s 10 4) ≤ x2 then (
  bd (f_X0_giveNumbers N s (s 10 4)) fun v2 s1 =>
  some (0, s1))
 else (
  ck (inR x2 60) (sb (hset s 19 (ix x2) x2) fun s3 =>
  l_X0_gather_22 N k2 s3 x2 0))
def l_X0_gather_2 (N : Nat) : Hp → Int32 → Option (Int32 × Hp) := lp (fun _ _ => none) (f_X0_gather_2 N) N
def f_X0_gather (N : Nat) (s : Hp) : Option (Int32 × Hp) :=
 l_X0_gather_2 N s 0
def f_X9_mark (N : Nat) (s : Hp) (x1 x2 x3 x4 x5 : Int32) : Option (Int32 × Hp) :=
 bd (f_X9_isHearing N s x1 x2 x3 x4) fun v2 s1 =>
 if v2 = 0 then (
  some ((-1), s1))
 else (
  bd (f_X9_isBelow N s1 x5 1000) fun v4 s3 =>
  if v4 = 0 then (
   some ((-1), s3))
  else (
   if 60 ≤ (s3 10 4) then (
    some ((-1), s3))
   else (
    bd (f_X7_holdsEach N s3 x1 x2 x3 x4) fun v6 s5 =>
    if v6 = 0 then (
     some ((-1), s5))
    else (
     bd (f_X2_add N s5 x1 x2 x3 x4 x5) fun v8 s7 =>
     bd (f_X0_gather N s7) fun v10 s9 =>
     some (v8, s9)))))
def f_X9_isSide (N : Nat) (s : Hp) (x0 : Int32) : Option (Int32 × Hp) :=
 if x0 < (-100) then (
  some (0, s))
 else (
  if 100 < x0 then (
   some (0, s))
  else (
   some (1, s)))
def f_X2_clearFields_28 (N : Nat) (k28 : Hp → Int32 → Int32 → Option (Int32 × Hp)) (s : Hp) (x1 x2 : Int32) : Option (Int32 × Hp) :=
 if 32 ≤ x2 then (
  some (0, s))
 else (
  ck (inR x1 60) (
  ck (inR x2 32) (sb (hset s (58 + ix x1) (ix x2) 0) fun s4 =>
  vb (x2 + 1) fun y5 =>
  k28 s4 x1 y5)))
def l_X2_clearFields_28 (N : Nat) : Hp → Int32 → Int32 → Option (Int32 × Hp) := lp (fun _ _ _ => none) (f_X2_clearFields_28 N) N
def f_X2_clearFields_26 (N : Nat) (s : Hp) (x1 : Int32) : Option (Int32 × Hp) :=
 l_X2_clearFields_28 N s x1 0
def f_X2_clearFields (N : Nat) (s : Hp) (x1 : Int32) : Option (Int32 × Hp) :=
 ck (inR x1 60) (
 if (s 16 (ix x1)) = 0 then (
  ck (inR x1 60) (sb (hset s 16 (ix x1) 1) fun s1 =>
  sb (hset s1 9 4 ((s1 9 4) + 1)) fun s2 =>
  f_X2_clearFields_26 N s2 x1))
 else (
  f_X2_clearFields_26 N s x1))
def f_X2_addField (N : Nat) (s : Hp) (x1 x2 : Int32) : Option (Int32 × Hp) :=
 ck (inR x1 60) (
 ck (inR (x2 / 32) 32) (
 ck (inR (x2 / 32) 32) (sb (hset s (58 + ix x1) (ix (x2 / 32)) ((s (58 + ix x1) (ix (x2 / 32))) ||| (1 <<< ((irm x2 32) &&& 31)))) fun s2 =>
 some (0, s2))))
def f_X9_wedge_166 (N : Nat) (k86 : Hp → Int32 → Int32 → Int32 → Int32 → Int32 → Int32 → Int32 → Option (Int32 × Hp)) (s : Hp) (x1 x2 x3 x4 x5 x6 x7 : Int32) : Option (Int32 × Hp) :=
 vb (x7 + 1) fun y18 =>
 k86 s x1 x2 x3 x4 x5 x6 y18
def f_X9_wedge_86 (N : Nat) (k86 : Hp → Int32 → Int32 → Int32 → Int32 → Int32 → Int32 → Int32 → Option (Int32 × Hp)) (s : Hp) (x1 x2 x3 x4 x5 x6 x7 : Int32) : Option (Int32 × Hp) :=
 if 1024 ≤ x7 then (
  some (1, s))
 else (
  ck (inR x6 6) (
  vb ((irm x7 32) - (s 2 (ix x6))) fun y14 =>
  ck (inR x6 6) (
  vb ((x7 / 32) - (s 3 (ix x6))) fun y15 =>
  if ((x2 * y15) - (x3 * y14)) < 0 then (
   f_X9_wedge_166 N k86 s x1 x2 x3 x4 x5 x6 x7)
  else (
   if ((y14 * x5) - (y15 * x4)) < 0 then (
    f_X9_wedge_166 N k86 s x1 x2 x3 x4 x5 x6 x7)
   else (
    bd (f_X2_addField N s x1 x7) fun v17 s16 =>
    f_X9_wedge_166 N k86 s16 x1 x2 x3 x4 x5 x6 x7)))))
def l_X9_wedge_86 (N : Nat) : Hp → Int32 → Int32 → Int32 → Int32 → Int32 → Int32 → Int32 → Option (Int32 × Hp) := lp (fun _ _ _ _ _ _ _ _ => none) (f_X9_wedge_86 N) N
def f_X9_wedge (N : Nat) (s : Hp) (x1 x2 x3 x4 x5 : Int32) : Option (Int32 × Hp) :=
 bd (f_X9_isBelow N s x1 (s 10 4)) fun v2 s1 =>
 if v2 = 0 then (
  some (0, s1))
 else (
  bd (f_X9_isSide N s1 x2) fun v4 s3 =>
  if v4 = 0 then (
   some (0, s3))
  else (
   bd (f_X9_isSide N s3 x3) fun v6 s5 =>
   if v6 = 0 then (
    some (0, s5))
   else (
    bd (f_X9_isSide N s5 x4) fun v8 s7 =>
    if v8 = 0 then (
     some (0, s7))
    else (
     bd (f_X9_isSide N s7 x5) fun v10 s9 =>
     if v10 = 0 then (
      some (0, s9))
     else (
      if 0 < ((x2 * x5) - (x3 * x4)) then (
       ck (inR x1 60) (
       vb (s9 11 (ix x1)) fun y11 =>
       bd (f_X2_clearFields N s9 x1) fun v13 s12 =>
       l_X9_wedge_86 N s12 x1 x2 x3 x4 x5 y11 0))
      else (
       some (0, s9)))))))
def f_X9_joins (N : Nat) (s : Hp) (x1 x2 : Int32) : Option (Int32 × Hp) :=
 bd (f_X9_isBelow N s x1 100) fun v2 s1 =>
 if v2 = 0 then (
  some (0, s1))
 else (
  bd (f_X9_isBelow N s1 x2 1000) fun v4 s3 =>
  if v4 = 0 then (
   some (0, s3))
  else (
   sb (hset s3 18 2 x1) fun s5 =>
   sb (hset s5 18 3 x2) fun s6 =>
   bd (f_X0_gather N s6) fun v8 s7 =>
   some (1, s7)))
def f_X9_senders (N : Nat) (s : Hp) : Option (Int32 × Hp) :=
 some (s 18 4, s)
def f_X9_senderOf (N : Nat) (s : Hp) (x1 : Int32) : Option (Int32 × Hp) :=
 bd (f_X9_isBelow N s x1 (s 10 4)) fun v2 s1 =>
 if v2 = 0 then (
  some ((-1), s1))
 else (
  ck (inR x1 60) (
  some (s1 20 (ix x1), s1)))
def f_X6_add_129 (N : Nat) (k129 : Hp → Int32 → Int32 → Option (Int32 × Hp)) (s : Hp) (x2 x3 : Int32) : Option (Int32 × Hp) :=
 ck (inR x2 60) (
 if (s 16 (ix x2)) = 0 then (
  some (0, s))
 else (
  if 32 ≤ x3 then (
   some (0, s))
  else (
   ck (inR x3 32) (
   ck (inR x2 60) (
   ck (inR x3 32) (
   ck (inR x3 32) (sb (hset s 23 (ix x3) ((s 23 (ix x3)) &&& (s (58 + ix x2) (ix x3)))) fun s10 =>
   vb (x3 + 1) fun y11 =>
   k129 s10 x2 y11)))))))
def l_X6_add_129 (N : Nat) : Hp → Int32 → Int32 → Option (Int32 × Hp) := lp (fun _ _ _ => none) (f_X6_add_129 N) N
def f_X6_add (N : Nat) (s : Hp) (x2 : Int32) : Option (Int32 × Hp) :=
 ck (inR (s 21 2) 60) (sb (hset s 22 (ix (s 21 2)) x2) fun s1 =>
 sb (hset s1 21 2 ((s1 21 2) + 1)) fun s2 =>
 ck (inR x2 60) (
 sb (hset s2 21 3 (s2 12 (ix x2))) fun s3 =>
 ck (inR x2 60) (
 sb (hset s3 21 4 (imin (s3 21 4) (s3 13 (ix x2)))) fun s4 =>
 ck (inR x2 60) (
 sb (hset s4 21 5 (imax (s4 21 5) (s4 14 (ix x2)))) fun s5 =>
 ck (inR x2 60) (
 sb (hset s5 21 6 (imin (s5 21 6) (s5 15 (ix x2)))) fun s6 =>
 ck (inR x2 60) (
 sb (hset s6 21 7 (imax (s6 21 7) (s6 15 (ix x2)))) fun s7 =>
 ck (inR x2 60) (
 sb (hset s7 21 8 ((s7 21 8) ||| (1 <<< ((s7 11 (ix x2)) &&& 31)))) fun s8 =>
 l_X6_add_129 N s8 x2 0)))))))
def f_X6_draw_93 (N : Nat) (k66 : Hp → Int32 → Int32 → Option (Int32 × Hp)) (s : Hp) (x3 x4 : Int32) : Option (Int32 × Hp) :=
 vb (x4 + 1) fun y12 =>
 k66 s x3 y12
def f_X6_draw_66 (N : Nat) (k66 : Hp → Int32 → Int32 → Option (Int32 × Hp)) (s : Hp) (x3 x4 : Int32) : Option (Int32 × Hp) :=
 if (s 10 4) ≤ x4 then (
  some (0, s))
 else (
  ck (inR x4 60) (
  if (s 20 (ix x4)) = x3 then (
   bd (f_X6_add N s x4) fun v11 s10 =>
   f_X6_draw_93 N k66 s10 x3 x4)
  else (
   f_X6_draw_93 N k66 s x3 x4)))
def l_X6_draw_66 (N : Nat) : Hp → Int32 → Int32 → Option (Int32 × Hp) := lp (fun _ _ _ => none) (f_X6_draw_66 N) N
def f_X6_draw_42 (N : Nat) (k42 : Hp → Int32 → Int32 → Option (Int32 × Hp)) (s : Hp) (x3 x4 : Int32) : Option (Int32 × Hp) :=
 if 32 ≤ x4 then (
  l_X6_draw_66 N s x3 0)
 else (
  ck (inR x4 32) (sb (hset s 23 (ix x4) (-1)) fun s8 =>
  vb (x4 + 1) fun y9 =>
  k42 s8 x3 y9))
def l_X6_draw_42 (N : Nat) : Hp → Int32 → Int32 → Option (Int32 × Hp) := lp (fun _ _ _ => none) (f_X6_draw_42 N) N
def f_X6_draw (N : Nat) (s : Hp) (x3 : Int32) : Option (Int32 × Hp) :=
 sb (hset s 21 2 0) fun s1 =>
 sb (hset s1 21 3 (-1)) fun s2 =>
 sb (hset s2 21 4 10000) fun s3 =>
 sb (hset s3 21 5 (-1)) fun s4 =>
 sb (hset s4 21 6 1000) fun s5 =>
 sb (hset s5 21 7 (-1)) fun s6 =>
 sb (hset s6 21 8 0) fun s7 =>
 l_X6_draw_42 N s7 x3 0
def f_J6_bitCount_0f7a4 (N : Nat) (s : Hp) (x0 : Int32) : Option (Int32 × Hp) :=
 vb (x0 - ((ushr x0 1) &&& 1431655765)) fun y1 =>
 vb ((y1 &&& 858993459) + ((ushr y1 2) &&& 858993459)) fun y2 =>
 vb ((y2 + (ushr y2 4)) &&& 252645135) fun y3 =>
 vb (y3 + (ushr y3 8)) fun y4 =>
 vb (y4 + (ushr y4 16)) fun y5 =>
 some (y5 &&& 63, s)
def f_X6_countFields_4 (N : Nat) (k4 : Hp → Int32 → Int32 → Option (Int32 × Hp)) (s : Hp) (x1 x2 : Int32) : Option (Int32 × Hp) :=
 if 32 ≤ x2 then (
  some (x1, s))
 else (
  ck (inR x2 32) (
  bd (f_J6_bitCount_0f7a4 N s (s 23 (ix x2))) fun v2 s1 =>
  vb (x1 + v2) fun y3 =>
  vb (x2 + 1) fun y4 =>
  k4 s1 y3 y4))
def l_X6_countFields_4 (N : Nat) : Hp → Int32 → Int32 → Option (Int32 × Hp) := lp (fun _ _ _ => none) (f_X6_countFields_4 N) N
def f_X6_countFields (N : Nat) (s : Hp) : Option (Int32 × Hp) :=
 l_X6_countFields_4 N s 0 0
def f_X9_sender (N : Nat) (s : Hp) (x1 x2 : Int32) : Option (Int32 × Hp) :=
 bd (f_X9_isBelow N s x1 (s 18 4)) fun v2 s1 =>
 if v2 = 0 then (
  some ((-1), s1))
 else (
  bd (f_X6_draw N s1 x1) fun v4 s3 =>
  if x2 = 0 then (
   ck (inR 0 60) (
   some (s3 22 (ix 0), s3)))
  else (
   if x2 = 1 then (
    some (s3 21 2, s3))
   else (
    if x2 = 2 then (
     some (s3 21 3, s3))
    else (
     if x2 = 3 then (
      some (s3 21 4, s3))
     else (
      if x2 = 4 then (
       some (s3 21 5, s3))
      else (
       if x2 = 5 then (
        some (s3 21 6, s3))
       else (
        if x2 = 6 then (
         some (s3 21 7, s3))
        else (
         if x2 = 7 then (
          bd (f_X6_countFields N s3) fun v6 s5 =>
          some (v6, s5))
         else (
          if x2 = 8 then (
           bd (f_J6_bitCount_0f7a4 N s3 (s3 21 8)) fun v8 s7 =>
           some (v8, s7))
          else (
           some ((-1), s3)))))))))))
def f_X6_has (N : Nat) (s : Hp) (x1 : Int32) : Option (Int32 × Hp) :=
 ck (inR (x1 / 32) 32) (
 if (((s 23 (ix (x1 / 32))) >>> ((irm x1 32) &&& 31)) &&& 1) = 0 then (
  some (0, s))
 else (
  some (1, s)))
def f_X6_fieldAt_29 (N : Nat) (k4 : Hp → Int32 → Int32 → Int32 → Option (Int32 × Hp)) (s : Hp) (x1 x2 x3 : Int32) : Option (Int32 × Hp) :=
 vb (x3 + 1) fun y4 =>
 k4 s x1 x2 y4
def f_X6_fieldAt_4 (N : Nat) (k4 : Hp → Int32 → Int32 → Int32 → Option (Int32 × Hp)) (s : Hp) (x1 x2 x3 : Int32) : Option (Int32 × Hp) :=
 if 1024 ≤ x3 then (
  some ((-1), s))
 else (
  bd (f_X6_has N s x3) fun v2 s1 =>
  if v2 = 0 then (
   f_X6_fieldAt_29 N k4 s1 x1 x2 x3)
  else (
   if x2 = x1 then (
    some (x3, s1))
   else (
    vb (x2 + 1) fun y3 =>
    f_X6_fieldAt_29 N k4 s1 x1 y3 x3)))
def l_X6_fieldAt_4 (N : Nat) : Hp → Int32 → Int32 → Int32 → Option (Int32 × Hp) := lp (fun _ _ _ _ => none) (f_X6_fieldAt_4 N) N
def f_X6_fieldAt (N : Nat) (s : Hp) (x1 : Int32) : Option (Int32 × Hp) :=
 l_X6_fieldAt_4 N s x1 0 0
def f_X9_place (N : Nat) (s : Hp) (x1 x2 : Int32) : Option (Int32 × Hp) :=
 bd (f_X9_isBelow N s x1 (s 18 4)) fun v2 s1 =>
 if v2 = 0 then (
  some ((-1), s1))
 else (
  bd (f_X9_isBelow N s1 x2 1024) fun v4 s3 =>
  if v4 = 0 then (
   some ((-1), s3))
  else (
   bd (f_X6_draw N s3 x1) fun v6 s5 =>
   bd (f_X6_fieldAt N s5 x2) fun v8 s7 =>
   some (v8, s7)))
def f_X6_edge_85 (N : Nat) (k5 : Hp → Int32 → Int32 → Int32 → Int32 → Option (Int32 × Hp)) (s : Hp) (x1 x2 x3 x4 : Int32) : Option (Int32 × Hp) :=
 vb (x4 + 1) fun y3 =>
 k5 s x1 x2 x3 y3
def f_X6_edge_82 (N : Nat) (k5 : Hp → Int32 → Int32 → Int32 → Int32 → Option (Int32 × Hp)) (s : Hp) (x1 x2 x4 x5 : Int32) : Option (Int32 × Hp) :=
 f_X6_edge_85 N k5 s x1 x2 x5 x4
def f_X6_edge_61 (N : Nat) (k5 : Hp → Int32 → Int32 → Int32 → Int32 → Option (Int32 × Hp)) (s : Hp) (x1 x2 x3 x4 x5 t0 : Int32) : Option (Int32 × Hp) :=
 bd (f_X6_has N s x4) fun v2 s1 =>
 if v2 = 0 then (
  f_X6_edge_85 N k5 s1 x1 x2 x3 x4)
 else (
  if x3 = (-1) then (
   f_X6_edge_82 N k5 s1 x1 x2 x4 x5)
  else (
   if t0 = 0 then (
    f_X6_edge_85 N k5 s1 x1 x2 x3 x4)
   else (
    f_X6_edge_82 N k5 s1 x1 x2 x4 x5)))
def f_X6_edge_30 (N : Nat) (k5 : Hp → Int32 → Int32 → Int32 → Int32 → Option (Int32 × Hp)) (s : Hp) (x1 x2 x3 x4 t0 : Int32) : Option (Int32 × Hp) :=
 if x2 = 0 then (
  if x3 ≤ t0 then (
   f_X6_edge_61 N k5 s x1 x2 x3 x4 t0 0)
  else (
   f_X6_edge_61 N k5 s x1 x2 x3 x4 t0 1))
 else (
  if t0 ≤ x3 then (
   f_X6_edge_61 N k5 s x1 x2 x3 x4 t0 0)
  else (
   f_X6_edge_61 N k5 s x1 x2 x3 x4 t0 1))
def f_X6_edge_5 (N : Nat) (k5 : Hp → Int32 → Int32 → Int32 → Int32 → Option (Int32 × Hp)) (s : Hp) (x1 x2 x3 x4 : Int32) : Option (Int32 × Hp) :=
 if 1024 ≤ x4 then (
  some (x3, s))
 else (
  if x1 = 0 then (
   f_X6_edge_30 N k5 s x1 x2 x3 x4 (irm x4 32))
  else (
   f_X6_edge_30 N k5 s x1 x2 x3 x4 (x4 / 32)))
def l_X6_edge_5 (N : Nat) : Hp → Int32 → Int32 → Int32 → Int32 → Option (Int32 × Hp) := lp (fun _ _ _ _ _ => none) (f_X6_edge_5 N) N
def f_X6_edge (N : Nat) (s : Hp) (x1 x2 : Int32) : Option (Int32 × Hp) :=
 l_X6_edge_5 N s x1 x2 (-1) 0
def f_X9_box_69 (N : Nat) (s : Hp) (t1 t2 : Int32) : Option (Int32 × Hp) :=
 bd (f_X6_edge N s t1 t2) fun v8 s7 =>
 some (v8, s7)
def f_X9_box_57 (N : Nat) (s : Hp) (x2 t1 : Int32) : Option (Int32 × Hp) :=
 if (irm x2 2) = 1 then (
  f_X9_box_69 N s t1 1)
 else (
  f_X9_box_69 N s t1 0)
def f_X9_box (N : Nat) (s : Hp) (x1 x2 : Int32) : Option (Int32 × Hp) :=
 bd (f_X9_isBelow N s x1 (s 18 4)) fun v2 s1 =>
 if v2 = 0 then (
  some ((-1), s1))
 else (
  bd (f_X9_isBelow N s1 x2 4) fun v4 s3 =>
  if v4 = 0 then (
   some ((-1), s3))
  else (
   bd (f_X6_draw N s3 x1) fun v6 s5 =>
   if x2 < 2 then (
    f_X9_box_57 N s5 x2 0)
   else (
    f_X9_box_57 N s5 x2 1)))
def f_X7_changeBehind_92 (N : Nat) (k6 : Hp → Int32 → Int32 → Int32 → Int32 → Option (Int32 × Hp)) (s : Hp) (x1 x2 x4 x5 : Int32) : Option (Int32 × Hp) :=
 vb (x5 + 1) fun y3 =>
 k6 s x1 x2 x4 y3
def f_X7_changeBehind_54 (N : Nat) (k6 : Hp → Int32 → Int32 → Int32 → Int32 → Option (Int32 × Hp)) (s : Hp) (x1 x2 x4 x5 : Int32) : Option (Int32 × Hp) :=
 ck (inR x5 100) (
 if (s 6 (ix x5)) = x1 then (
  ck (inR x5 100) (
  if (s 8 (ix x5)) < x2 then (
   f_X7_changeBehind_92 N k6 s x1 x2 x4 x5)
  else (
   ck (inR x5 100) (
   vb (imin x4 ((s 8 (ix x5)) + 1)) fun y2 =>
   f_X7_changeBehind_92 N k6 s x1 x2 y2 x5))))
 else (
  f_X7_changeBehind_92 N k6 s x1 x2 x4 x5))
def f_X7_changeBehind_6 (N : Nat) (k6 : Hp → Int32 → Int32 → Int32 → Int32 → Option (Int32 × Hp)) (s : Hp) (x1 x2 x4 x5 : Int32) : Option (Int32 × Hp) :=
 if (s 4 4) ≤ x5 then (
  some (x4, s))
 else (
  ck (inR x5 100) (
  if (s 6 (ix x5)) = x1 then (
   ck (inR x5 100) (
   if (s 7 (ix x5)) ≤ x2 then (
    f_X7_changeBehind_54 N k6 s x1 x2 x4 x5)
   else (
    ck (inR x5 100) (
    vb (imin x4 (s 7 (ix x5))) fun y1 =>
    f_X7_changeBehind_92 N k6 s x1 x2 y1 x5))))
  else (
   f_X7_changeBehind_54 N k6 s x1 x2 x4 x5)))
def l_X7_changeBehind_6 (N : Nat) : Hp → Int32 → Int32 → Int32 → Int32 → Option (Int32 × Hp) := lp (fun _ _ _ _ _ => none) (f_X7_changeBehind_6 N) N
def f_X7_changeBehind (N : Nat) (s : Hp) (x1 x2 x3 : Int32) : Option (Int32 × Hp) :=
 l_X7_changeBehind_6 N s x1 x2 x3 0
def f_X7_changeBehind_b_92 (N : Nat) (k6 : Hp → Int32 → Int32 → Int32 → Int32 → Option (Int32 × Hp)) (s : Hp) (x1 x2 x4 x5 : Int32) : Option (Int32 × Hp) :=
 vb (x5 + 1) fun y3 =>
 k6 s x1 x2 x4 y3
def f_X7_changeBehind_b_54 (N : Nat) (k6 : Hp → Int32 → Int32 → Int32 → Int32 → Option (Int32 × Hp)) (s : Hp) (x1 x2 x4 x5 : Int32) : Option (Int32 × Hp) :=
 ck (inR x5 60) (
 if (s 12 (ix x5)) = x1 then (
  ck (inR x5 60) (
  if (s 14 (ix x5)) < x2 then (
   f_X7_changeBehind_b_92 N k6 s x1 x2 x4 x5)
  else (
   ck (inR x5 60) (
   vb (imin x4 ((s 14 (ix x5)) + 1)) fun y2 =>
   f_X7_changeBehind_b_92 N k6 s x1 x2 y2 x5))))
 else (
  f_X7_changeBehind_b_92 N k6 s x1 x2 x4 x5))
def f_X7_changeBehind_b_6 (N : Nat) (k6 : Hp → Int32 → Int32 → Int32 → Int32 → Option (Int32 × Hp)) (s : Hp) (x1 x2 x4 x5 : Int32) : Option (Int32 × Hp) :=
 if (s 10 4) ≤ x5 then (
  some (x4, s))
 else (
  ck (inR x5 60) (
  if (s 12 (ix x5)) = x1 then (
   ck (inR x5 60) (
   if (s 13 (ix x5)) ≤ x2 then (
    f_X7_changeBehind_b_54 N k6 s x1 x2 x4 x5)
   else (
    ck (inR x5 60) (
    vb (imin x4 (s 13 (ix x5))) fun y1 =>
    f_X7_changeBehind_b_92 N k6 s x1 x2 y1 x5))))
  else (
   f_X7_changeBehind_b_54 N k6 s x1 x2 x4 x5)))
def l_X7_changeBehind_b_6 (N : Nat) : Hp → Int32 → Int32 → Int32 → Int32 → Option (Int32 × Hp) := lp (fun _ _ _ _ _ => none) (f_X7_changeBehind_b_6 N) N
def f_X7_changeBehind_b (N : Nat) (s : Hp) (x1 x2 x3 : Int32) : Option (Int32 × Hp) :=
 l_X7_changeBehind_b_6 N s x1 x2 x3 0
def f_X9_changeBehind (N : Nat) (s : Hp) (x1 x2 x3 : Int32) : Option (Int32 × Hp) :=
 bd (f_X7_changeBehind N s x1 x2 x3) fun v2 s1 =>
 bd (f_X7_changeBehind_b N s1 x1 x2 v2) fun v4 s3 =>
 some (v4, s3)
def f_X7_holds_42 (N : Nat) (k2 : Hp → Int32 → Int32 → Int32 → Option (Int32 × Hp)) (s : Hp) (x1 x2 x3 : Int32) : Option (Int32 × Hp) :=
 vb (x3 + 1) fun y1 =>
 k2 s x1 x2 y1
def f_X7_holds_2 (N : Nat) (k2 : Hp → Int32 → Int32 → Int32 → Option (Int32 × Hp)) (s : Hp) (x1 x2 x3 : Int32) : Option (Int32 × Hp) :=
 if (s 10 4) ≤ x3 then (
  some (0, s))
 else (
  ck (inR x3 60) (
  if (s 12 (ix x3)) = x1 then (
   ck (inR x3 60) (
   if x2 < (s 13 (ix x3)) then (
    f_X7_holds_42 N k2 s x1 x2 x3)
   else (
    ck (inR x3 60) (
    if (s 14 (ix x3)) < x2 then (
     f_X7_holds_42 N k2 s x1 x2 x3)
    else (
     some (1, s))))))
  else (
   f_X7_holds_42 N k2 s x1 x2 x3)))
def l_X7_holds_2 (N : Nat) : Hp → Int32 → Int32 → Int32 → Option (Int32 × Hp) := lp (fun _ _ _ _ => none) (f_X7_holds_2 N) N
def f_X7_holds (N : Nat) (s : Hp) (x1 x2 : Int32) : Option (Int32 × Hp) :=
 l_X7_holds_2 N s x1 x2 0
def f_X7_holds_b_42 (N : Nat) (k2 : Hp → Int32 → Int32 → Int32 → Option (Int32 × Hp)) (s : Hp) (x1 x2 x3 : Int32) : Option (Int32 × Hp) :=
 vb (x3 + 1) fun y1 =>
 k2 s x1 x2 y1
def f_X7_holds_b_2 (N : Nat) (k2 : Hp → Int32 → Int32 → Int32 → Option (Int32 × Hp)) (s : Hp) (x1 x2 x3 : Int32) : Option (Int32 × Hp) :=
 if (s 4 4) ≤ x3 then (
  some (0, s))
 else (
  ck (inR x3 100) (
  if (s 6 (ix x3)) = x1 then (
   ck (inR x3 100) (
   if x2 < (s 7 (ix x3)) then (
    f_X7_holds_b_42 N k2 s x1 x2 x3)
   else (
    ck (inR x3 100) (
    if (s 8 (ix x3)) < x2 then (
     f_X7_holds_b_42 N k2 s x1 x2 x3)
    else (
     some (1, s))))))
  else (
   f_X7_holds_b_42 N k2 s x1 x2 x3)))
def l_X7_holds_b_2 (N : Nat) : Hp → Int32 → Int32 → Int32 → Option (Int32 × Hp) := lp (fun _ _ _ _ => none) (f_X7_holds_b_2 N) N
def f_X7_holds_b (N : Nat) (s : Hp) (x1 x2 : Int32) : Option (Int32 × Hp) :=
 l_X7_holds_b_2 N s x1 x2 0
def f_X9_stateAt (N : Nat) (s : Hp) (x1 x2 : Int32) : Option (Int32 × Hp) :=
 bd (f_X7_holds N s x1 x2) fun v2 s1 =>
 if v2 = 0 then (
  bd (f_X7_holds_b N s1 x1 x2) fun v4 s3 =>
  if v4 = 0 then (
   some (2, s3))
  else (
   some (1, s3)))
 else (
  some (0, s1))
def f_X9_minutes_77 (N : Nat) (k37 : Hp → Int32 → Int32 → Int32 → Int32 → Int32 → Option (Int32 × Hp)) (s : Hp) (x1 x3 x4 x5 x6 x7 : Int32) : Option (Int32 × Hp) :=
 vb (imax (x7 + 1) x6) fun y12 =>
 k37 s x1 x3 x4 x5 y12
def f_X9_minutes_37 (N : Nat) (k37 : Hp → Int32 → Int32 → Int32 → Int32 → Int32 → Option (Int32 × Hp)) (s : Hp) (x1 x3 x4 x5 x7 : Int32) : Option (Int32 × Hp) :=
 if x3 < x7 then (
  some (x5, s))
 else (
  bd (f_X9_changeBehind N s x1 x7 (x3 + 1)) fun v8 s7 =>
  bd (f_X9_stateAt N s7 x1 x7) fun v10 s9 =>
  if v10 = x4 then (
   vb (x5 + (v8 - x7)) fun y11 =>
   f_X9_minutes_77 N k37 s9 x1 x3 x4 y11 v8 x7)
  else (
   f_X9_minutes_77 N k37 s9 x1 x3 x4 x5 v8 x7))
def l_X9_minutes_37 (N : Nat) : Hp → Int32 → Int32 → Int32 → Int32 → Int32 → Option (Int32 × Hp) := lp (fun _ _ _ _ _ _ => none) (f_X9_minutes_37 N) N
def f_X9_minutes (N : Nat) (s : Hp) (x1 x2 x3 x4 : Int32) : Option (Int32 × Hp) :=
 bd (f_X9_isBelow N s x1 16) fun v2 s1 =>
 if v2 = 0 then (
  some ((-1), s1))
 else (
  bd (f_X9_isStretch N s1 x2 x3) fun v4 s3 =>
  if v4 = 0 then (
   some ((-1), s3))
  else (
   bd (f_X9_isBelow N s3 x4 3) fun v6 s5 =>
   if v6 = 0 then (
    some ((-1), s5))
   else (
    l_X9_minutes_37 N s5 x1 x3 x4 0 x2)))
def f_X9_blind_69 (N : Nat) (k28 : Hp → Int32 → Int32 → Int32 → Int32 → Option (Int32 × Hp)) (s : Hp) (x1 x3 x4 x5 x6 : Int32) : Option (Int32 × Hp) :=
 vb (imax (x6 + 1) x5) fun y10 =>
 k28 s x1 x3 x4 y10
def f_X9_blind_28 (N : Nat) (k28 : Hp → Int32 → Int32 → Int32 → Int32 → Option (Int32 × Hp)) (s : Hp) (x1 x3 x4 x6 : Int32) : Option (Int32 × Hp) :=
 if x3 < x6 then (
  some (x4, s))
 else (
  bd (f_X9_changeBehind N s x1 x6 (x3 + 1)) fun v6 s5 =>
  bd (f_X9_stateAt N s5 x1 x6) fun v8 s7 =>
  if v8 = 2 then (
   vb (imax x4 (v6 - x6)) fun y9 =>
   f_X9_blind_69 N k28 s7 x1 x3 y9 v6 x6)
  else (
   f_X9_blind_69 N k28 s7 x1 x3 x4 v6 x6))
def l_X9_blind_28 (N : Nat) : Hp → Int32 → Int32 → Int32 → Int32 → Option (Int32 × Hp) := lp (fun _ _ _ _ _ => none) (f_X9_blind_28 N) N
def f_X9_blind (N : Nat) (s : Hp) (x1 x2 x3 : Int32) : Option (Int32 × Hp) :=
 bd (f_X9_isBelow N s x1 16) fun v2 s1 =>
 if v2 = 0 then (
  some ((-1), s1))
 else (
  bd (f_X9_isStretch N s1 x2 x3) fun v4 s3 =>
  if v4 = 0 then (
   some ((-1), s3))
  else (
   l_X9_blind_28 N s3 x1 x3 0 x2))
def f_X8_add_3 (N : Nat) (k3 : Hp → Int32 → Int32 → Option (Int32 × Hp)) (s : Hp) (x1 x2 : Int32) : Option (Int32 × Hp) :=
 if x2 < 0 then (
  some (0, s))
 else (
  if 100 ≤ (s 24 1) then (
   some (0, s))
  else (
   ck (inR (s 24 1) 100) (sb (hset s 25 (ix (s 24 1)) ((ushr x1 x2) &&& 255)) fun s1 =>
   sb (hset s1 24 1 ((s1 24 1) + 1)) fun s2 =>
   vb (x2 + (-8)) fun y3 =>
   k3 s2 x1 y3)))
def l_X8_add_3 (N : Nat) : Hp → Int32 → Int32 → Option (Int32 × Hp) := lp (fun _ _ _ => none) (f_X8_add_3 N) N
def f_X8_add (N : Nat) (s : Hp) (x1 : Int32) : Option (Int32 × Hp) :=
 l_X8_add_3 N s x1 24
def f_X9_feed (N : Nat) (s : Hp) (x1 x2 x3 x4 x5 : Int32) : Option (Int32 × Hp) :=
 if ((s 24 1) + 20) ≤ 100 then (
  bd (f_X8_add N s x1) fun v2 s1 =>
  bd (f_X8_add N s1 x2) fun v4 s3 =>
  bd (f_X8_add N s3 x3) fun v6 s5 =>
  bd (f_X8_add N s5 x4) fun v8 s7 =>
  bd (f_X8_add N s7 x5) fun v10 s9 =>
  some (s9 24 1, s9))
 else (
  some ((-1), s))
def f_X9_end (N : Nat) (s : Hp) (x1 : Int32) : Option (Int32 × Hp) :=
 if x1 < 0 then (
  some ((-1), s))
 else (
  if x1 ≤ (s 24 1) then (
   sb (hset s 24 1 x1) fun s1 =>
   some (x1, s1))
  else (
   some ((-1), s)))
def f_X8_kindOf_40 (N : Nat) (s : Hp) (x0 : Int32) : Option (Int32 × Hp) :=
 if x0 = 45 then (
  some (3, s))
 else (
  if x0 = 59 then (
   some (4, s))
  else (
   some (5, s)))
def f_X8_kindOf_26 (N : Nat) (s : Hp) (x0 : Int32) : Option (Int32 × Hp) :=
 if x0 < 48 then (
  f_X8_kindOf_40 N s x0)
 else (
  if 57 < x0 then (
   f_X8_kindOf_40 N s x0)
  else (
   some (2, s)))
def f_X8_kindOf_12 (N : Nat) (s : Hp) (x0 : Int32) : Option (Int32 × Hp) :=
 if x0 < 65 then (
  f_X8_kindOf_26 N s x0)
 else (
  if 90 < x0 then (
   f_X8_kindOf_26 N s x0)
  else (
   some (1, s)))
def f_X8_kindOf (N : Nat) (s : Hp) (x0 : Int32) : Option (Int32 × Hp) :=
 if x0 < 97 then (
  f_X8_kindOf_12 N s x0)
 else (
  if x0 ≤ 122 then (
   some (1, s))
  else (
   f_X8_kindOf_12 N s x0))
def f_X8_step_123 (N : Nat) (k123 : Hp → Int32 → Option (Int32 × Hp)) (s : Hp) (x1 : Int32) : Option (Int32 × Hp) :=
 if x1 = 0 then (
  some (0, s))
 else (
  if (s 24 1) ≤ (s 24 3) then (
   some (0, s))
  else (
   ck (inR (s 24 3) 100) (
   bd (f_X8_kindOf N s (s 25 (ix (s 24 3)))) fun v8 s7 =>
   if v8 = (s7 24 4) then (
    sb (hset s7 24 3 ((s7 24 3) + 1)) fun s9 =>
    k123 s9 x1)
   else (
    some (0, s7)))))
def l_X8_step_123 (N : Nat) : Hp → Int32 → Option (Int32 × Hp) := lp (fun _ _ => none) (f_X8_step_123 N) N
def f_X8_step_122 (N : Nat) (s : Hp) (t0 : Int32) : Option (Int32 × Hp) :=
 l_X8_step_123 N s t0
def f_X8_step_117 (N : Nat) (s : Hp) : Option (Int32 × Hp) :=
 f_X8_step_122 N s 1
def f_X8_step_98 (N : Nat) (s : Hp) (t1 : Int32) : Option (Int32 × Hp) :=
 sb (hset s 24 3 t1) fun s6 =>
 if (s6 24 4) = 1 then (
  f_X8_step_117 N s6)
 else (
  if (s6 24 4) = 2 then (
   f_X8_step_117 N s6)
  else (
   f_X8_step_122 N s6 0))
def f_X8_step_74 (N : Nat) (s : Hp) (t1 : Int32) : Option (Int32 × Hp) :=
 sb (hset s 24 4 t1) fun s5 =>
 if (s5 24 4) = 0 then (
  f_X8_step_98 N s5 (s5 24 2))
 else (
  f_X8_step_98 N s5 ((s5 24 2) + 1))
def f_X8_step_46 (N : Nat) (s : Hp) : Option (Int32 × Hp) :=
 if (s 24 1) ≤ (s 24 2) then (
  f_X8_step_74 N s 0)
 else (
  ck (inR (s 24 2) 100) (
  bd (f_X8_kindOf N s (s 25 (ix (s 24 2)))) fun v4 s3 =>
  f_X8_step_74 N s3 v4))
def f_X8_step_8 (N : Nat) (k8 : Hp → Option (Int32 × Hp)) (s : Hp) : Option (Int32 × Hp) :=
 if (s 24 1) ≤ (s 24 2) then (
  f_X8_step_46 N s)
 else (
  ck (inR (s 24 2) 100) (
  if (s 25 (ix (s 24 2))) = 32 then (
   sb (hset s 24 2 ((s 24 2) + 1)) fun s2 =>
   k8 s2)
  else (
   f_X8_step_46 N s)))
def l_X8_step_8 (N : Nat) : Hp → Option (Int32 × Hp) := lp (fun _ => none) (f_X8_step_8 N) N
def f_X8_step (N : Nat) (s : Hp) : Option (Int32 × Hp) :=
 sb (hset s 24 2 (s 24 3)) fun s1 =>
 l_X8_step_8 N s1
def f_X8_rewind (N : Nat) (s : Hp) : Option (Int32 × Hp) :=
 sb (hset s 24 3 0) fun s1 =>
 bd (f_X8_step N s1) fun v3 s2 =>
 some (0, s2)
def f_X8_spells_20 (N : Nat) (k20 : Hp → Int32 → Option (Int32 × Hp)) (s : Hp) (x2 : Int32) : Option (Int32 × Hp) :=
 if 4 ≤ x2 then (
  some (1, s))
 else (
  ck (inR ((s 24 2) + x2) 100) (
  ck (inR x2 4) (
  if (s 25 (ix ((s 24 2) + x2))) = (sAt 0 (ix x2)) then (
   vb (x2 + 1) fun y1 =>
   k20 s y1)
  else (
   some (0, s)))))
def l_X8_spells_20 (N : Nat) : Hp → Int32 → Option (Int32 × Hp) := lp (fun _ _ => none) (f_X8_spells_20 N) N
def f_X8_spells (N : Nat) (s : Hp) : Option (Int32 × Hp) :=
 if ((s 24 3) - (s 24 2)) = 4 then (
  l_X8_spells_20 N s 0)
 else (
  some (0, s))
def f_X8_spells_b_20 (N : Nat) (k20 : Hp → Int32 → Option (Int32 × Hp)) (s : Hp) (x2 : Int32) : Option (Int32 × Hp) :=
 if 4 ≤ x2 then (
  some (1, s))
 else (
  ck (inR ((s 24 2) + x2) 100) (
  ck (inR x2 4) (
  if (s 25 (ix ((s 24 2) + x2))) = (sAt 1 (ix x2)) then (
   vb (x2 + 1) fun y1 =>
   k20 s y1)
  else (
   some (0, s)))))
def l_X8_spells_b_20 (N : Nat) : Hp → Int32 → Option (Int32 × Hp) := lp (fun _ _ => none) (f_X8_spells_b_20 N) N
def f_X8_spells_b (N : Nat) (s : Hp) : Option (Int32 × Hp) :=
 if ((s 24 3) - (s 24 2)) = 4 then (
  l_X8_spells_b_20 N s 0)
 else (
  some (0, s))
def f_X8_spells_c_20 (N : Nat) (k20 : Hp → Int32 → Option (Int32 × Hp)) (s : Hp) (x2 : Int32) : Option (Int32 × Hp) :=
 if 4 ≤ x2 then (
  some (1, s))
 else (
  ck (inR ((s 24 2) + x2) 100) (
  ck (inR x2 4) (
  if (s 25 (ix ((s 24 2) + x2))) = (sAt 2 (ix x2)) then (
   vb (x2 + 1) fun y1 =>
   k20 s y1)
  else (
   some (0, s)))))
def l_X8_spells_c_20 (N : Nat) : Hp → Int32 → Option (Int32 × Hp) := lp (fun _ _ => none) (f_X8_spells_c_20 N) N
def f_X8_spells_c (N : Nat) (s : Hp) : Option (Int32 × Hp) :=
 if ((s 24 3) - (s 24 2)) = 4 then (
  l_X8_spells_c_20 N s 0)
 else (
  some (0, s))
def f_X8_spells_d_20 (N : Nat) (k20 : Hp → Int32 → Option (Int32 × Hp)) (s : Hp) (x2 : Int32) : Option (Int32 × Hp) :=
 if 3 ≤ x2 then (
  some (1, s))
 else (
  ck (inR ((s 24 2) + x2) 100) (
  ck (inR x2 3) (
  if (s 25 (ix ((s 24 2) + x2))) = (sAt 3 (ix x2)) then (
   vb (x2 + 1) fun y1 =>
   k20 s y1)
  else (
   some (0, s)))))
def l_X8_spells_d_20 (N : Nat) : Hp → Int32 → Option (Int32 × Hp) := lp (fun _ _ => none) (f_X8_spells_d_20 N) N
def f_X8_spells_d (N : Nat) (s : Hp) : Option (Int32 × Hp) :=
 if ((s 24 3) - (s 24 2)) = 3 then (
  l_X8_spells_d_20 N s 0)
 else (
  some (0, s))
def f_X5_wordOf (N : Nat) (s : Hp) : Option (Int32 × Hp) :=
 bd (f_X8_spells N s) fun v2 s1 =>
 if v2 = 0 then (
  bd (f_X8_spells_b N s1) fun v4 s3 =>
  if v4 = 0 then (
   bd (f_X8_spells_c N s3) fun v6 s5 =>
   if v6 = 0 then (
    bd (f_X8_spells_d N s5) fun v8 s7 =>
    if v8 = 0 then (
     some ((-1), s7))
    else (
     some (3, s7)))
   else (
    some (2, s5)))
  else (
   some (1, s3)))
 else (
  some (0, s1))
def f_X8_value_7 (N : Nat) (k7 : Hp → Int32 → Int32 → Option (Int32 × Hp)) (s : Hp) (x1 x2 : Int32) : Option (Int32 × Hp) :=
 if (s 24 3) ≤ x2 then (
  some (x1, s))
 else (
  ck (inR x2 100) (
  vb (imin 10000 (((x1 * 10) + (s 25 (ix x2))) - 48)) fun y2 =>
  vb (x2 + 1) fun y3 =>
  k7 s y2 y3))
def l_X8_value_7 (N : Nat) : Hp → Int32 → Int32 → Option (Int32 × Hp) := lp (fun _ _ _ => none) (f_X8_value_7 N) N
def f_X8_value (N : Nat) (s : Hp) : Option (Int32 × Hp) :=
 vb (s 24 2) fun y1 =>
 l_X8_value_7 N s 0 y1
def f_X5_blame (N : Nat) (s : Hp) (x2 : Int32) : Option (Int32 × Hp) :=
 sb (hset s 26 2 x2) fun s1 =>
 sb (hset s1 26 3 (s1 24 2)) fun s2 =>
 some (0, s2)
def f_X5_readNumber_42 (N : Nat) (s : Hp) : Option (Int32 × Hp) :=
 bd (f_X5_blame N s 3) fun v9 s8 =>
 some (0, s8)
def f_X5_readNumber (N : Nat) (s : Hp) (x2 x3 x4 : Int32) : Option (Int32 × Hp) :=
 if (s 26 2) = 0 then (
  if (s 24 4) = 2 then (
   bd (f_X8_value N s) fun v2 s1 =>
   if v2 < x3 then (
    f_X5_readNumber_42 N s1)
   else (
    if v2 ≤ x4 then (
     ck (inR x2 10) (sb (hset s1 27 (ix x2) v2) fun s3 =>
     bd (f_X8_step N s3) fun v5 s4 =>
     some (0, s4)))
    else (
     f_X5_readNumber_42 N s1)))
  else (
   bd (f_X5_blame N s 1) fun v7 s6 =>
   some (0, s6)))
 else (
  some (0, s))
def f_X5_readSign (N : Nat) (s : Hp) (x2 : Int32) : Option (Int32 × Hp) :=
 if (s 26 2) = 0 then (
  if (s 24 4) = x2 then (
   bd (f_X8_step N s) fun v2 s1 =>
   some (0, s1))
  else (
   bd (f_X5_blame N s 1) fun v4 s3 =>
   some (0, s3)))
 else (
  some (0, s))
def f_X5_readRange_37 (N : Nat) (s : Hp) (x2 t0 : Int32) : Option (Int32 × Hp) :=
 ck (inR x2 5) (
 bd (f_X5_readNumber N s ((2 * x2) + 1) t0 (gG (ix x2))) fun v6 s5 =>
 some (0, s5))
def f_X5_readRange (N : Nat) (s : Hp) (x2 : Int32) : Option (Int32 × Hp) :=
 ck (inR x2 5) (
 bd (f_X5_readNumber N s (2 * x2) 0 (gG (ix x2))) fun v2 s1 =>
 bd (f_X5_readSign N s1 3) fun v4 s3 =>
 if x2 = 1 then (
  f_X5_readRange_37 N s3 x2 0)
 else (
  ck (inR (2 * x2) 10) (
  f_X5_readRange_37 N s3 x2 (s3 27 (ix (2 * x2))))))
def f_X5_readClause_72 (N : Nat) (s : Hp) : Option (Int32 × Hp) :=
 bd (f_X5_readSign N s 4) fun v15 s14 =>
 some (0, s14)
def f_X5_readClause (N : Nat) (s : Hp) : Option (Int32 × Hp) :=
 bd (f_X5_wordOf N s) fun v2 s1 =>
 if v2 = (-1) then (
  bd (f_X5_blame N s1 1) fun v13 s12 =>
  some (0, s12))
 else (
  if (((s1 26 1) >>> (v2 &&& 31)) &&& 1) = 0 then (
   sb (hset s1 26 1 ((s1 26 1) ||| (1 <<< (v2 &&& 31)))) fun s3 =>
   bd (f_X8_step N s3) fun v5 s4 =>
   bd (f_X5_readRange N s4 v2) fun v7 s6 =>
   if v2 = 3 then (
    bd (f_X5_readRange N s6 4) fun v9 s8 =>
    f_X5_readClause_72 N s8)
   else (
    f_X5_readClause_72 N s6))
  else (
   bd (f_X5_blame N s1 2) fun v11 s10 =>
   some (0, s10)))
def f_X5_read_58 (N : Nat) (k58 : Hp → Int32 → Option (Int32 × Hp)) (s : Hp) (x2 : Int32) : Option (Int32 × Hp) :=
 if 4 < x2 then (
  some (0, s))
 else (
  if (s 26 2) = 0 then (
   if (s 24 4) = 0 then (
    some (0, s))
   else (
    bd (f_X5_readClause N s) fun v10 s9 =>
    vb (x2 + 1) fun y11 =>
    k58 s9 y11))
  else (
   some (0, s)))
def l_X5_read_58 (N : Nat) : Hp → Int32 → Option (Int32 × Hp) := lp (fun _ _ => none) (f_X5_read_58 N) N
def f_X5_read_17 (N : Nat) (k17 : Hp → Int32 → Option (Int32 × Hp)) (s : Hp) (x2 : Int32) : Option (Int32 × Hp) :=
 if 5 ≤ x2 then (
  bd (f_X8_rewind N s) fun v5 s4 =>
  l_X5_read_58 N s4 0)
 else (
  ck (inR (2 * x2) 10) (sb (hset s 27 (ix (2 * x2)) 0) fun s6 =>
  ck (inR x2 5) (
  ck (inR ((2 * x2) + 1) 10) (sb (hset s6 27 (ix ((2 * x2) + 1)) (gG (ix x2))) fun s7 =>
  vb (x2 + 1) fun y8 =>
  k17 s7 y8))))
def l_X5_read_17 (N : Nat) : Hp → Int32 → Option (Int32 × Hp) := lp (fun _ _ => none) (f_X5_read_17 N) N
def f_X5_read (N : Nat) (s : Hp) : Option (Int32 × Hp) :=
 sb (hset s 26 2 0) fun s1 =>
 sb (hset s1 26 3 (-1)) fun s2 =>
 sb (hset s2 26 1 0) fun s3 =>
 l_X5_read_17 N s3 0
def f_X1_add_20 (N : Nat) (k20 : Hp → Int32 → Option (Int32 × Hp)) (s : Hp) (x2 : Int32) : Option (Int32 × Hp) :=
 if 10 ≤ x2 then (
  sb (hset s 28 1 ((s 28 1) + 1)) fun s1 =>
  some ((s1 28 1) - 1, s1))
 else (
  ck (inR (s 28 1) 10) (
  ck (inR x2 10) (
  ck (inR x2 10) (sb (hset s (118 + ix (s 28 1)) (ix x2) (s 27 (ix x2))) fun s3 =>
  vb (x2 + 1) fun y4 =>
  k20 s3 y4))))
def l_X1_add_20 (N : Nat) : Hp → Int32 → Option (Int32 × Hp) := lp (fun _ _ => none) (f_X1_add_20 N) N
def f_X1_add (N : Nat) (s : Hp) : Option (Int32 × Hp) :=
 if 10 ≤ (s 28 1) then (
  some ((-1), s))
 else (
  if 10 ≤ 10 then (
   l_X1_add_20 N s 0)
  else (
   some ((-1), s)))
def f_X9_licence (N : Nat) (s : Hp) : Option (Int32 × Hp) :=
 if (s 28 1) < 10 then (
  bd (f_X5_read N s) fun v2 s1 =>
  sb (hset s1 24 1 0) fun s3 =>
  if (s3 26 2) = 0 then (
   bd (f_X1_add N s3) fun v5 s4 =>
   some (v5, s4))
  else (
   some ((-1), s3)))
 else (
  some ((-1), s))
def f_X9_fault (N : Nat) (s : Hp) (x1 : Int32) : Option (Int32 × Hp) :=
 if x1 = 0 then (
  some (s 26 2, s))
 else (
  if x1 = 1 then (
   some (s 26 3, s))
  else (
   some ((-1), s)))
def f_X1_allows (N : Nat) (s : Hp) (x1 x2 x3 x4 : Int32) : Option (Int32 × Hp) :=
 ck (inR x1 10) (
 ck (inR (2 * x2) 10) (
 if x3 < (s (118 + ix x1) (ix (2 * x2))) then (
  some (0, s))
 else (
  ck (inR x1 10) (
  ck (inR ((2 * x2) + 1) 10) (
  if (s (118 + ix x1) (ix ((2 * x2) + 1))) < x4 then (
   some (0, s))
  else (
   some (1, s)))))))
def f_X1_judgeFields_107 (N : Nat) (k43 : Hp → Int32 → Int32 → Int32 → Int32 → Int32 → Option (Int32 × Hp)) (s : Hp) (x1 x5 x6 x8 t0 t1 : Int32) : Option (Int32 × Hp) :=
 vb (t0 &&& t1) fun y9 =>
 vb (x8 + 1) fun y10 =>
 k43 s x1 x5 x6 y9 y10
def f_X1_judgeFields_88 (N : Nat) (k43 : Hp → Int32 → Int32 → Int32 → Int32 → Int32 → Option (Int32 × Hp)) (s : Hp) (x1 x5 x7 x8 x9 t0 t1 : Int32) : Option (Int32 × Hp) :=
 vb (t0 ||| t1) fun y8 =>
 ck (inR x8 32) (
 if x9 = (s 23 (ix x8)) then (
  f_X1_judgeFields_107 N k43 s x1 x5 y8 x8 x7 1)
 else (
  f_X1_judgeFields_107 N k43 s x1 x5 y8 x8 x7 0))
def f_X1_judgeFields_74 (N : Nat) (k43 : Hp → Int32 → Int32 → Int32 → Int32 → Int32 → Option (Int32 × Hp)) (s : Hp) (x1 x5 x6 x7 x8 t0 : Int32) : Option (Int32 × Hp) :=
 if t0 = 0 then (
  f_X1_judgeFields_88 N k43 s x1 x5 x7 x8 t0 x6 0)
 else (
  f_X1_judgeFields_88 N k43 s x1 x5 x7 x8 t0 x6 1)
def f_X1_judgeFields_43 (N : Nat) (k43 : Hp → Int32 → Int32 → Int32 → Int32 → Int32 → Option (Int32 × Hp)) (s : Hp) (x1 x5 x6 x7 x8 : Int32) : Option (Int32 × Hp) :=
 if 32 ≤ x8 then (
  if x6 = 0 then (
   some (4, s))
  else (
   if x7 = 0 then (
    some (5, s))
   else (
    some (0, s))))
 else (
  bd (f_X1_allows N s x1 4 x8 x8) fun v7 s6 =>
  if v7 = 0 then (
   f_X1_judgeFields_74 N k43 s6 x1 x5 x6 x7 x8 0)
  else (
   ck (inR x8 32) (
   f_X1_judgeFields_74 N k43 s6 x1 x5 x6 x7 x8 ((s6 23 (ix x8)) &&& x5))))
def l_X1_judgeFields_43 (N : Nat) : Hp → Int32 → Int32 → Int32 → Int32 → Int32 → Option (Int32 × Hp) := lp (fun _ _ _ _ _ _ => none) (f_X1_judgeFields_43 N) N
def f_X1_judgeFields (N : Nat) (s : Hp) (x1 : Int32) : Option (Int32 × Hp) :=
 ck (inR x1 10) (
 ck (inR 6 10) (
 vb (s (118 + ix x1) (ix 6)) fun y2 =>
 ck (inR x1 10) (
 ck (inR 7 10) (
 vb (s (118 + ix x1) (ix 7)) fun y4 =>
 vb ((ushr (-1) (31 - (y4 - y2))) <<< (y2 &&& 31)) fun y5 =>
 l_X1_judgeFields_43 N s x1 y5 0 1 0))))
def f_J9_floorMod_7cf53 (N : Nat) (s : Hp) (x0 x1 : Int32) : Option (Int32 × Hp) :=
 ck (ne0 x1) (
 vb (irm x0 x1) fun y1 =>
 if 0 ≤ (x0 ^^^ x1) then (
  some (y1, s))
 else (
  if y1 = 0 then (
   some (y1, s))
  else (
   some (y1 + x1, s))))
def f_X1_allowsTime_56 (N : Nat) (s : Hp) : Option (Int32 × Hp) :=
 some (1, s)
def f_X1_allowsTime (N : Nat) (s : Hp) (x1 x2 x3 : Int32) : Option (Int32 × Hp) :=
 ck (inR x1 10) (
 ck (inR 2 10) (
 vb (s (118 + ix x1) (ix 2)) fun y2 =>
 ck (inR x1 10) (
 ck (inR 3 10) (
 bd (f_J9_floorMod_7cf53 N s ((s (118 + ix x1) (ix 3)) - y2) 1440) fun v5 s4 =>
 if v5 = 1439 then (
  f_X1_allowsTime_56 N s4)
 else (
  bd (f_J9_floorMod_7cf53 N s4 (x2 - y2) 1440) fun v7 s6 =>
  if v5 < ((v7 + x3) - x2) then (
   some (0, s6))
  else (
   f_X1_allowsTime_56 N s6))))))
def f_X1_judge_41 (N : Nat) (k41 : Hp → Int32 → Int32 → Option (Int32 × Hp)) (s : Hp) (x1 x4 : Int32) : Option (Int32 × Hp) :=
 if (s 21 2) ≤ x4 then (
  bd (f_X1_judgeFields N s x1) fun v6 s5 =>
  some (v6, s5))
 else (
  ck (inR x4 60) (
  vb (s 22 (ix x4)) fun y7 =>
  ck (inR y7 60) (
  ck (inR y7 60) (
  bd (f_X1_allowsTime N s x1 (s 13 (ix y7)) (s 14 (ix y7))) fun v9 s8 =>
  if v9 = 0 then (
   some (3, s8))
  else (
   vb (x4 + 1) fun y10 =>
   k41 s8 x1 y10)))))
def l_X1_judge_41 (N : Nat) : Hp → Int32 → Int32 → Option (Int32 × Hp) := lp (fun _ _ _ => none) (f_X1_judge_41 N) N
def f_X1_judge (N : Nat) (s : Hp) (x1 : Int32) : Option (Int32 × Hp) :=
 bd (f_X1_allows N s x1 0 (s 21 3) (s 21 3)) fun v2 s1 =>
 if v2 = 0 then (
  some (1, s1))
 else (
  bd (f_X1_allows N s1 x1 2 (s1 21 6) (s1 21 7)) fun v4 s3 =>
  if v4 = 0 then (
   some (2, s3))
  else (
   l_X1_judge_41 N s3 x1 0))
def f_X9_fits (N : Nat) (s : Hp) (x1 x2 : Int32) : Option (Int32 × Hp) :=
 bd (f_X9_isBelow N s x1 (s 18 4)) fun v2 s1 =>
 if v2 = 0 then (
  some ((-1), s1))
 else (
  bd (f_X9_isBelow N s1 x2 (s1 28 1)) fun v4 s3 =>
  if v4 = 0 then (
   some ((-1), s3))
  else (
   bd (f_X6_draw N s3 x1) fun v6 s5 =>
   bd (f_X1_judge N s5 x2) fun v8 s7 =>
   some (v8, s7)))
def f_X1_choose_48 (N : Nat) (k9 : Hp → Int32 → Int32 → Int32 → Option (Int32 × Hp)) (s : Hp) (x3 x4 x5 : Int32) : Option (Int32 × Hp) :=
 vb (x5 + 1) fun y4 =>
 k9 s x3 x4 y4
def f_X1_choose_9 (N : Nat) (k9 : Hp → Int32 → Int32 → Int32 → Option (Int32 × Hp)) (s : Hp) (x3 x4 x5 : Int32) : Option (Int32 × Hp) :=
 if (s 28 1) ≤ x5 then (
  some (x3, s))
 else (
  bd (f_X1_judge N s x5) fun v2 s1 =>
  vb (irm (6 - v2) 6) fun y3 =>
  if x4 ≤ y3 then (
   f_X1_choose_48 N k9 s1 x3 x4 x5)
  else (
   f_X1_choose_48 N k9 s1 x5 y3 x5))
def l_X1_choose_9 (N : Nat) : Hp → Int32 → Int32 → Int32 → Option (Int32 × Hp) := lp (fun _ _ _ _ => none) (f_X1_choose_9 N) N
def f_X1_choose (N : Nat) (s : Hp) : Option (Int32 × Hp) :=
 l_X1_choose_9 N s (-1) 6 0
def f_X9_best (N : Nat) (s : Hp) (x1 x2 : Int32) : Option (Int32 × Hp) :=
 bd (f_X9_isBelow N s x1 (s 18 4)) fun v2 s1 =>
 if v2 = 0 then (
  some ((-1), s1))
 else (
  bd (f_X9_isBelow N s1 x2 2) fun v4 s3 =>
  if v4 = 0 then (
   some ((-1), s3))
  else (
   if (s3 28 1) = 0 then (
    some ((-1), s3))
   else (
    bd (f_X6_draw N s3 x1) fun v6 s5 =>
    bd (f_X1_choose N s5) fun v8 s7 =>
    if x2 = 0 then (
     some (v8, s7))
    else (
     bd (f_X1_judge N s7 v8) fun v10 s9 =>
     some (v10, s9)))))
def f_X9_wanderers_83 (N : Nat) (k4 : Hp → Int32 → Int32 → Option (Int32 × Hp)) (s : Hp) (x1 x2 : Int32) : Option (Int32 × Hp) :=
 vb (x2 + 1) fun y8 =>
 k4 s x1 y8
def f_X9_wanderers_80 (N : Nat) (k4 : Hp → Int32 → Int32 → Option (Int32 × Hp)) (s : Hp) (x1 x2 : Int32) : Option (Int32 × Hp) :=
 vb (x1 + 1) fun y7 =>
 f_X9_wanderers_83 N k4 s y7 x2
def f_X9_wanderers_4 (N : Nat) (k4 : Hp → Int32 → Int32 → Option (Int32 × Hp)) (s : Hp) (x1 x2 : Int32) : Option (Int32 × Hp) :=
 if (s 18 4) ≤ x2 then (
  some (x1, s))
 else (
  bd (f_X6_draw N s x2) fun v2 s1 =>
  bd (f_X1_choose N s1) fun v4 s3 =>
  if v4 = (-1) then (
   f_X9_wanderers_80 N k4 s3 x1 x2)
  else (
   bd (f_X1_judge N s3 v4) fun v6 s5 =>
   if v6 = 0 then (
    f_X9_wanderers_83 N k4 s5 x1 x2)
   else (
    f_X9_wanderers_80 N k4 s5 x1 x2)))
def l_X9_wanderers_4 (N : Nat) : Hp → Int32 → Int32 → Option (Int32 × Hp) := lp (fun _ _ _ => none) (f_X9_wanderers_4 N) N
def f_X9_wanderers (N : Nat) (s : Hp) : Option (Int32 × Hp) :=
 l_X9_wanderers_4 N s 0 0
def f_X3_lay_17 (N : Nat) (k17 : Hp → Int32 → Int32 → Int32 → Option (Int32 × Hp)) (s : Hp) (x1 x3 x4 : Int32) : Option (Int32 × Hp) :=
 if (s 30 5) ≤ x4 then (
  some (0, s))
 else (
  ck (inR x4 4) (sb (hset s 31 (ix x4) (x1 + (x4 * x3))) fun s3 =>
  vb (x4 + 1) fun y4 =>
  k17 s3 x1 x3 y4))
def l_X3_lay_17 (N : Nat) : Hp → Int32 → Int32 → Int32 → Option (Int32 × Hp) := lp (fun _ _ _ _ => none) (f_X3_lay_17 N) N
def f_X3_lay (N : Nat) (s : Hp) (x1 x2 x3 : Int32) : Option (Int32 × Hp) :=
 sb (hset s 30 5 (imin x2 4)) fun s1 =>
 sb (hset s1 30 6 x3) fun s2 =>
 l_X3_lay_17 N s2 x1 x3 0
def f_X7_latestAhead_54 (N : Nat) (k5 : Hp → Int32 → Int32 → Int32 → Int32 → Option (Int32 × Hp)) (s : Hp) (x1 x2 x3 x4 : Int32) : Option (Int32 × Hp) :=
 vb (x4 + 1) fun y2 =>
 k5 s x1 x2 x3 y2
def f_X7_latestAhead_5 (N : Nat) (k5 : Hp → Int32 → Int32 → Int32 → Int32 → Option (Int32 × Hp)) (s : Hp) (x1 x2 x3 x4 : Int32) : Option (Int32 × Hp) :=
 if (s 4 4) ≤ x4 then (
  some (x3, s))
 else (
  ck (inR x4 100) (
  if (s 6 (ix x4)) = x1 then (
   ck (inR x4 100) (
   if x2 ≤ (s 7 (ix x4)) then (
    f_X7_latestAhead_54 N k5 s x1 x2 x3 x4)
   else (
    ck (inR x4 100) (
    vb (imax x3 (imin (s 8 (ix x4)) (x2 - 1))) fun y1 =>
    f_X7_latestAhead_54 N k5 s x1 x2 y1 x4))))
  else (
   f_X7_latestAhead_54 N k5 s x1 x2 x3 x4)))
def l_X7_latestAhead_5 (N : Nat) : Hp → Int32 → Int32 → Int32 → Int32 → Option (Int32 × Hp) := lp (fun _ _ _ _ _ => none) (f_X7_latestAhead_5 N) N
def f_X7_latestAhead (N : Nat) (s : Hp) (x1 x2 : Int32) : Option (Int32 × Hp) :=
 l_X7_latestAhead_5 N s x1 x2 (-1) 0
def f_X3_isOneOfOldest_83 (N : Nat) (k6 : Hp → Int32 → Int32 → Int32 → Int32 → Int32 → Option (Int32 × Hp)) (s : Hp) (x1 x2 x3 x4 x5 : Int32) : Option (Int32 × Hp) :=
 vb (x5 + 1) fun y6 =>
 k6 s x1 x2 x3 x4 y6
def f_X3_isOneOfOldest_64 (N : Nat) (k6 : Hp → Int32 → Int32 → Int32 → Int32 → Int32 → Option (Int32 × Hp)) (s : Hp) (x1 x2 x3 x4 x5 t0 : Int32) : Option (Int32 × Hp) :=
 if t0 = 0 then (
  f_X3_isOneOfOldest_83 N k6 s x1 x2 x3 x4 x5)
 else (
  if ((x3 >>> (x5 &&& 31)) &&& 1) = 0 then (
   f_X3_isOneOfOldest_83 N k6 s x1 x2 x3 x4 x5)
  else (
   vb (x4 + 1) fun y5 =>
   f_X3_isOneOfOldest_83 N k6 s x1 x2 x3 y5 x5))
def f_X3_isOneOfOldest_59 (N : Nat) (k6 : Hp → Int32 → Int32 → Int32 → Int32 → Int32 → Option (Int32 × Hp)) (s : Hp) (x1 x2 x3 x4 x5 : Int32) : Option (Int32 × Hp) :=
 f_X3_isOneOfOldest_64 N k6 s x1 x2 x3 x4 x5 1
def f_X3_isOneOfOldest_63 (N : Nat) (k6 : Hp → Int32 → Int32 → Int32 → Int32 → Int32 → Option (Int32 × Hp)) (s : Hp) (x1 x2 x3 x4 x5 : Int32) : Option (Int32 × Hp) :=
 f_X3_isOneOfOldest_64 N k6 s x1 x2 x3 x4 x5 0
def f_X3_isOneOfOldest_6 (N : Nat) (k6 : Hp → Int32 → Int32 → Int32 → Int32 → Int32 → Option (Int32 × Hp)) (s : Hp) (x1 x2 x3 x4 x5 : Int32) : Option (Int32 × Hp) :=
 if 16 ≤ x5 then (
  if ((x3 >>> (x2 &&& 31)) &&& 1) = 0 then (
   some (0, s))
  else (
   if (s 30 5) ≤ x4 then (
    some (0, s))
   else (
    some (1, s))))
 else (
  ck (inR x1 4) (
  ck (inR x5 16) (
  ck (inR x1 4) (
  ck (inR x2 16) (
  if (s (128 + ix x1) (ix x5)) < (s (128 + ix x1) (ix x2)) then (
   f_X3_isOneOfOldest_59 N k6 s x1 x2 x3 x4 x5)
  else (
   ck (inR x1 4) (
   ck (inR x5 16) (
   ck (inR x1 4) (
   ck (inR x2 16) (
   if (s (128 + ix x1) (ix x5)) = (s (128 + ix x1) (ix x2)) then (
    if x2 ≤ x5 then (
     f_X3_isOneOfOldest_63 N k6 s x1 x2 x3 x4 x5)
    else (
     f_X3_isOneOfOldest_59 N k6 s x1 x2 x3 x4 x5))
   else (
    f_X3_isOneOfOldest_63 N k6 s x1 x2 x3 x4 x5)))))))))))
def l_X3_isOneOfOldest_6 (N : Nat) : Hp → Int32 → Int32 → Int32 → Int32 → Int32 → Option (Int32 × Hp) := lp (fun _ _ _ _ _ _ => none) (f_X3_isOneOfOldest_6 N) N
def f_X3_isOneOfOldest (N : Nat) (s : Hp) (x1 x2 x3 : Int32) : Option (Int32 × Hp) :=
 l_X3_isOneOfOldest_6 N s x1 x2 x3 0 0
def f_X3_look_104 (N : Nat) (k2 : Hp → Int32 → Int32 → Option (Int32 × Hp)) (k55 : Hp → Int32 → Int32 → Int32 → Option (Int32 × Hp)) (s : Hp) (x2 x3 x4 : Int32) : Option (Int32 × Hp) :=
 vb (x4 + 1) fun y13 =>
 k55 s x2 x3 y13
def f_X3_look_55 (N : Nat) (k2 : Hp → Int32 → Int32 → Option (Int32 × Hp)) (k55 : Hp → Int32 → Int32 → Int32 → Option (Int32 × Hp)) (s : Hp) (x2 x3 x4 : Int32) : Option (Int32 × Hp) :=
 if 16 ≤ x4 then (
  vb (x3 + 1) fun y7 =>
  k2 s x2 y7)
 else (
  bd (f_X3_isOneOfOldest N s x3 x4 x2) fun v9 s8 =>
  if v9 = 0 then (
   f_X3_look_104 N k2 k55 s8 x2 x3 x4)
  else (
   if 4 ≤ (s8 30 7) then (
    f_X3_look_104 N k2 k55 s8 x2 x3 x4)
   else (
    ck (inR x3 4) (
    ck (inR (s8 30 7) 4) (sb (hset s8 (132 + ix x3) (ix (s8 30 7)) x4) fun s11 =>
    sb (hset s11 30 7 ((s11 30 7) + 1)) fun s12 =>
    f_X3_look_104 N k2 k55 s12 x2 x3 x4)))))
def l_X3_look_55 (N : Nat) (k2 : Hp → Int32 → Int32 → Option (Int32 × Hp)) : Hp → Int32 → Int32 → Int32 → Option (Int32 × Hp) := lp (fun _ _ _ _ => none) (f_X3_look_55 N k2) N
def f_X3_look_13 (N : Nat) (k2 : Hp → Int32 → Int32 → Option (Int32 × Hp)) (k13 : Hp → Int32 → Int32 → Int32 → Option (Int32 × Hp)) (s : Hp) (x2 x3 x4 : Int32) : Option (Int32 × Hp) :=
 if 16 ≤ x4 then (
  sb (hset s 30 7 0) fun s1 =>
  l_X3_look_55 N k2 s1 x2 x3 0)
 else (
  ck (inR x3 4) (
  ck (inR x3 4) (
  bd (f_X7_latestAhead N s x4 (s 31 (ix x3))) fun v4 s3 =>
  ck (inR x4 16) (sb (hset s3 (128 + ix x3) (ix x4) v4) fun s5 =>
  vb (x4 + 1) fun y6 =>
  k13 s5 x2 x3 y6))))
def l_X3_look_13 (N : Nat) (k2 : Hp → Int32 → Int32 → Option (Int32 × Hp)) : Hp → Int32 → Int32 → Int32 → Option (Int32 × Hp) := lp (fun _ _ _ _ => none) (f_X3_look_13 N k2) N
def f_X3_look_2 (N : Nat) (k2 : Hp → Int32 → Int32 → Option (Int32 × Hp)) (s : Hp) (x2 x3 : Int32) : Option (Int32 × Hp) :=
 if (s 30 5) ≤ x3 then (
  some (0, s))
 else (
  l_X3_look_13 N k2 s x2 x3 0)
def l_X3_look_2 (N : Nat) : Hp → Int32 → Int32 → Option (Int32 × Hp) := lp (fun _ _ _ => none) (f_X3_look_2 N) N
def f_X3_look (N : Nat) (s : Hp) (x2 : Int32) : Option (Int32 × Hp) :=
 l_X3_look_2 N s x2 0
def f_X3_choose_9 (N : Nat) (k9 : Hp → Int32 → Int32 → Option (Int32 × Hp)) (s : Hp) (x2 x3 : Int32) : Option (Int32 × Hp) :=
 if x3 < 0 then (
  some (0, s))
 else (
  if (s 30 7) ≤ 0 then (
   some (0, s))
  else (
   ck (inR x3 4) (
   ck (ne0 (s 30 7)) (
   ck (inR (irm x2 (s 30 7)) 4) (
   ck (inR x3 4) (sb (hset s 34 (ix x3) (s (132 + ix x3) (ix (irm x2 (s 30 7))))) fun s3 =>
   ck (ne0 (s3 30 7)) (
   vb (x2 / (s3 30 7)) fun y4 =>
   vb (x3 + (-1)) fun y5 =>
   k9 s3 y4 y5)))))))
def l_X3_choose_9 (N : Nat) : Hp → Int32 → Int32 → Option (Int32 × Hp) := lp (fun _ _ _ => none) (f_X3_choose_9 N) N
def f_X3_choose (N : Nat) (s : Hp) (x1 : Int32) : Option (Int32 × Hp) :=
 vb ((s 30 5) - 1) fun y1 =>
 l_X3_choose_9 N s x1 y1
def f_X3_worthOfChosen_70 (N : Nat) (k4 : Hp → Int32 → Int32 → Option (Int32 × Hp)) (k29 : Hp → Int32 → Int32 → Int32 → Int32 → Option (Int32 × Hp)) (s : Hp) (x1 x2 x3 x4 : Int32) : Option (Int32 × Hp) :=
 vb (x4 + 1) fun y6 =>
 k29 s x1 x2 x3 y6
def f_X3_worthOfChosen_29 (N : Nat) (k4 : Hp → Int32 → Int32 → Option (Int32 × Hp)) (k29 : Hp → Int32 → Int32 → Int32 → Int32 → Option (Int32 × Hp)) (s : Hp) (x1 x2 x3 x4 : Int32) : Option (Int32 × Hp) :=
 if x2 ≤ x4 then (
  ck (inR x2 4) (
  vb (x1 + ((s 31 (ix x2)) - x3)) fun y3 =>
  vb (x2 + 1) fun y4 =>
  k4 s y3 y4))
 else (
  ck (inR x4 4) (
  ck (inR x2 4) (
  if (s 34 (ix x4)) = (s 34 (ix x2)) then (
   ck (inR x4 4) (
   vb (imax x3 (((s 31 (ix x4)) + (s 30 6)) - 1)) fun y5 =>
   f_X3_worthOfChosen_70 N k4 k29 s x1 x2 y5 x4))
  else (
   f_X3_worthOfChosen_70 N k4 k29 s x1 x2 x3 x4))))
def l_X3_worthOfChosen_29 (N : Nat) (k4 : Hp → Int32 → Int32 → Option (Int32 × Hp)) : Hp → Int32 → Int32 → Int32 → Int32 → Option (Int32 × Hp) := lp (fun _ _ _ _ _ => none) (f_X3_worthOfChosen_29 N k4) N
def f_X3_worthOfChosen_4 (N : Nat) (k4 : Hp → Int32 → Int32 → Option (Int32 × Hp)) (s : Hp) (x1 x2 : Int32) : Option (Int32 × Hp) :=
 if (s 30 5) ≤ x2 then (
  some (x1, s))
 else (
  ck (inR x2 4) (
  ck (inR x2 4) (
  ck (inR (s 34 (ix x2)) 16) (
  vb (s (128 + ix x2) (ix (s 34 (ix x2)))) fun y2 =>
  l_X3_worthOfChosen_29 N k4 s x1 x2 y2 0))))
def l_X3_worthOfChosen_4 (N : Nat) : Hp → Int32 → Int32 → Option (Int32 × Hp) := lp (fun _ _ _ => none) (f_X3_worthOfChosen_4 N) N
def f_X3_worthOfChosen (N : Nat) (s : Hp) : Option (Int32 × Hp) :=
 l_X3_worthOfChosen_4 N s 0 0
def f_X3_keepChosen_2 (N : Nat) (k2 : Hp → Int32 → Option (Int32 × Hp)) (s : Hp) (x1 : Int32) : Option (Int32 × Hp) :=
 if (s 30 5) ≤ x1 then (
  some (0, s))
 else (
  ck (inR x1 4) (
  ck (inR x1 4) (sb (hset s 35 (ix x1) (s 34 (ix x1))) fun s1 =>
  vb (x1 + 1) fun y2 =>
  k2 s1 y2)))
def l_X3_keepChosen_2 (N : Nat) : Hp → Int32 → Option (Int32 × Hp) := lp (fun _ _ => none) (f_X3_keepChosen_2 N) N
def f_X3_keepChosen (N : Nat) (s : Hp) : Option (Int32 × Hp) :=
 l_X3_keepChosen_2 N s 0
def f_X3_search_58 (N : Nat) (k29 : Hp → Int32 → Int32 → Int32 → Option (Int32 × Hp)) (s : Hp) (x1 x2 x3 : Int32) : Option (Int32 × Hp) :=
 vb (x3 + 1) fun y9 =>
 k29 s x1 x2 y9
def f_X3_search_29 (N : Nat) (k29 : Hp → Int32 → Int32 → Int32 → Option (Int32 × Hp)) (s : Hp) (x1 x2 x3 : Int32) : Option (Int32 × Hp) :=
 if x1 ≤ x3 then (
  some (x2, s))
 else (
  bd (f_X3_choose N s x3) fun v4 s3 =>
  bd (f_X3_worthOfChosen N s3) fun v6 s5 =>
  if v6 ≤ x2 then (
   f_X3_search_58 N k29 s5 x1 x2 x3)
  else (
   bd (f_X3_keepChosen N s5) fun v8 s7 =>
   f_X3_search_58 N k29 s7 x1 v6 x3))
def l_X3_search_29 (N : Nat) : Hp → Int32 → Int32 → Int32 → Option (Int32 × Hp) := lp (fun _ _ _ _ => none) (f_X3_search_29 N) N
def f_X3_search_4 (N : Nat) (k4 : Hp → Int32 → Int32 → Option (Int32 × Hp)) (s : Hp) (x1 x2 : Int32) : Option (Int32 × Hp) :=
 if (s 30 5) ≤ x2 then (
  l_X3_search_29 N s x1 (-1) 0)
 else (
  vb (x1 * (s 30 7)) fun y1 =>
  vb (x2 + 1) fun y2 =>
  k4 s y1 y2)
def l_X3_search_4 (N : Nat) : Hp → Int32 → Int32 → Option (Int32 × Hp) := lp (fun _ _ _ => none) (f_X3_search_4 N) N
def f_X3_search (N : Nat) (s : Hp) : Option (Int32 × Hp) :=
 l_X3_search_4 N s 1 0
def f_X9_sweep (N : Nat) (s : Hp) (x1 x2 x3 x4 : Int32) : Option (Int32 × Hp) :=
 if x1 ≤ 0 then (
  some ((-1), s))
 else (
  if 65536 ≤ x1 then (
   some ((-1), s))
  else (
   bd (f_X9_isBelow N s x2 10000) fun v2 s1 =>
   if v2 = 0 then (
    some ((-1), s1))
   else (
    if x3 < 1 then (
     some ((-1), s1))
    else (
     if 4 < x3 then (
      some ((-1), s1))
     else (
      if x4 < 1 then (
       some ((-1), s1))
      else (
       if 240 < x4 then (
        some ((-1), s1))
       else (
        if (x2 + (x3 * x4)) ≤ 10000 then (
         bd (f_X3_lay N s1 x2 x3 x4) fun v4 s3 =>
         bd (f_X3_look N s3 x1) fun v6 s5 =>
         bd (f_X3_search N s5) fun v8 s7 =>
         some (v8, s7))
        else (
         some ((-1), s1)))))))))
def f_X9_slot (N : Nat) (s : Hp) (x1 : Int32) : Option (Int32 × Hp) :=
 bd (f_X9_isBelow N s x1 (s 30 5)) fun v2 s1 =>
 if v2 = 0 then (
  some ((-1), s1))
 else (
  ck (inR x1 4) (
  some (s1 35 (ix x1), s1)))
def f_X9_about (N : Nat) (s : Hp) (x1 : Int32) : Option (Int32 × Hp) :=
 if x1 = 0 then (
  some (s 1 2, s))
 else (
  if x1 = 1 then (
   some (s 4 4, s))
  else (
   if x1 = 2 then (
    some (s 10 4, s))
   else (
    if x1 = 3 then (
     some (s 28 1, s))
    else (
     if x1 = 4 then (
      some (s 18 2, s))
     else (
      if x1 = 5 then (
       some (s 18 3, s))
      else (
       if x1 = 6 then (
        some (s 24 1, s))
       else (
        if x1 = 7 then (
         some (s 9 4, s))
        else (
         some ((-1), s)))))))))
end
section
def f_X10_isIn (N : Nat) (s : Hp) (x0 x1 x2 : Int32) : Option (Int32 × Hp) :=
 if x0 < x1 then (
  some (0, s))
 else (
  if x2 < x0 then (
   some (0, s))
  else (
   some (1, s)))
def f_X10_post (N : Nat) (s : Hp) (x1 x2 : Int32) : Option (Int32 × Hp) :=
 bd (f_X10_isIn N s x1 0 31) fun v2 s1 =>
 if v2 = 0 then (
  some ((-1), s1))
 else (
  bd (f_X10_isIn N s1 x2 0 31) fun v4 s3 =>
  if v4 = 0 then (
   some ((-1), s3))
  else (
   if (s3 36 0) = 6 then (
    some ((-1), s3))
   else (
    ck (inR (s3 36 0) 6) (sb (hset s3 37 (ix (s3 36 0)) x1) fun s5 =>
    ck (inR (s5 36 0) 6) (sb (hset s5 38 (ix (s5 36 0)) x2) fun s6 =>
    sb (hset s6 36 0 ((s6 36 0) + 1)) fun s7 =>
    some ((s7 36 0) - 1, s7))))))
def f_X10_isPost (N : Nat) (s : Hp) (x1 : Int32) : Option (Int32 × Hp) :=
 bd (f_X10_isIn N s x1 0 ((s 36 0) - 1)) fun v2 s1 =>
 ck (isB v2) (some (v2, s1))
def f_X10_isSpan (N : Nat) (s : Hp) (x0 x1 : Int32) : Option (Int32 × Hp) :=
 bd (f_X10_isIn N s x0 0 9999) fun v2 s1 =>
 if v2 = 0 then (
  some (0, s1))
 else (
  bd (f_X10_isIn N s1 x1 x0 9999) fun v4 s3 =>
  if v4 = 0 then (
   some (0, s3))
  else (
   some (1, s3)))
def f_X10_listened (N : Nat) (s : Hp) (x1 x2 x3 x4 : Int32) : Option (Int32 × Hp) :=
 bd (f_X10_isPost N s x1) fun v2 s1 =>
 if v2 = 0 then (
  some ((-1), s1))
 else (
  bd (f_X10_isIn N s1 x2 0 15) fun v4 s3 =>
  if v4 = 0 then (
   some ((-1), s3))
  else (
   bd (f_X10_isSpan N s3 x3 x4) fun v6 s5 =>
   if v6 = 0 then (
    some ((-1), s5))
   else (
    if (s5 36 3) = 100 then (
     some ((-1), s5))
    else (
     ck (inR (s5 36 3) 100) (sb (hset s5 39 (ix (s5 36 3)) x1) fun s7 =>
     ck (inR (s7 36 3) 100) (sb (hset s7 40 (ix (s7 36 3)) x2) fun s8 =>
     ck (inR (s8 36 3) 100) (sb (hset s8 41 (ix (s8 36 3)) x3) fun s9 =>
     ck (inR (s9 36 3) 100) (sb (hset s9 42 (ix (s9 36 3)) x4) fun s10 =>
     sb (hset s10 36 3 ((s10 36 3) + 1)) fun s11 =>
     some (s11 36 3, s11)))))))))
def f_X10_wasListened_61 (N : Nat) (k3 : Hp → Int32 → Int32 → Int32 → Int32 → Option (Int32 × Hp)) (s : Hp) (x1 x2 x3 x4 : Int32) : Option (Int32 × Hp) :=
 vb (x4 + 1) fun y3 =>
 k3 s x1 x2 x3 y3
def f_X10_wasListened_27 (N : Nat) (k3 : Hp → Int32 → Int32 → Int32 → Int32 → Option (Int32 × Hp)) (s : Hp) (x1 x2 x3 x4 : Int32) : Option (Int32 × Hp) :=
 ck (inR x4 100) (
 if (s 40 (ix x4)) = x2 then (
  ck (inR x4 100) (
  ck (inR x4 100) (
  bd (f_X10_isIn N s x3 (s 41 (ix x4)) (s 42 (ix x4))) fun v2 s1 =>
  if v2 = 0 then (
   f_X10_wasListened_61 N k3 s1 x1 x2 x3 x4)
  else (
   some (1, s1)))))
 else (
  f_X10_wasListened_61 N k3 s x1 x2 x3 x4))
def f_X10_wasListened_3 (N : Nat) (k3 : Hp → Int32 → Int32 → Int32 → Int32 → Option (Int32 × Hp)) (s : Hp) (x1 x2 x3 x4 : Int32) : Option (Int32 × Hp) :=
 if (s 36 3) ≤ x4 then (
  some (0, s))
 else (
  if x1 < 0 then (
   f_X10_wasListened_27 N k3 s x1 x2 x3 x4)
  else (
   ck (inR x4 100) (
   if (s 39 (ix x4)) = x1 then (
    f_X10_wasListened_27 N k3 s x1 x2 x3 x4)
   else (
    f_X10_wasListened_61 N k3 s x1 x2 x3 x4))))
def l_X10_wasListened_3 (N : Nat) : Hp → Int32 → Int32 → Int32 → Int32 → Option (Int32 × Hp) := lp (fun _ _ _ _ _ => none) (f_X10_wasListened_3 N) N
def f_X10_wasListened (N : Nat) (s : Hp) (x1 x2 x3 : Int32) : Option (Int32 × Hp) :=
 l_X10_wasListened_3 N s x1 x2 x3 0
def f_X10_mark_53 (N : Nat) (k53 : Hp → Int32 → Int32 → Int32 → Int32 → Int32 → Int32 → Option (Int32 × Hp)) (s : Hp) (x1 x2 x3 x4 x5 x6 : Int32) : Option (Int32 × Hp) :=
 if x4 < x6 then (
  ck (inR (s 36 8) 60) (sb (hset s 43 (ix (s 36 8)) x1) fun s9 =>
  ck (inR (s9 36 8) 60) (sb (hset s9 44 (ix (s9 36 8)) x2) fun s10 =>
  ck (inR (s10 36 8) 60) (sb (hset s10 45 (ix (s10 36 8)) x3) fun s11 =>
  ck (inR (s11 36 8) 60) (sb (hset s11 46 (ix (s11 36 8)) x4) fun s12 =>
  ck (inR (s12 36 8) 60) (sb (hset s12 47 (ix (s12 36 8)) x5) fun s13 =>
  sb (hset s13 36 8 ((s13 36 8) + 1)) fun s14 =>
  some ((s14 36 8) - 1, s14)))))))
 else (
  bd (f_X10_wasListened N s x1 x2 x6) fun v16 s15 =>
  if v16 = 0 then (
   some ((-1), s15))
  else (
   vb (x6 + 1) fun y17 =>
   k53 s15 x1 x2 x3 x4 x5 y17))
def l_X10_mark_53 (N : Nat) : Hp → Int32 → Int32 → Int32 → Int32 → Int32 → Int32 → Option (Int32 × Hp) := lp (fun _ _ _ _ _ _ _ => none) (f_X10_mark_53 N) N
def f_X10_mark (N : Nat) (s : Hp) (x1 x2 x3 x4 x5 : Int32) : Option (Int32 × Hp) :=
 bd (f_X10_isPost N s x1) fun v2 s1 =>
 if v2 = 0 then (
  some ((-1), s1))
 else (
  bd (f_X10_isIn N s1 x2 0 15) fun v4 s3 =>
  if v4 = 0 then (
   some ((-1), s3))
  else (
   bd (f_X10_isSpan N s3 x3 x4) fun v6 s5 =>
   if v6 = 0 then (
    some ((-1), s5))
   else (
    bd (f_X10_isIn N s5 x5 0 999) fun v8 s7 =>
    if v8 = 0 then (
     some ((-1), s7))
    else (
     if (s7 36 8) = 60 then (
      some ((-1), s7))
     else (
      l_X10_mark_53 N s7 x1 x2 x3 x4 x5 x3)))))
def f_X10_isWay_30 (N : Nat) (s : Hp) : Option (Int32 × Hp) :=
 some (1, s)
def f_X10_isWay (N : Nat) (s : Hp) (x0 x1 : Int32) : Option (Int32 × Hp) :=
 bd (f_X10_isIn N s x0 (-100) 100) fun v2 s1 =>
 if v2 = 0 then (
  some (0, s1))
 else (
  bd (f_X10_isIn N s1 x1 (-100) 100) fun v4 s3 =>
  if v4 = 0 then (
   some (0, s3))
  else (
   if x0 = 0 then (
    if x1 = 0 then (
     some (0, s3))
    else (
     f_X10_isWay_30 N s3))
   else (
    f_X10_isWay_30 N s3)))
def f_X10_wedge (N : Nat) (s : Hp) (x1 x2 x3 x4 x5 : Int32) : Option (Int32 × Hp) :=
 bd (f_X10_isIn N s x1 0 ((s 36 8) - 1)) fun v2 s1 =>
 if v2 = 0 then (
  some (0, s1))
 else (
  bd (f_X10_isWay N s1 x2 x3) fun v4 s3 =>
  if v4 = 0 then (
   some (0, s3))
  else (
   bd (f_X10_isWay N s3 x4 x5) fun v6 s5 =>
   if v6 = 0 then (
    some (0, s5))
   else (
    if 0 < ((x2 * x5) - (x3 * x4)) then (
     ck (inR x1 60) (sb (hset s5 48 (ix x1) 1) fun s7 =>
     ck (inR (4 * x1) 240) (sb (hset s7 49 (ix (4 * x1)) x2) fun s8 =>
     ck (inR ((4 * x1) + 1) 240) (sb (hset s8 49 (ix ((4 * x1) + 1)) x3) fun s9 =>
     ck (inR ((4 * x1) + 2) 240) (sb (hset s9 49 (ix ((4 * x1) + 2)) x4) fun s10 =>
     ck (inR ((4 * x1) + 3) 240) (sb (hset s10 49 (ix ((4 * x1) + 3)) x5) fun s11 =>
     some (1, s11)))))))
    else (
     some (0, s5)))))
def f_X10_joins (N : Nat) (s : Hp) (x1 x2 : Int32) : Option (Int32 × Hp) :=
 bd (f_X10_isIn N s x1 0 99) fun v2 s1 =>
 if v2 = 0 then (
  some (0, s1))
 else (
  bd (f_X10_isIn N s1 x2 0 999) fun v4 s3 =>
  if v4 = 0 then (
   some (0, s3))
  else (
   sb (hset s3 36 16 x1) fun s5 =>
   sb (hset s5 36 17 x2) fun s6 =>
   some (1, s6)))
def f_X10_isJoin_44 (N : Nat) (s : Hp) (x1 x2 t0 : Int32) : Option (Int32 × Hp) :=
 ck (inR x1 60) (
 ck (inR x2 60) (
 if (s 44 (ix x1)) = (s 44 (ix x2)) then (
  if (s 36 16) < t0 then (
   some (0, s))
  else (
   ck (inR x2 60) (
   ck (inR x1 60) (
   if (s 36 17) < ((s 45 (ix x2)) - (s 46 (ix x1))) then (
    some (0, s))
   else (
    ck (inR x1 60) (
    ck (inR x2 60) (
    if (s 36 17) < ((s 45 (ix x1)) - (s 46 (ix x2))) then (
     some (0, s))
    else (
     some (1, s)))))))))
 else (
  some (0, s))))
def f_X10_isJoin (N : Nat) (s : Hp) (x1 x2 : Int32) : Option (Int32 × Hp) :=
 ck (inR x1 60) (
 ck (inR x2 60) (
 if (s 47 (ix x1)) ≤ (s 47 (ix x2)) then (
  ck (inR x2 60) (
  ck (inR x1 60) (
  f_X10_isJoin_44 N s x1 x2 ((s 47 (ix x2)) - (s 47 (ix x1))))))
 else (
  ck (inR x1 60) (
  ck (inR x2 60) (
  f_X10_isJoin_44 N s x1 x2 ((s 47 (ix x1)) - (s 47 (ix x2))))))))
def f_X10_spreads_70 (N : Nat) (k4 : Hp → Int32 → Int32 → Int32 → Option (Int32 × Hp)) (k28 : Hp → Int32 → Int32 → Int32 → Int32 → Option (Int32 × Hp)) (s : Hp) (x1 x2 x3 x4 : Int32) : Option (Int32 × Hp) :=
 vb (x4 + 1) fun y5 =>
 k28 s x1 x2 x3 y5
def f_X10_spreads_76 (N : Nat) (k4 : Hp → Int32 → Int32 → Int32 → Option (Int32 × Hp)) (s : Hp) (x1 x2 x3 : Int32) : Option (Int32 × Hp) :=
 vb (x3 + 1) fun y4 =>
 k4 s x1 x2 y4
def f_X10_spreads_28 (N : Nat) (k4 : Hp → Int32 → Int32 → Int32 → Option (Int32 × Hp)) (k28 : Hp → Int32 → Int32 → Int32 → Int32 → Option (Int32 × Hp)) (s : Hp) (x1 x2 x3 x4 : Int32) : Option (Int32 × Hp) :=
 if (s 36 8) ≤ x4 then (
  f_X10_spreads_76 N k4 s x1 x2 x3)
 else (
  ck (inR x4 60) (
  if 0 ≤ (s 50 (ix x4)) then (
   f_X10_spreads_70 N k4 k28 s x1 x2 x3 x4)
  else (
   bd (f_X10_isJoin N s x3 x4) fun v2 s1 =>
   if v2 = 0 then (
    f_X10_spreads_70 N k4 k28 s1 x1 x2 x3 x4)
   else (
    ck (inR x4 60) (sb (hset s1 50 (ix x4) x1) fun s3 =>
    f_X10_spreads_70 N k4 k28 s3 x1 1 x3 x4)))))
def l_X10_spreads_28 (N : Nat) (k4 : Hp → Int32 → Int32 → Int32 → Option (Int32 × Hp)) : Hp → Int32 → Int32 → Int32 → Int32 → Option (Int32 × Hp) := lp (fun _ _ _ _ _ => none) (f_X10_spreads_28 N k4) N
def f_X10_spreads_4 (N : Nat) (k4 : Hp → Int32 → Int32 → Int32 → Option (Int32 × Hp)) (s : Hp) (x1 x2 x3 : Int32) : Option (Int32 × Hp) :=
 if (s 36 8) ≤ x3 then (
  ck (isB x2) (some (x2, s)))
 else (
  ck (inR x3 60) (
  if (s 50 (ix x3)) = x1 then (
   l_X10_spreads_28 N k4 s x1 x2 x3 0)
  else (
   f_X10_spreads_76 N k4 s x1 x2 x3)))
def l_X10_spreads_4 (N : Nat) : Hp → Int32 → Int32 → Int32 → Option (Int32 × Hp) := lp (fun _ _ _ _ => none) (f_X10_spreads_4 N) N
def f_X10_spreads (N : Nat) (s : Hp) (x1 : Int32) : Option (Int32 × Hp) :=
 l_X10_spreads_4 N s x1 0 0
def f_X10_join_98 (N : Nat) (k30 : Hp → Int32 → Option (Int32 × Hp)) (s : Hp) (x1 : Int32) : Option (Int32 × Hp) :=
 vb (x1 + 1) fun y9 =>
 k30 s y9
def f_X10_join_72 (N : Nat) (k30 : Hp → Int32 → Option (Int32 × Hp)) (k72 : Hp → Int32 → Int32 → Option (Int32 × Hp)) (s : Hp) (x1 x2 : Int32) : Option (Int32 × Hp) :=
 if x2 = 0 then (
  sb (hset s 36 18 ((s 36 18) + 1)) fun s6 =>
  f_X10_join_98 N k30 s6 x1)
 else (
  bd (f_X10_spreads N s (s 36 18)) fun v8 s7 =>
  k72 s7 x1 v8)
def l_X10_join_72 (N : Nat) (k30 : Hp → Int32 → Option (Int32 × Hp)) : Hp → Int32 → Int32 → Option (Int32 × Hp) := lp (fun _ _ _ => none) (f_X10_join_72 N k30) N
def f_X10_join_30 (N : Nat) (k30 : Hp → Int32 → Option (Int32 × Hp)) (s : Hp) (x1 : Int32) : Option (Int32 × Hp) :=
 if (s 36 8) ≤ x1 then (
  some (0, s))
 else (
  ck (inR x1 60) (
  if (s 50 (ix x1)) < 0 then (
   ck (inR x1 60) (sb (hset s 50 (ix x1) (s 36 18)) fun s4 =>
   ck (inR (s4 36 18) 60) (sb (hset s4 51 (ix (s4 36 18)) x1) fun s5 =>
   l_X10_join_72 N k30 s5 x1 1)))
  else (
   f_X10_join_98 N k30 s x1)))
def l_X10_join_30 (N : Nat) : Hp → Int32 → Option (Int32 × Hp) := lp (fun _ _ => none) (f_X10_join_30 N) N
def f_X10_join_7 (N : Nat) (k7 : Hp → Int32 → Option (Int32 × Hp)) (s : Hp) (x1 : Int32) : Option (Int32 × Hp) :=
 if (s 36 8) ≤ x1 then (
  l_X10_join_30 N s 0)
 else (
  ck (inR x1 60) (sb (hset s 50 (ix x1) (-1)) fun s2 =>
  vb (x1 + 1) fun y3 =>
  k7 s2 y3))
def l_X10_join_7 (N : Nat) : Hp → Int32 → Option (Int32 × Hp) := lp (fun _ _ => none) (f_X10_join_7 N) N
def f_X10_join (N : Nat) (s : Hp) : Option (Int32 × Hp) :=
 sb (hset s 36 18 0) fun s1 =>
 l_X10_join_7 N s1 0
def f_X10_senders (N : Nat) (s : Hp) : Option (Int32 × Hp) :=
 bd (f_X10_join N s) fun v2 s1 =>
 some (s1 36 18, s1)
def f_X10_senderOf (N : Nat) (s : Hp) (x1 : Int32) : Option (Int32 × Hp) :=
 bd (f_X10_isIn N s x1 0 ((s 36 8) - 1)) fun v2 s1 =>
 if v2 = 0 then (
  some ((-1), s1))
 else (
  bd (f_X10_join N s1) fun v4 s3 =>
  ck (inR x1 60) (
  some (s3 50 (ix x1), s3)))
def f_X10_isSender (N : Nat) (s : Hp) (x1 : Int32) : Option (Int32 × Hp) :=
 bd (f_X10_join N s) fun v2 s1 =>
 bd (f_X10_isIn N s1 x1 0 ((s1 36 18) - 1)) fun v4 s3 =>
 ck (isB v4) (some (v4, s3))
def f_X10_liesIn (N : Nat) (s : Hp) (x1 x2 x3 : Int32) : Option (Int32 × Hp) :=
 ck (inR x1 60) (
 ck (inR (s 43 (ix x1)) 6) (
 vb (x2 - (s 37 (ix (s 43 (ix x1))))) fun y1 =>
 ck (inR x1 60) (
 ck (inR (s 43 (ix x1)) 6) (
 vb (x3 - (s 38 (ix (s 43 (ix x1))))) fun y2 =>
 ck (inR (4 * x1) 240) (
 ck (inR ((4 * x1) + 1) 240) (
 if (((s 49 (ix (4 * x1))) * y2) - ((s 49 (ix ((4 * x1) + 1))) * y1)) < 0 then (
  some (0, s))
 else (
  ck (inR ((4 * x1) + 3) 240) (
  ck (inR ((4 * x1) + 2) 240) (
  if ((y1 * (s 49 (ix ((4 * x1) + 3)))) - (y2 * (s 49 (ix ((4 * x1) + 2))))) < 0 then (
   some (0, s))
  else (
   some (1, s)))))))))))
def f_X10_isPlace_47 (N : Nat) (k2 : Hp → Int32 → Int32 → Int32 → Option (Int32 × Hp)) (s : Hp) (x1 x2 x3 : Int32) : Option (Int32 × Hp) :=
 vb (x3 + 1) fun y3 =>
 k2 s x1 x2 y3
def f_X10_isPlace_2 (N : Nat) (k2 : Hp → Int32 → Int32 → Int32 → Option (Int32 × Hp)) (s : Hp) (x1 x2 x3 : Int32) : Option (Int32 × Hp) :=
 if (s 36 8) ≤ x3 then (
  some (1, s))
 else (
  ck (inR x3 60) (
  if (s 50 (ix x3)) = x1 then (
   ck (inR x3 60) (
   if (s 48 (ix x3)) = 0 then (
    f_X10_isPlace_47 N k2 s x1 x2 x3)
   else (
    bd (f_X10_liesIn N s x3 (irm x2 32) (x2 / 32)) fun v2 s1 =>
    if v2 = 0 then (
     some (0, s1))
    else (
     f_X10_isPlace_47 N k2 s1 x1 x2 x3))))
  else (
   f_X10_isPlace_47 N k2 s x1 x2 x3)))
def l_X10_isPlace_2 (N : Nat) : Hp → Int32 → Int32 → Int32 → Option (Int32 × Hp) := lp (fun _ _ _ _ => none) (f_X10_isPlace_2 N) N
def f_X10_isPlace (N : Nat) (s : Hp) (x1 x2 : Int32) : Option (Int32 × Hp) :=
 l_X10_isPlace_2 N s x1 x2 0
def f_X10_sender_82 (N : Nat) (k57 : Hp → Int32 → Int32 → Int32 → Option (Int32 × Hp)) (s : Hp) (x1 x5 t0 t1 : Int32) : Option (Int32 × Hp) :=
 vb (t0 + t1) fun y10 =>
 vb (x5 + 1) fun y11 =>
 k57 s x1 y10 y11
def f_X10_sender_57 (N : Nat) (k57 : Hp → Int32 → Int32 → Int32 → Option (Int32 × Hp)) (s : Hp) (x1 x4 x5 : Int32) : Option (Int32 × Hp) :=
 if 1024 ≤ x5 then (
  some (x4, s))
 else (
  bd (f_X10_isPlace N s x1 x5) fun v7 s6 =>
  if v7 = 0 then (
   f_X10_sender_82 N k57 s6 x1 x5 x4 0)
  else (
   f_X10_sender_82 N k57 s6 x1 x5 x4 1))
def l_X10_sender_57 (N : Nat) : Hp → Int32 → Int32 → Int32 → Option (Int32 × Hp) := lp (fun _ _ _ _ => none) (f_X10_sender_57 N) N
def f_X10_sender_246 (N : Nat) (k136 : Hp → Int32 → Int32 → Int32 → Int32 → Int32 → Int32 → Option (Int32 × Hp)) (s : Hp) (x1 x2 x4 x5 x6 x7 : Int32) : Option (Int32 × Hp) :=
 vb (x7 + 1) fun y14 =>
 k136 s x1 x2 x4 x5 x6 y14
def f_X10_sender_242 (N : Nat) (k136 : Hp → Int32 → Int32 → Int32 → Int32 → Int32 → Int32 → Option (Int32 × Hp)) (s : Hp) (x1 x2 x4 x5 x7 x8 : Int32) : Option (Int32 × Hp) :=
 f_X10_sender_246 N k136 s x1 x2 x4 x5 x8 x7
def f_X10_sender_225 (N : Nat) (k136 : Hp → Int32 → Int32 → Int32 → Int32 → Int32 → Int32 → Option (Int32 × Hp)) (s : Hp) (x1 x2 x4 x5 x6 x7 x8 : Int32) : Option (Int32 × Hp) :=
 if x6 ≤ x8 then (
  f_X10_sender_246 N k136 s x1 x2 x4 x5 x6 x7)
 else (
  f_X10_sender_242 N k136 s x1 x2 x4 x5 x7 x8)
def f_X10_sender_213 (N : Nat) (k136 : Hp → Int32 → Int32 → Int32 → Int32 → Int32 → Int32 → Option (Int32 × Hp)) (s : Hp) (x1 x2 x4 x5 x6 x7 t0 : Int32) : Option (Int32 × Hp) :=
 if x2 = 3 then (
  f_X10_sender_225 N k136 s x1 x2 x4 x5 x6 x7 t0)
 else (
  if x2 = 5 then (
   f_X10_sender_225 N k136 s x1 x2 x4 x5 x6 x7 t0)
  else (
   if t0 ≤ x6 then (
    f_X10_sender_246 N k136 s x1 x2 x4 x5 x6 x7)
   else (
    f_X10_sender_242 N k136 s x1 x2 x4 x5 x7 t0)))
def f_X10_sender_275 (N : Nat) (k275 : Hp → Int32 → Int32 → Int32 → Option (Int32 × Hp)) (s : Hp) (x5 x7 x8 : Int32) : Option (Int32 × Hp) :=
 if (s 36 0) ≤ x8 then (
  some (x7, s))
 else (
  vb (x7 + ((x5 >>> (x8 &&& 31)) &&& 1)) fun y12 =>
  vb (x8 + 1) fun y13 =>
  k275 s x5 y12 y13)
def l_X10_sender_275 (N : Nat) : Hp → Int32 → Int32 → Int32 → Option (Int32 × Hp) := lp (fun _ _ _ _ => none) (f_X10_sender_275 N) N
def f_X10_sender_136 (N : Nat) (k136 : Hp → Int32 → Int32 → Int32 → Int32 → Int32 → Int32 → Option (Int32 × Hp)) (s : Hp) (x1 x2 x4 x5 x6 x7 : Int32) : Option (Int32 × Hp) :=
 if (s 36 8) ≤ x7 then (
  if x2 = 1 then (
   some (x4, s))
  else (
   if x2 = 8 then (
    l_X10_sender_275 N s x5 0 0)
   else (
    some (x6, s))))
 else (
  ck (inR x7 60) (
  if (s 50 (ix x7)) = x1 then (
   vb (x4 + 1) fun y8 =>
   ck (inR x7 60) (
   vb (x5 ||| (1 <<< ((s 43 (ix x7)) &&& 31))) fun y9 =>
   if x2 = 3 then (
    ck (inR x7 60) (
    f_X10_sender_213 N k136 s x1 x2 y8 y9 x6 x7 (s 45 (ix x7))))
   else (
    if x2 = 4 then (
     ck (inR x7 60) (
     f_X10_sender_213 N k136 s x1 x2 y8 y9 x6 x7 (s 46 (ix x7))))
    else (
     ck (inR x7 60) (
     f_X10_sender_213 N k136 s x1 x2 y8 y9 x6 x7 (s 47 (ix x7)))))))
  else (
   f_X10_sender_246 N k136 s x1 x2 x4 x5 x6 x7)))
def l_X10_sender_136 (N : Nat) : Hp → Int32 → Int32 → Int32 → Int32 → Int32 → Int32 → Option (Int32 × Hp) := lp (fun _ _ _ _ _ _ _ => none) (f_X10_sender_136 N) N
def f_X10_sender_131 (N : Nat) (s : Hp) (x1 x2 x4 x5 t0 : Int32) : Option (Int32 × Hp) :=
 l_X10_sender_136 N s x1 x2 x4 x5 t0 0
def f_X10_sender (N : Nat) (s : Hp) (x1 x2 : Int32) : Option (Int32 × Hp) :=
 bd (f_X10_isSender N s x1) fun v2 s1 =>
 if v2 = 0 then (
  some ((-1), s1))
 else (
  bd (f_X10_isIn N s1 x2 0 8) fun v4 s3 =>
  if v4 = 0 then (
   some ((-1), s3))
  else (
   ck (inR x1 60) (
   vb (s3 51 (ix x1)) fun y5 =>
   if x2 = 0 then (
    some (y5, s3))
   else (
    if x2 = 2 then (
     ck (inR y5 60) (
     some (s3 44 (ix y5), s3)))
    else (
     if x2 = 7 then (
      l_X10_sender_57 N s3 x1 0 0)
     else (
      if x2 = 3 then (
       ck (inR y5 60) (
       f_X10_sender_131 N s3 x1 x2 0 0 (s3 45 (ix y5))))
      else (
       if x2 = 4 then (
        ck (inR y5 60) (
        f_X10_sender_131 N s3 x1 x2 0 0 (s3 46 (ix y5))))
       else (
        ck (inR y5 60) (
        f_X10_sender_131 N s3 x1 x2 0 0 (s3 47 (ix y5)))))))))))
def f_X10_place_50 (N : Nat) (k19 : Hp → Int32 → Int32 → Int32 → Option (Int32 × Hp)) (s : Hp) (x1 x3 x4 : Int32) : Option (Int32 × Hp) :=
 vb (x4 + 1) fun y6 =>
 k19 s x1 x3 y6
def f_X10_place_19 (N : Nat) (k19 : Hp → Int32 → Int32 → Int32 → Option (Int32 × Hp)) (s : Hp) (x1 x3 x4 : Int32) : Option (Int32 × Hp) :=
 if 1024 ≤ x4 then (
  some ((-1), s))
 else (
  bd (f_X10_isPlace N s x1 x4) fun v4 s3 =>
  if v4 = 0 then (
   f_X10_place_50 N k19 s3 x1 x3 x4)
  else (
   if x3 = 0 then (
    some (x4, s3))
   else (
    vb (x3 + (-1)) fun y5 =>
    f_X10_place_50 N k19 s3 x1 y5 x4)))
def l_X10_place_19 (N : Nat) : Hp → Int32 → Int32 → Int32 → Option (Int32 × Hp) := lp (fun _ _ _ _ => none) (f_X10_place_19 N) N
def f_X10_place (N : Nat) (s : Hp) (x1 x2 : Int32) : Option (Int32 × Hp) :=
 bd (f_X10_isSender N s x1) fun v2 s1 =>
 if v2 = 0 then (
  some ((-1), s1))
 else (
  if 0 ≤ x2 then (
   l_X10_place_19 N s1 x1 x2 0)
  else (
   some ((-1), s1)))
def f_X10_box_93 (N : Nat) (k24 : Hp → Int32 → Int32 → Int32 → Int32 → Option (Int32 × Hp)) (s : Hp) (x1 x2 x3 x4 : Int32) : Option (Int32 × Hp) :=
 vb (x4 + 1) fun y7 =>
 k24 s x1 x2 x3 y7
def f_X10_box_90 (N : Nat) (k24 : Hp → Int32 → Int32 → Int32 → Int32 → Option (Int32 × Hp)) (s : Hp) (x1 x2 x4 x5 : Int32) : Option (Int32 × Hp) :=
 f_X10_box_93 N k24 s x1 x2 x5 x4
def f_X10_box_63 (N : Nat) (k24 : Hp → Int32 → Int32 → Int32 → Int32 → Option (Int32 × Hp)) (s : Hp) (x1 x2 x3 x4 t0 : Int32) : Option (Int32 × Hp) :=
 if x3 < 0 then (
  f_X10_box_90 N k24 s x1 x2 x4 t0)
 else (
  if (irm x2 2) = 0 then (
   if x3 ≤ t0 then (
    f_X10_box_93 N k24 s x1 x2 x3 x4)
   else (
    f_X10_box_90 N k24 s x1 x2 x4 t0))
  else (
   if t0 ≤ x3 then (
    f_X10_box_93 N k24 s x1 x2 x3 x4)
   else (
    f_X10_box_90 N k24 s x1 x2 x4 t0)))
def f_X10_box_24 (N : Nat) (k24 : Hp → Int32 → Int32 → Int32 → Int32 → Option (Int32 × Hp)) (s : Hp) (x1 x2 x3 x4 : Int32) : Option (Int32 × Hp) :=
 if 1024 ≤ x4 then (
  some (x3, s))
 else (
  bd (f_X10_isPlace N s x1 x4) fun v6 s5 =>
  if v6 = 0 then (
   f_X10_box_93 N k24 s5 x1 x2 x3 x4)
  else (
   if 2 ≤ x2 then (
    f_X10_box_63 N k24 s5 x1 x2 x3 x4 (x4 / 32))
   else (
    f_X10_box_63 N k24 s5 x1 x2 x3 x4 (irm x4 32))))
def l_X10_box_24 (N : Nat) : Hp → Int32 → Int32 → Int32 → Int32 → Option (Int32 × Hp) := lp (fun _ _ _ _ _ => none) (f_X10_box_24 N) N
def f_X10_box (N : Nat) (s : Hp) (x1 x2 : Int32) : Option (Int32 × Hp) :=
 bd (f_X10_isSender N s x1) fun v2 s1 =>
 if v2 = 0 then (
  some ((-1), s1))
 else (
  bd (f_X10_isIn N s1 x2 0 3) fun v4 s3 =>
  if v4 = 0 then (
   some ((-1), s3))
  else (
   l_X10_box_24 N s3 x1 x2 (-1) 0))
def f_X10_sortOf_41 (N : Nat) (k2 : Hp → Int32 → Int32 → Int32 → Option (Int32 × Hp)) (s : Hp) (x1 x2 x3 : Int32) : Option (Int32 × Hp) :=
 vb (x3 + 1) fun y5 =>
 k2 s x1 x2 y5
def f_X10_sortOf_2 (N : Nat) (k2 : Hp → Int32 → Int32 → Int32 → Option (Int32 × Hp)) (s : Hp) (x1 x2 x3 : Int32) : Option (Int32 × Hp) :=
 if (s 36 8) ≤ x3 then (
  bd (f_X10_wasListened N s (-1) x1 x2) fun v2 s1 =>
  if v2 = 0 then (
   some (2, s1))
  else (
   some (1, s1)))
 else (
  ck (inR x3 60) (
  if (s 44 (ix x3)) = x1 then (
   ck (inR x3 60) (
   ck (inR x3 60) (
   bd (f_X10_isIn N s x2 (s 45 (ix x3)) (s 46 (ix x3))) fun v4 s3 =>
   if v4 = 0 then (
    f_X10_sortOf_41 N k2 s3 x1 x2 x3)
   else (
    some (0, s3)))))
  else (
   f_X10_sortOf_41 N k2 s x1 x2 x3)))
def l_X10_sortOf_2 (N : Nat) : Hp → Int32 → Int32 → Int32 → Option (Int32 × Hp) := lp (fun _ _ _ _ => none) (f_X10_sortOf_2 N) N
def f_X10_sortOf (N : Nat) (s : Hp) (x1 x2 : Int32) : Option (Int32 × Hp) :=
 l_X10_sortOf_2 N s x1 x2 0
def f_X10_minutes_61 (N : Nat) (k36 : Hp → Int32 → Int32 → Int32 → Int32 → Int32 → Option (Int32 × Hp)) (s : Hp) (x1 x3 x4 x6 t0 t1 : Int32) : Option (Int32 × Hp) :=
 vb (t0 + t1) fun y9 =>
 vb (x6 + 1) fun y10 =>
 k36 s x1 x3 x4 y9 y10
def f_X10_minutes_36 (N : Nat) (k36 : Hp → Int32 → Int32 → Int32 → Int32 → Int32 → Option (Int32 × Hp)) (s : Hp) (x1 x3 x4 x5 x6 : Int32) : Option (Int32 × Hp) :=
 if x3 < x6 then (
  some (x5, s))
 else (
  bd (f_X10_sortOf N s x1 x6) fun v8 s7 =>
  if v8 = x4 then (
   f_X10_minutes_61 N k36 s7 x1 x3 x4 x6 x5 1)
  else (
   f_X10_minutes_61 N k36 s7 x1 x3 x4 x6 x5 0))
def l_X10_minutes_36 (N : Nat) : Hp → Int32 → Int32 → Int32 → Int32 → Int32 → Option (Int32 × Hp) := lp (fun _ _ _ _ _ _ => none) (f_X10_minutes_36 N) N
def f_X10_minutes (N : Nat) (s : Hp) (x1 x2 x3 x4 : Int32) : Option (Int32 × Hp) :=
 bd (f_X10_isIn N s x1 0 15) fun v2 s1 =>
 if v2 = 0 then (
  some ((-1), s1))
 else (
  bd (f_X10_isSpan N s1 x2 x3) fun v4 s3 =>
  if v4 = 0 then (
   some ((-1), s3))
  else (
   bd (f_X10_isIn N s3 x4 0 2) fun v6 s5 =>
   if v6 = 0 then (
    some ((-1), s5))
   else (
    l_X10_minutes_36 N s5 x1 x3 x4 0 x2)))
def f_X10_blind_67 (N : Nat) (k29 : Hp → Int32 → Int32 → Int32 → Int32 → Int32 → Option (Int32 × Hp)) (s : Hp) (x1 x3 x4 x5 x6 : Int32) : Option (Int32 × Hp) :=
 vb (x6 + 1) fun y7 =>
 k29 s x1 x3 x4 x5 y7
def f_X10_blind_54 (N : Nat) (k29 : Hp → Int32 → Int32 → Int32 → Int32 → Int32 → Option (Int32 × Hp)) (s : Hp) (x1 x3 x4 x6 t0 : Int32) : Option (Int32 × Hp) :=
 if t0 ≤ x4 then (
  f_X10_blind_67 N k29 s x1 x3 x4 t0 x6)
 else (
  f_X10_blind_67 N k29 s x1 x3 t0 t0 x6)
def f_X10_blind_29 (N : Nat) (k29 : Hp → Int32 → Int32 → Int32 → Int32 → Int32 → Option (Int32 × Hp)) (s : Hp) (x1 x3 x4 x5 x6 : Int32) : Option (Int32 × Hp) :=
 if x3 < x6 then (
  some (x4, s))
 else (
  bd (f_X10_sortOf N s x1 x6) fun v6 s5 =>
  if v6 = 2 then (
   f_X10_blind_54 N k29 s5 x1 x3 x4 x6 (x5 + 1))
  else (
   f_X10_blind_54 N k29 s5 x1 x3 x4 x6 0))
def l_X10_blind_29 (N : Nat) : Hp → Int32 → Int32 → Int32 → Int32 → Int32 → Option (Int32 × Hp) := lp (fun _ _ _ _ _ _ => none) (f_X10_blind_29 N) N
def f_X10_blind (N : Nat) (s : Hp) (x1 x2 x3 : Int32) : Option (Int32 × Hp) :=
 bd (f_X10_isIn N s x1 0 15) fun v2 s1 =>
 if v2 = 0 then (
  some ((-1), s1))
 else (
  bd (f_X10_isSpan N s1 x2 x3) fun v4 s3 =>
  if v4 = 0 then (
   some ((-1), s3))
  else (
   l_X10_blind_29 N s3 x1 x3 0 0 x2))
def f_X10_four_3 (N : Nat) (k3 : Hp → Int32 → Int32 → Option (Int32 × Hp)) (s : Hp) (x1 x2 : Int32) : Option (Int32 × Hp) :=
 if x2 < 0 then (
  some (0, s))
 else (
  ck (inR (s 36 22) 100) (sb (hset s 52 (ix (s 36 22)) ((x1 >>> (x2 &&& 31)) &&& 255)) fun s1 =>
  sb (hset s1 36 22 ((s1 36 22) + 1)) fun s2 =>
  vb (x2 + (-8)) fun y3 =>
  k3 s2 x1 y3))
def l_X10_four_3 (N : Nat) : Hp → Int32 → Int32 → Option (Int32 × Hp) := lp (fun _ _ _ => none) (f_X10_four_3 N) N
def f_X10_four (N : Nat) (s : Hp) (x1 : Int32) : Option (Int32 × Hp) :=
 l_X10_four_3 N s x1 24
def f_X10_feed (N : Nat) (s : Hp) (x1 x2 x3 x4 x5 : Int32) : Option (Int32 × Hp) :=
 if ((s 36 22) + 20) ≤ 100 then (
  bd (f_X10_four N s x1) fun v2 s1 =>
  bd (f_X10_four N s1 x2) fun v4 s3 =>
  bd (f_X10_four N s3 x3) fun v6 s5 =>
  bd (f_X10_four N s5 x4) fun v8 s7 =>
  bd (f_X10_four N s7 x5) fun v10 s9 =>
  some (s9 36 22, s9))
 else (
  some ((-1), s))
def f_X10_end (N : Nat) (s : Hp) (x1 : Int32) : Option (Int32 × Hp) :=
 bd (f_X10_isIn N s x1 0 (s 36 22)) fun v2 s1 =>
 if v2 = 0 then (
  some ((-1), s1))
 else (
  sb (hset s1 36 22 x1) fun s3 =>
  some (x1, s3))
def f_X10_see (N : Nat) (s : Hp) (x1 : Int32) : Option (Int32 × Hp) :=
 if (s 36 22) ≤ x1 then (
  some ((-1), s))
 else (
  ck (inR x1 100) (
  some (s 52 (ix x1), s)))
def f_X10_isDigit (N : Nat) (s : Hp) (x0 : Int32) : Option (Int32 × Hp) :=
 bd (f_X10_isIn N s x0 48 57) fun v2 s1 =>
 ck (isB v2) (some (v2, s1))
def f_X10_isLetter_22 (N : Nat) (s : Hp) : Option (Int32 × Hp) :=
 some (1, s)
def f_X10_isLetter (N : Nat) (s : Hp) (x0 : Int32) : Option (Int32 × Hp) :=
 bd (f_X10_isIn N s x0 97 122) fun v2 s1 =>
 if v2 = 0 then (
  bd (f_X10_isIn N s1 x0 65 90) fun v4 s3 =>
  if v4 = 0 then (
   some (0, s3))
  else (
   f_X10_isLetter_22 N s3))
 else (
  f_X10_isLetter_22 N s1)
def f_X10_pack (N : Nat) (s : Hp) (x0 x1 x2 x3 : Int32) : Option (Int32 × Hp) :=
 some ((((((x0 <<< (7 &&& 31)) ||| x1) <<< (7 &&& 31)) ||| x2) <<< (7 &&& 31)) ||| x3, s)
def f_X10_wordOf (N : Nat) (s : Hp) (x0 : Int32) : Option (Int32 × Hp) :=
 bd (f_X10_pack N s 99 104 97 110) fun v2 s1 =>
 if x0 = v2 then (
  some (5, s1))
 else (
  bd (f_X10_pack N s1 116 105 109 101) fun v4 s3 =>
  if x0 = v4 then (
   some (6, s3))
  else (
   bd (f_X10_pack N s3 116 111 110 101) fun v6 s5 =>
   if x0 = v6 then (
    some (7, s5))
   else (
    bd (f_X10_pack N s5 0 98 111 120) fun v8 s7 =>
    if x0 = v8 then (
     some (8, s7))
    else (
     some (4, s7)))))
def f_X10_nextToken_118 (N : Nat) (k72 : Hp → Option (Int32 × Hp)) (s : Hp) : Option (Int32 × Hp) :=
 sb (hset s 36 27 ((s 36 27) + 1)) fun s34 =>
 k72 s34
def f_X10_nextToken_72 (N : Nat) (k72 : Hp → Option (Int32 × Hp)) (s : Hp) : Option (Int32 × Hp) :=
 bd (f_X10_see N s (s 36 27)) fun v26 s25 =>
 bd (f_X10_isDigit N s25 v26) fun v28 s27 =>
 if v28 = 0 then (
  some (0, s27))
 else (
  if 100000 ≤ (s27 36 30) then (
   f_X10_nextToken_118 N k72 s27)
  else (
   bd (f_X10_see N s27 (s27 36 27)) fun v30 s29 =>
   sb (hset s29 36 30 (((10 * (s27 36 30)) + v30) - 48)) fun s31 =>
   f_X10_nextToken_118 N k72 s31))
def l_X10_nextToken_72 (N : Nat) : Hp → Option (Int32 × Hp) := lp (fun _ => none) (f_X10_nextToken_72 N) N
def f_X10_nextToken_181 (N : Nat) (k140 : Hp → Int32 → Option (Int32 × Hp)) (s : Hp) (x2 : Int32) : Option (Int32 × Hp) :=
 sb (hset s 36 27 ((s 36 27) + 1)) fun s33 =>
 k140 s33 x2
def f_X10_nextToken_216 (N : Nat) (s : Hp) (t1 : Int32) : Option (Int32 × Hp) :=
 sb (hset s 36 29 t1) fun s32 =>
 some (0, s32)
def f_X10_nextToken_140 (N : Nat) (k140 : Hp → Int32 → Option (Int32 × Hp)) (s : Hp) (x2 : Int32) : Option (Int32 × Hp) :=
 bd (f_X10_see N s (s 36 27)) fun v17 s16 =>
 bd (f_X10_isLetter N s16 v17) fun v19 s18 =>
 if v19 = 0 then (
  if ((s18 36 27) - (s18 36 28)) ≤ 4 then (
   bd (f_X10_wordOf N s18 x2) fun v21 s20 =>
   f_X10_nextToken_216 N s20 v21)
  else (
   f_X10_nextToken_216 N s18 4))
 else (
  if 4 ≤ ((s18 36 27) - (s18 36 28)) then (
   f_X10_nextToken_181 N k140 s18 x2)
  else (
   bd (f_X10_see N s18 (s18 36 27)) fun v23 s22 =>
   vb ((x2 <<< (7 &&& 31)) ||| v23) fun y24 =>
   f_X10_nextToken_181 N k140 s22 y24))
def l_X10_nextToken_140 (N : Nat) : Hp → Int32 → Option (Int32 × Hp) := lp (fun _ _ => none) (f_X10_nextToken_140 N) N
def f_X10_nextToken_244 (N : Nat) (s : Hp) (t1 : Int32) : Option (Int32 × Hp) :=
 sb (hset s 36 29 t1) fun s14 =>
 sb (hset s14 36 27 ((s14 36 27) + 1)) fun s15 =>
 some (0, s15)
def f_X10_nextToken_0 (N : Nat) (k0 : Hp → Option (Int32 × Hp)) (s : Hp) : Option (Int32 × Hp) :=
 bd (f_X10_see N s (s 36 27)) fun v2 s1 =>
 if v2 = 32 then (
  sb (hset s1 36 27 ((s1 36 27) + 1)) fun s13 =>
  k0 s13)
 else (
  sb (hset s1 36 28 (s1 36 27)) fun s3 =>
  bd (f_X10_see N s3 (s3 36 27)) fun v5 s4 =>
  if 0 ≤ v5 then (
   bd (f_X10_isDigit N s4 v5) fun v7 s6 =>
   if v7 = 0 then (
    bd (f_X10_isLetter N s6 v5) fun v9 s8 =>
    if v9 = 0 then (
     if v5 = 59 then (
      f_X10_nextToken_244 N s8 2)
     else (
      if v5 = 45 then (
       f_X10_nextToken_244 N s8 3)
      else (
       f_X10_nextToken_244 N s8 4)))
    else (
     l_X10_nextToken_140 N s8 0))
   else (
    sb (hset s6 36 29 1) fun s10 =>
    sb (hset s10 36 30 0) fun s11 =>
    l_X10_nextToken_72 N s11))
  else (
   sb (hset s4 36 29 0) fun s12 =>
   some (0, s12)))
def l_X10_nextToken_0 (N : Nat) : Hp → Option (Int32 × Hp) := lp (fun _ => none) (f_X10_nextToken_0 N) N
def f_X10_nextToken (N : Nat) (s : Hp) : Option (Int32 × Hp) := l_X10_nextToken_0 N s
def f_X10_span_77 (N : Nat) (s : Hp) (x1 x4 : Int32) : Option (Int32 × Hp) :=
 ck (inR (100 + x1) 110) (sb (hset s 53 (ix (100 + x1)) x4) fun s6 =>
 ck (inR (101 + x1) 110) (sb (hset s6 53 (ix (101 + x1)) (s6 36 30)) fun s7 =>
 bd (f_X10_nextToken N s7) fun v9 s8 =>
 some (0, s8)))
def f_X10_span (N : Nat) (s : Hp) (x1 x2 x3 : Int32) : Option (Int32 × Hp) :=
 if (s 36 29) = 1 then (
  if (s 36 30) ≤ x2 then (
   vb (s 36 30) fun y1 =>
   bd (f_X10_nextToken N s) fun v3 s2 =>
   if (s2 36 29) = 3 then (
    bd (f_X10_nextToken N s2) fun v5 s4 =>
    if (s4 36 29) = 1 then (
     if x2 < (s4 36 30) then (
      some (3, s4))
     else (
      if y1 ≤ (s4 36 30) then (
       f_X10_span_77 N s4 x1 y1)
      else (
       if x3 = 0 then (
        some (3, s4))
       else (
        f_X10_span_77 N s4 x1 y1))))
    else (
     some (1, s4)))
   else (
    some (1, s2)))
  else (
   some (3, s)))
 else (
  some (1, s))
def f_X10_clause (N : Nat) (s : Hp) (x1 : Int32) : Option (Int32 × Hp) :=
 if x1 = 5 then (
  bd (f_X10_span N s 0 15 0) fun v10 s9 =>
  some (v10, s9))
 else (
  if x1 = 6 then (
   bd (f_X10_span N s 2 1439 1) fun v8 s7 =>
   some (v8, s7))
  else (
   if x1 = 7 then (
    bd (f_X10_span N s 4 999 0) fun v6 s5 =>
    some (v6, s5))
   else (
    bd (f_X10_span N s 6 31 0) fun v2 s1 =>
    if v2 = 0 then (
     bd (f_X10_span N s1 8 31 0) fun v4 s3 =>
     some (v4, s3))
    else (
     some (v2, s1)))))
def f_X10_read_62 (N : Nat) (k4 : Hp → Int32 → Int32 → Option (Int32 × Hp)) (s : Hp) (x1 x2 t1 t2 : Int32) : Option (Int32 × Hp) :=
 ck (inR t1 110) (sb (hset s 53 (ix t1) t2) fun s12 =>
 vb (x2 + 1) fun y13 =>
 k4 s12 x1 y13)
def f_X10_read_78 (N : Nat) (k78 : Hp → Int32 → Option (Int32 × Hp)) (s : Hp) (x1 : Int32) : Option (Int32 × Hp) :=
 if (s 36 29) = 0 then (
  some (0, s))
 else (
  vb (s 36 29) fun y4 =>
  if 5 ≤ y4 then (
   if ((x1 >>> (y4 &&& 31)) &&& 1) = 1 then (
    some (2, s))
   else (
    vb (x1 ||| (1 <<< (y4 &&& 31))) fun y5 =>
    bd (f_X10_nextToken N s) fun v7 s6 =>
    bd (f_X10_clause N s6 y4) fun v9 s8 =>
    if v9 = 0 then (
     if (s8 36 29) = 2 then (
      bd (f_X10_nextToken N s8) fun v11 s10 =>
      k78 s10 y5)
     else (
      some (1, s8)))
    else (
     some (v9, s8))))
  else (
   some (1, s)))
def l_X10_read_78 (N : Nat) : Hp → Int32 → Option (Int32 × Hp) := lp (fun _ _ => none) (f_X10_read_78 N) N
def f_X10_read_4 (N : Nat) (k4 : Hp → Int32 → Int32 → Option (Int32 × Hp)) (s : Hp) (x1 x2 : Int32) : Option (Int32 × Hp) :=
 if 10 ≤ x2 then (
  sb (hset s 36 27 0) fun s1 =>
  bd (f_X10_nextToken N s1) fun v3 s2 =>
  l_X10_read_78 N s2 x1)
 else (
  if (irm x2 2) = 0 then (
   f_X10_read_62 N k4 s x1 x2 (100 + x2) 0)
  else (
   if x2 = 1 then (
    f_X10_read_62 N k4 s x1 x2 (100 + x2) 15)
   else (
    if x2 = 3 then (
     f_X10_read_62 N k4 s x1 x2 (100 + x2) 1439)
    else (
     if x2 = 5 then (
      f_X10_read_62 N k4 s x1 x2 (100 + x2) 999)
     else (
      f_X10_read_62 N k4 s x1 x2 (100 + x2) 31)))))
def l_X10_read_4 (N : Nat) : Hp → Int32 → Int32 → Option (Int32 × Hp) := lp (fun _ _ _ => none) (f_X10_read_4 N) N
def f_X10_read (N : Nat) (s : Hp) : Option (Int32 × Hp) :=
 l_X10_read_4 N s 0 0
def f_X10_licence_54 (N : Nat) (k54 : Hp → Int32 → Option (Int32 × Hp)) (s : Hp) (x1 : Int32) : Option (Int32 × Hp) :=
 if 10 ≤ x1 then (
  sb (hset s 36 23 ((s 36 23) + 1)) fun s6 =>
  some ((s6 36 23) - 1, s6))
 else (
  ck (inR (100 + x1) 110) (
  ck (inR ((10 * (s 36 23)) + x1) 110) (sb (hset s 53 (ix ((10 * (s 36 23)) + x1)) (s 53 (ix (100 + x1)))) fun s7 =>
  vb (x1 + 1) fun y8 =>
  k54 s7 y8)))
def l_X10_licence_54 (N : Nat) : Hp → Int32 → Option (Int32 × Hp) := lp (fun _ _ => none) (f_X10_licence_54 N) N
def f_X10_licence_35 (N : Nat) (s : Hp) (t1 : Int32) : Option (Int32 × Hp) :=
 sb (hset s 36 26 t1) fun s4 =>
 sb (hset s4 36 22 0) fun s5 =>
 if (s5 36 25) = 0 then (
  l_X10_licence_54 N s5 0)
 else (
  some ((-1), s5))
def f_X10_licence (N : Nat) (s : Hp) : Option (Int32 × Hp) :=
 if (s 36 23) = 10 then (
  some ((-1), s))
 else (
  bd (f_X10_read N s) fun v2 s1 =>
  sb (hset s1 36 25 v2) fun s3 =>
  if (s3 36 25) = 0 then (
   f_X10_licence_35 N s3 (-1))
  else (
   f_X10_licence_35 N s3 (s3 36 28)))
def f_X10_fault (N : Nat) (s : Hp) (x1 : Int32) : Option (Int32 × Hp) :=
 if x1 = 0 then (
  some (s 36 25, s))
 else (
  if x1 = 1 then (
   some (s 36 26, s))
  else (
   some ((-1), s)))
def f_X10_isTime_62 (N : Nat) (s : Hp) : Option (Int32 × Hp) :=
 some (1, s)
def f_X10_isTime (N : Nat) (s : Hp) (x1 x2 : Int32) : Option (Int32 × Hp) :=
 ck (inR ((10 * x1) + 2) 110) (
 vb (s 53 (ix ((10 * x1) + 2))) fun y1 =>
 ck (inR ((10 * x1) + 3) 110) (
 vb (s 53 (ix ((10 * x1) + 3))) fun y2 =>
 vb (irm x2 1440) fun y3 =>
 if y2 < y1 then (
  if y1 ≤ y3 then (
   f_X10_isTime_62 N s)
  else (
   if y2 < y3 then (
    some (0, s))
   else (
    f_X10_isTime_62 N s)))
 else (
  bd (f_X10_isIn N s y3 y1 y2) fun v5 s4 =>
  ck (isB v5) (some (v5, s4)))))
def f_X10_answer_139 (N : Nat) (k44 : Hp → Int32 → Int32 → Int32 → Int32 → Int32 → Option (Int32 × Hp)) (s : Hp) (x1 x2 x3 x4 x5 : Int32) : Option (Int32 × Hp) :=
 vb (x5 + 1) fun y16 =>
 k44 s x1 x2 x3 x4 y16
def f_X10_answer_107 (N : Nat) (k44 : Hp → Int32 → Int32 → Int32 → Int32 → Int32 → Option (Int32 × Hp)) (k107 : Hp → Int32 → Int32 → Int32 → Int32 → Int32 → Int32 → Option (Int32 × Hp)) (s : Hp) (x1 x2 x3 x4 x5 x6 : Int32) : Option (Int32 × Hp) :=
 ck (inR x5 60) (
 if (s 46 (ix x5)) < x6 then (
  f_X10_answer_139 N k44 s x1 x2 x3 x4 x5)
 else (
  if x4 = 0 then (
   f_X10_answer_139 N k44 s x1 x2 x3 x4 x5)
  else (
   bd (f_X10_isTime N s x2 x6) fun v14 s13 =>
   vb (x6 + 1) fun y15 =>
   k107 s13 x1 x2 x3 v14 x5 y15)))
def l_X10_answer_107 (N : Nat) (k44 : Hp → Int32 → Int32 → Int32 → Int32 → Int32 → Option (Int32 × Hp)) : Hp → Int32 → Int32 → Int32 → Int32 → Int32 → Int32 → Option (Int32 × Hp) := lp (fun _ _ _ _ _ _ _ => none) (f_X10_answer_107 N k44) N
def f_X10_answer_281 (N : Nat) (k161 : Hp → Int32 → Int32 → Int32 → Int32 → Int32 → Option (Int32 × Hp)) (s : Hp) (x1 x3 x5 x6 x7 : Int32) : Option (Int32 × Hp) :=
 vb (x7 + 1) fun y17 =>
 k161 s x1 x3 x5 x6 y17
def f_X10_answer_279 (N : Nat) (k161 : Hp → Int32 → Int32 → Int32 → Int32 → Int32 → Option (Int32 × Hp)) (s : Hp) (x1 x3 x5 x7 t0 : Int32) : Option (Int32 × Hp) :=
 f_X10_answer_281 N k161 s x1 x3 x5 t0 x7
def f_X10_answer_278 (N : Nat) (k161 : Hp → Int32 → Int32 → Int32 → Int32 → Int32 → Option (Int32 × Hp)) (s : Hp) (x1 x3 x5 x7 : Int32) : Option (Int32 × Hp) :=
 f_X10_answer_279 N k161 s x1 x3 x5 x7 0
def f_X10_answer_262 (N : Nat) (k161 : Hp → Int32 → Int32 → Int32 → Int32 → Int32 → Option (Int32 × Hp)) (s : Hp) (x1 x3 x6 x7 x8 t0 : Int32) : Option (Int32 × Hp) :=
 if x6 = 0 then (
  f_X10_answer_278 N k161 s x1 x3 t0 x7)
 else (
  if x8 = 0 then (
   f_X10_answer_278 N k161 s x1 x3 t0 x7)
  else (
   f_X10_answer_279 N k161 s x1 x3 t0 x7 1))
def f_X10_answer_257 (N : Nat) (k161 : Hp → Int32 → Int32 → Int32 → Int32 → Int32 → Option (Int32 × Hp)) (s : Hp) (x1 x3 x6 x7 x8 : Int32) : Option (Int32 × Hp) :=
 f_X10_answer_262 N k161 s x1 x3 x6 x7 x8 1
def f_X10_answer_245 (N : Nat) (k161 : Hp → Int32 → Int32 → Int32 → Int32 → Int32 → Option (Int32 × Hp)) (s : Hp) (x1 x3 x5 x6 x7 t0 : Int32) : Option (Int32 × Hp) :=
 if x5 = 0 then (
  if t0 = 0 then (
   f_X10_answer_262 N k161 s x1 x3 x6 x7 t0 0)
  else (
   f_X10_answer_257 N k161 s x1 x3 x6 x7 t0))
 else (
  f_X10_answer_257 N k161 s x1 x3 x6 x7 t0)
def f_X10_answer_244 (N : Nat) (k161 : Hp → Int32 → Int32 → Int32 → Int32 → Int32 → Option (Int32 × Hp)) (s : Hp) (x1 x3 x5 x6 x7 : Int32) : Option (Int32 × Hp) :=
 f_X10_answer_245 N k161 s x1 x3 x5 x6 x7 0
def f_X10_answer_161 (N : Nat) (k161 : Hp → Int32 → Int32 → Int32 → Int32 → Int32 → Option (Int32 × Hp)) (s : Hp) (x1 x3 x5 x6 x7 : Int32) : Option (Int32 × Hp) :=
 if 1024 ≤ x7 then (
  if x5 = 0 then (
   some (4, s))
  else (
   if x6 = 0 then (
    some (5, s))
   else (
    some (0, s))))
 else (
  bd (f_X10_isPlace N s x1 x7) fun v8 s7 =>
  if v8 = 0 then (
   f_X10_answer_281 N k161 s7 x1 x3 x5 x6 x7)
  else (
   ck (inR (x3 + 6) 110) (
   ck (inR (x3 + 7) 110) (
   bd (f_X10_isIn N s7 (irm x7 32) (s7 53 (ix (x3 + 6))) (s7 53 (ix (x3 + 7)))) fun v10 s9 =>
   if v10 = 0 then (
    f_X10_answer_244 N k161 s9 x1 x3 x5 x6 x7)
   else (
    ck (inR (x3 + 8) 110) (
    ck (inR (x3 + 9) 110) (
    bd (f_X10_isIn N s9 (x7 / 32) (s9 53 (ix (x3 + 8))) (s9 53 (ix (x3 + 9)))) fun v12 s11 =>
    if v12 = 0 then (
     f_X10_answer_244 N k161 s11 x1 x3 x5 x6 x7)
    else (
     f_X10_answer_245 N k161 s11 x1 x3 x5 x6 x7 1))))))))
def l_X10_answer_161 (N : Nat) : Hp → Int32 → Int32 → Int32 → Int32 → Int32 → Option (Int32 × Hp) := lp (fun _ _ _ _ _ _ => none) (f_X10_answer_161 N) N
def f_X10_answer_44 (N : Nat) (k44 : Hp → Int32 → Int32 → Int32 → Int32 → Int32 → Option (Int32 × Hp)) (s : Hp) (x1 x2 x3 x4 x5 : Int32) : Option (Int32 × Hp) :=
 if (s 36 8) ≤ x5 then (
  if x4 = 0 then (
   some (3, s))
  else (
   l_X10_answer_161 N s x1 x3 0 1 0))
 else (
  ck (inR x5 60) (
  if (s 50 (ix x5)) = x1 then (
   ck (inR x5 60) (
   ck (inR (x3 + 4) 110) (
   ck (inR (x3 + 5) 110) (
   bd (f_X10_isIn N s (s 47 (ix x5)) (s 53 (ix (x3 + 4))) (s 53 (ix (x3 + 5)))) fun v5 s4 =>
   if v5 = 0 then (
    some (2, s4))
   else (
    ck (inR x5 60) (
    vb (s4 45 (ix x5)) fun y6 =>
    l_X10_answer_107 N k44 s4 x1 x2 x3 x4 x5 y6))))))
  else (
   f_X10_answer_139 N k44 s x1 x2 x3 x4 x5)))
def l_X10_answer_44 (N : Nat) : Hp → Int32 → Int32 → Int32 → Int32 → Int32 → Option (Int32 × Hp) := lp (fun _ _ _ _ _ _ => none) (f_X10_answer_44 N) N
def f_X10_answer (N : Nat) (s : Hp) (x1 x2 : Int32) : Option (Int32 × Hp) :=
 vb (10 * x2) fun y1 =>
 ck (inR x1 60) (
 ck (inR (s 51 (ix x1)) 60) (
 ck (inR y1 110) (
 ck (inR (y1 + 1) 110) (
 bd (f_X10_isIn N s (s 44 (ix (s 51 (ix x1)))) (s 53 (ix y1)) (s 53 (ix (y1 + 1)))) fun v3 s2 =>
 if v3 = 0 then (
  some (1, s2))
 else (
  l_X10_answer_44 N s2 x1 x2 y1 1 0)))))
def f_X10_fits (N : Nat) (s : Hp) (x1 x2 : Int32) : Option (Int32 × Hp) :=
 bd (f_X10_isSender N s x1) fun v2 s1 =>
 if v2 = 0 then (
  some ((-1), s1))
 else (
  bd (f_X10_isIn N s1 x2 0 ((s1 36 23) - 1)) fun v4 s3 =>
  if v4 = 0 then (
   some ((-1), s3))
  else (
   bd (f_X10_answer N s3 x1 x2) fun v6 s5 =>
   some (v6, s5)))
def f_X10_rankOf (N : Nat) (s : Hp) (x0 : Int32) : Option (Int32 × Hp) :=
 if x0 = 0 then (
  some (0, s))
 else (
  some (6 - x0, s))
def f_X10_bestOf_39 (N : Nat) (k4 : Hp → Int32 → Int32 → Int32 → Option (Int32 × Hp)) (s : Hp) (x1 x2 x3 : Int32) : Option (Int32 × Hp) :=
 vb (x3 + 1) fun y9 =>
 k4 s x1 x2 y9
def f_X10_bestOf_37 (N : Nat) (k4 : Hp → Int32 → Int32 → Int32 → Option (Int32 × Hp)) (s : Hp) (x1 x3 : Int32) : Option (Int32 × Hp) :=
 f_X10_bestOf_39 N k4 s x1 x3 x3
def f_X10_bestOf_4 (N : Nat) (k4 : Hp → Int32 → Int32 → Int32 → Option (Int32 × Hp)) (s : Hp) (x1 x2 x3 : Int32) : Option (Int32 × Hp) :=
 if (s 36 23) ≤ x3 then (
  some (x2, s))
 else (
  if x2 < 0 then (
   f_X10_bestOf_37 N k4 s x1 x3)
  else (
   bd (f_X10_answer N s x1 x3) fun v2 s1 =>
   bd (f_X10_rankOf N s1 v2) fun v4 s3 =>
   bd (f_X10_answer N s3 x1 x2) fun v6 s5 =>
   bd (f_X10_rankOf N s5 v6) fun v8 s7 =>
   if v8 ≤ v4 then (
    f_X10_bestOf_39 N k4 s7 x1 x2 x3)
   else (
    f_X10_bestOf_37 N k4 s7 x1 x3)))
def l_X10_bestOf_4 (N : Nat) : Hp → Int32 → Int32 → Int32 → Option (Int32 × Hp) := lp (fun _ _ _ _ => none) (f_X10_bestOf_4 N) N
def f_X10_bestOf (N : Nat) (s : Hp) (x1 : Int32) : Option (Int32 × Hp) :=
 l_X10_bestOf_4 N s x1 (-1) 0
def f_X10_best (N : Nat) (s : Hp) (x1 x2 : Int32) : Option (Int32 × Hp) :=
 bd (f_X10_isSender N s x1) fun v2 s1 =>
 if v2 = 0 then (
  some ((-1), s1))
 else (
  if (s1 36 23) = 0 then (
   some ((-1), s1))
  else (
   bd (f_X10_isIn N s1 x2 0 1) fun v4 s3 =>
   if v4 = 0 then (
    some ((-1), s3))
   else (
    bd (f_X10_bestOf N s3 x1) fun v6 s5 =>
    if x2 = 0 then (
     some (v6, s5))
    else (
     bd (f_X10_answer N s5 x1 v6) fun v8 s7 =>
     some (v8, s7)))))
def f_X10_wanderers_41 (N : Nat) (k8 : Hp → Int32 → Int32 → Option (Int32 × Hp)) (s : Hp) (x2 t0 t1 : Int32) : Option (Int32 × Hp) :=
 vb (t0 + t1) fun y7 =>
 vb (x2 + 1) fun y8 =>
 k8 s y7 y8
def f_X10_wanderers_36 (N : Nat) (k8 : Hp → Int32 → Int32 → Option (Int32 × Hp)) (s : Hp) (x2 t0 : Int32) : Option (Int32 × Hp) :=
 f_X10_wanderers_41 N k8 s x2 t0 1
def f_X10_wanderers_8 (N : Nat) (k8 : Hp → Int32 → Int32 → Option (Int32 × Hp)) (s : Hp) (x1 x2 : Int32) : Option (Int32 × Hp) :=
 if (s 36 18) ≤ x2 then (
  some (x1, s))
 else (
  bd (f_X10_bestOf N s x2) fun v4 s3 =>
  if v4 < 0 then (
   f_X10_wanderers_36 N k8 s3 x2 x1)
  else (
   bd (f_X10_answer N s3 x2 v4) fun v6 s5 =>
   if v6 = 0 then (
    f_X10_wanderers_41 N k8 s5 x2 x1 0)
   else (
    f_X10_wanderers_36 N k8 s5 x2 x1)))
def l_X10_wanderers_8 (N : Nat) : Hp → Int32 → Int32 → Option (Int32 × Hp) := lp (fun _ _ _ => none) (f_X10_wanderers_8 N) N
def f_X10_wanderers (N : Nat) (s : Hp) : Option (Int32 × Hp) :=
 bd (f_X10_join N s) fun v2 s1 =>
 l_X10_wanderers_8 N s1 0 0
def f_X10_worth_95 (N : Nat) (k6 : Hp → Int32 → Int32 → Int32 → Int32 → Int32 → Option (Int32 × Hp)) (k44 : Hp → Int32 → Int32 → Int32 → Int32 → Int32 → Int32 → Int32 → Option (Int32 × Hp)) (s : Hp) (x1 x2 x3 x4 x5 x7 x8 : Int32) : Option (Int32 × Hp) :=
 vb (x8 + 1) fun y6 =>
 k44 s x1 x2 x3 x4 x5 x7 y6
def f_X10_worth_44 (N : Nat) (k6 : Hp → Int32 → Int32 → Int32 → Int32 → Int32 → Option (Int32 × Hp)) (k44 : Hp → Int32 → Int32 → Int32 → Int32 → Int32 → Int32 → Int32 → Option (Int32 × Hp)) (s : Hp) (x1 x2 x3 x4 x5 x7 x8 : Int32) : Option (Int32 × Hp) :=
 if x5 ≤ x8 then (
  vb (x4 + ((x2 + (x5 * x3)) - x7)) fun y3 =>
  vb (x5 + 1) fun y4 =>
  k6 s x1 x2 x3 y3 y4)
 else (
  ck (inR x8 4) (
  ck (inR x5 4) (
  if (s 55 (ix x8)) = (s 55 (ix x5)) then (
   if ((x2 + ((x8 + 1) * x3)) - 1) ≤ x7 then (
    f_X10_worth_95 N k6 k44 s x1 x2 x3 x4 x5 x7 x8)
   else (
    vb ((x2 + ((x8 + 1) * x3)) - 1) fun y5 =>
    f_X10_worth_95 N k6 k44 s x1 x2 x3 x4 x5 y5 x8))
  else (
   f_X10_worth_95 N k6 k44 s x1 x2 x3 x4 x5 x7 x8))))
def l_X10_worth_44 (N : Nat) (k6 : Hp → Int32 → Int32 → Int32 → Int32 → Int32 → Option (Int32 × Hp)) : Hp → Int32 → Int32 → Int32 → Int32 → Int32 → Int32 → Int32 → Option (Int32 × Hp) := lp (fun _ _ _ _ _ _ _ _ => none) (f_X10_worth_44 N k6) N
def f_X10_worth_6 (N : Nat) (k6 : Hp → Int32 → Int32 → Int32 → Int32 → Int32 → Option (Int32 × Hp)) (s : Hp) (x1 x2 x3 x4 x5 : Int32) : Option (Int32 × Hp) :=
 if x1 ≤ x5 then (
  some (x4, s))
 else (
  ck (inR x5 4) (
  ck (inR (s 55 (ix x5)) 16) (
  vb (s 57 (ix (s 55 (ix x5)))) fun y1 =>
  ck (inR ((16 * x5) + y1) 64) (
  vb (s 56 (ix ((16 * x5) + y1))) fun y2 =>
  l_X10_worth_44 N k6 s x1 x2 x3 x4 x5 y2 0))))
def l_X10_worth_6 (N : Nat) : Hp → Int32 → Int32 → Int32 → Int32 → Int32 → Option (Int32 × Hp) := lp (fun _ _ _ _ _ _ => none) (f_X10_worth_6 N) N
def f_X10_worth (N : Nat) (s : Hp) (x1 x2 x3 : Int32) : Option (Int32 × Hp) :=
 l_X10_worth_6 N s x1 x2 x3 0 0
def f_X10_latestAhead_74 (N : Nat) (k5 : Hp → Int32 → Int32 → Int32 → Int32 → Option (Int32 × Hp)) (s : Hp) (x1 x2 x3 x4 : Int32) : Option (Int32 × Hp) :=
 vb (x4 + 1) fun y1 =>
 k5 s x1 x2 x3 y1
def f_X10_latestAhead_63 (N : Nat) (k5 : Hp → Int32 → Int32 → Int32 → Int32 → Option (Int32 × Hp)) (s : Hp) (x1 x2 x3 x4 t0 : Int32) : Option (Int32 × Hp) :=
 if t0 ≤ x3 then (
  f_X10_latestAhead_74 N k5 s x1 x2 x3 x4)
 else (
  f_X10_latestAhead_74 N k5 s x1 x2 t0 x4)
def f_X10_latestAhead_5 (N : Nat) (k5 : Hp → Int32 → Int32 → Int32 → Int32 → Option (Int32 × Hp)) (s : Hp) (x1 x2 x3 x4 : Int32) : Option (Int32 × Hp) :=
 if (s 36 3) ≤ x4 then (
  some (x3, s))
 else (
  ck (inR x4 100) (
  if (s 40 (ix x4)) = x1 then (
   ck (inR x4 100) (
   if (s 41 (ix x4)) < x2 then (
    ck (inR x4 100) (
    if x2 ≤ (s 42 (ix x4)) then (
     f_X10_latestAhead_63 N k5 s x1 x2 x3 x4 (x2 - 1))
    else (
     ck (inR x4 100) (
     f_X10_latestAhead_63 N k5 s x1 x2 x3 x4 (s 42 (ix x4))))))
   else (
    f_X10_latestAhead_74 N k5 s x1 x2 x3 x4)))
  else (
   f_X10_latestAhead_74 N k5 s x1 x2 x3 x4)))
def l_X10_latestAhead_5 (N : Nat) : Hp → Int32 → Int32 → Int32 → Int32 → Option (Int32 × Hp) := lp (fun _ _ _ _ _ => none) (f_X10_latestAhead_5 N) N
def f_X10_latestAhead (N : Nat) (s : Hp) (x1 x2 : Int32) : Option (Int32 × Hp) :=
 l_X10_latestAhead_5 N s x1 x2 (-1) 0
def f_X10_sweep_93 (N : Nat) (k62 : Hp → Int32 → Int32 → Int32 → Int32 → Int32 → Int32 → Option (Int32 × Hp)) (s : Hp) (x1 x2 x3 x4 x5 x6 : Int32) : Option (Int32 × Hp) :=
 vb (x6 + 1) fun y11 =>
 k62 s x1 x2 x3 x4 x5 y11
def f_X10_sweep_111 (N : Nat) (k102 : Hp → Int32 → Int32 → Int32 → Int32 → Int32 → Option (Int32 × Hp)) (k111 : Hp → Int32 → Int32 → Int32 → Int32 → Int32 → Int32 → Option (Int32 × Hp)) (s : Hp) (x2 x3 x4 x5 x6 x7 : Int32) : Option (Int32 × Hp) :=
 if 16 ≤ x7 then (
  ck (inR x6 4) (sb (hset s 55 (ix x6) 0) fun s15 =>
  vb (x6 + 1) fun y16 =>
  k102 s15 x2 x3 x4 x5 y16))
 else (
  bd (f_X10_latestAhead N s x7 (x2 + (x6 * x4))) fun v18 s17 =>
  ck (inR ((16 * x6) + x7) 64) (sb (hset s17 56 (ix ((16 * x6) + x7)) v18) fun s19 =>
  vb (x7 + 1) fun y20 =>
  k111 s19 x2 x3 x4 x5 x6 y20))
def l_X10_sweep_111 (N : Nat) (k102 : Hp → Int32 → Int32 → Int32 → Int32 → Int32 → Option (Int32 × Hp)) : Hp → Int32 → Int32 → Int32 → Int32 → Int32 → Int32 → Option (Int32 × Hp) := lp (fun _ _ _ _ _ _ _ => none) (f_X10_sweep_111 N k102) N
def f_X10_sweep_301 (N : Nat) (k170 : Hp → Int32 → Int32 → Int32 → Int32 → Int32 → Int32 → Option (Int32 × Hp)) (s : Hp) (x2 x3 x4 x5 x6 x7 : Int32) : Option (Int32 × Hp) :=
 k170 s x2 x3 x4 x5 x6 x7
def f_X10_sweep_283 (N : Nat) (k170 : Hp → Int32 → Int32 → Int32 → Int32 → Int32 → Int32 → Option (Int32 × Hp)) (s : Hp) (x2 x3 x4 x5 x6 x9 t0 : Int32) : Option (Int32 × Hp) :=
 if t0 = 0 then (
  f_X10_sweep_301 N k170 s x2 x3 x4 x5 x6 t0)
 else (
  ck (inR x9 4) (
  ck (inR x9 4) (sb (hset s 55 (ix x9) ((s 55 (ix x9)) + 1)) fun s26 =>
  f_X10_sweep_301 N k170 s26 x2 x3 x4 x5 x6 t0)))
def f_X10_sweep_273 (N : Nat) (k170 : Hp → Int32 → Int32 → Int32 → Int32 → Int32 → Int32 → Option (Int32 × Hp)) (s : Hp) (x2 x3 x4 x5 x6 x9 : Int32) : Option (Int32 × Hp) :=
 if x9 < 0 then (
  f_X10_sweep_283 N k170 s x2 x3 x4 x5 x6 x9 0)
 else (
  f_X10_sweep_283 N k170 s x2 x3 x4 x5 x6 x9 1)
def f_X10_sweep_240 (N : Nat) (k170 : Hp → Int32 → Int32 → Int32 → Int32 → Int32 → Int32 → Option (Int32 × Hp)) (k240 : Hp → Int32 → Int32 → Int32 → Int32 → Int32 → Int32 → Option (Int32 × Hp)) (s : Hp) (x2 x3 x4 x5 x6 x9 : Int32) : Option (Int32 × Hp) :=
 if x9 < 0 then (
  f_X10_sweep_273 N k170 s x2 x3 x4 x5 x6 x9)
 else (
  ck (inR x9 4) (
  if (s 55 (ix x9)) = (x5 - 1) then (
   ck (inR x9 4) (sb (hset s 55 (ix x9) 0) fun s24 =>
   vb (x9 + (-1)) fun y25 =>
   k240 s24 x2 x3 x4 x5 x6 y25))
  else (
   f_X10_sweep_273 N k170 s x2 x3 x4 x5 x6 x9)))
def l_X10_sweep_240 (N : Nat) (k170 : Hp → Int32 → Int32 → Int32 → Int32 → Int32 → Int32 → Option (Int32 × Hp)) : Hp → Int32 → Int32 → Int32 → Int32 → Int32 → Int32 → Option (Int32 × Hp) := lp (fun _ _ _ _ _ _ _ => none) (f_X10_sweep_240 N k170) N
def f_X10_sweep_235 (N : Nat) (k170 : Hp → Int32 → Int32 → Int32 → Int32 → Int32 → Int32 → Option (Int32 × Hp)) (s : Hp) (x2 x3 x4 x5 x6 : Int32) : Option (Int32 × Hp) :=
 vb (x3 - 1) fun y21 =>
 l_X10_sweep_240 N k170 s x2 x3 x4 x5 x6 y21
def f_X10_sweep_204 (N : Nat) (k170 : Hp → Int32 → Int32 → Int32 → Int32 → Int32 → Int32 → Option (Int32 × Hp)) (k204 : Hp → Int32 → Int32 → Int32 → Int32 → Int32 → Int32 → Option (Int32 × Hp)) (s : Hp) (x2 x3 x4 x5 x6 x9 : Int32) : Option (Int32 × Hp) :=
 if x3 ≤ x9 then (
  f_X10_sweep_235 N k170 s x2 x3 x4 x5 x6)
 else (
  ck (inR x9 4) (
  ck (inR (s 55 (ix x9)) 16) (
  ck (inR x9 4) (sb (hset s 54 (ix x9) (s 57 (ix (s 55 (ix x9))))) fun s22 =>
  vb (x9 + 1) fun y23 =>
  k204 s22 x2 x3 x4 x5 x6 y23))))
def l_X10_sweep_204 (N : Nat) (k170 : Hp → Int32 → Int32 → Int32 → Int32 → Int32 → Int32 → Option (Int32 × Hp)) : Hp → Int32 → Int32 → Int32 → Int32 → Int32 → Int32 → Option (Int32 × Hp) := lp (fun _ _ _ _ _ _ _ => none) (f_X10_sweep_204 N k170) N
def f_X10_sweep_170 (N : Nat) (k170 : Hp → Int32 → Int32 → Int32 → Int32 → Int32 → Int32 → Option (Int32 × Hp)) (s : Hp) (x2 x3 x4 x5 x6 x7 : Int32) : Option (Int32 × Hp) :=
 if x7 = 0 then (
  some (x6, s))
 else (
  bd (f_X10_worth N s x3 x2 x4) fun v13 s12 =>
  if v13 ≤ x6 then (
   f_X10_sweep_235 N k170 s12 x2 x3 x4 x5 x6)
  else (
   sb (hset s12 36 31 x3) fun s14 =>
   l_X10_sweep_204 N k170 s14 x2 x3 x4 x5 v13 0))
def l_X10_sweep_170 (N : Nat) : Hp → Int32 → Int32 → Int32 → Int32 → Int32 → Int32 → Option (Int32 × Hp) := lp (fun _ _ _ _ _ _ _ => none) (f_X10_sweep_170 N) N
def f_X10_sweep_102 (N : Nat) (k102 : Hp → Int32 → Int32 → Int32 → Int32 → Int32 → Option (Int32 × Hp)) (s : Hp) (x2 x3 x4 x5 x6 : Int32) : Option (Int32 × Hp) :=
 if x3 ≤ x6 then (
  l_X10_sweep_170 N s x2 x3 x4 x5 (-1) 1)
 else (
  l_X10_sweep_111 N k102 s x2 x3 x4 x5 x6 0)
def l_X10_sweep_102 (N : Nat) : Hp → Int32 → Int32 → Int32 → Int32 → Int32 → Option (Int32 × Hp) := lp (fun _ _ _ _ _ _ => none) (f_X10_sweep_102 N) N
def f_X10_sweep_62 (N : Nat) (k62 : Hp → Int32 → Int32 → Int32 → Int32 → Int32 → Int32 → Option (Int32 × Hp)) (s : Hp) (x1 x2 x3 x4 x5 x6 : Int32) : Option (Int32 × Hp) :=
 if 16 ≤ x6 then (
  l_X10_sweep_102 N s x2 x3 x4 x5 0)
 else (
  if ((x1 >>> (x6 &&& 31)) &&& 1) = 0 then (
   f_X10_sweep_93 N k62 s x1 x2 x3 x4 x5 x6)
  else (
   ck (inR x5 16) (sb (hset s 57 (ix x5) x6) fun s9 =>
   vb (x5 + 1) fun y10 =>
   f_X10_sweep_93 N k62 s9 x1 x2 x3 x4 y10 x6)))
def l_X10_sweep_62 (N : Nat) : Hp → Int32 → Int32 → Int32 → Int32 → Int32 → Int32 → Option (Int32 × Hp) := lp (fun _ _ _ _ _ _ _ => none) (f_X10_sweep_62 N) N
def f_X10_sweep (N : Nat) (s : Hp) (x1 x2 x3 x4 : Int32) : Option (Int32 × Hp) :=
 bd (f_X10_isIn N s x1 1 65535) fun v2 s1 =>
 if v2 = 0 then (
  some ((-1), s1))
 else (
  bd (f_X10_isIn N s1 x2 0 9999) fun v4 s3 =>
  if v4 = 0 then (
   some ((-1), s3))
  else (
   bd (f_X10_isIn N s3 x3 1 4) fun v6 s5 =>
   if v6 = 0 then (
    some ((-1), s5))
   else (
    bd (f_X10_isIn N s5 x4 1 240) fun v8 s7 =>
    if v8 = 0 then (
     some ((-1), s7))
    else (
     if (x2 + (x3 * x4)) ≤ 10000 then (
      l_X10_sweep_62 N s7 x1 x2 x3 x4 0 0)
     else (
      some ((-1), s7))))))
def f_X10_slot (N : Nat) (s : Hp) (x1 : Int32) : Option (Int32 × Hp) :=
 bd (f_X10_isIn N s x1 0 ((s 36 31) - 1)) fun v2 s1 =>
 if v2 = 0 then (
  some ((-1), s1))
 else (
  ck (inR x1 4) (
  some (s1 54 (ix x1), s1)))
def f_X10_about_27 (N : Nat) (k4 : Hp → Int32 → Int32 → Int32 → Option (Int32 × Hp)) (s : Hp) (x1 x3 t0 t1 : Int32) : Option (Int32 × Hp) :=
 vb (t0 + t1) fun y1 =>
 vb (x3 + 1) fun y2 =>
 k4 s x1 y1 y2
def f_X10_about_4 (N : Nat) (k4 : Hp → Int32 → Int32 → Int32 → Option (Int32 × Hp)) (s : Hp) (x1 x2 x3 : Int32) : Option (Int32 × Hp) :=
 if (s 36 8) ≤ x3 then (
  if x1 = 0 then (
   some (s 36 0, s))
  else (
   if x1 = 1 then (
    some (s 36 3, s))
   else (
    if x1 = 2 then (
     some (s 36 8, s))
    else (
     if x1 = 3 then (
      some (s 36 23, s))
     else (
      if x1 = 4 then (
       some (s 36 16, s))
      else (
       if x1 = 5 then (
        some (s 36 17, s))
       else (
        if x1 = 6 then (
         some (s 36 22, s))
        else (
         if x1 = 7 then (
          some (x2, s))
         else (
          some ((-1), s))))))))))
 else (
  ck (inR x3 60) (
  if (s 48 (ix x3)) = 0 then (
   f_X10_about_27 N k4 s x1 x3 x2 0)
  else (
   f_X10_about_27 N k4 s x1 x3 x2 1)))
def l_X10_about_4 (N : Nat) : Hp → Int32 → Int32 → Int32 → Option (Int32 × Hp) := lp (fun _ _ _ _ => none) (f_X10_about_4 N) N
def f_X10_about (N : Nat) (s : Hp) (x1 : Int32) : Option (Int32 × Hp) :=
 l_X10_about_4 N s x1 0 0
end
section
set_option maxRecDepth 20000 in
set_option maxHeartbeats 2000000 in
theorem w_X9_isBelow {G : Gx} (hX : ok G cX9_isBelow 2 RX9 (some .boolean) 0 0) (hR : okR G) (hE : va_D (AW G.1) (wd G.1 (fun _ _ => 0))) (N : Nat) (s : Hp) (x0 x1 : Int32) : T G (f_X9_isBelow N s x0 x1) s 0 [(0, .int x0), (1, .int x1)] [] := by
  unfold f_X9_isBelow
  refine tr_iload_n hX 0 dX9_isBelow_0 rfl rfl ?_
  refine tr_if_lt hX 13 dX9_isBelow_1 (by decide) ?_ ?_
  · refine tr_iconst (v := 0) hX dX9_isBelow_13 rfl ?_
    exact tr_zret hX hR rfl dX9_isBelow_14
  · refine tr_iload_n hX 0 dX9_isBelow_4 rfl rfl ?_
    refine tr_iload_n hX 1 dX9_isBelow_5 rfl rfl ?_
    refine tr_icmp_ge hX 13 dX9_isBelow_6 (by decide) ?_ ?_
    · refine tr_iconst (v := 0) hX dX9_isBelow_13 rfl ?_
      exact tr_zret hX hR rfl dX9_isBelow_14
    · refine tr_iconst (v := 1) hX dX9_isBelow_9 rfl ?_
      refine tr_goto hX 14 dX9_isBelow_10 (by decide) ?_
      exact tr_zret hX hR rfl dX9_isBelow_14
theorem c_X9_isBelow (E : Ex) (hE : va_D (AW E) (wd E (fun _ _ => 0))) (N : Nat) (s : Hp) (x0 x1 : Int32) (r : Int32 × Hp) (h : f_X9_isBelow N s x0 x1 = some r) : CtrI E yX9_isBelow cX9_isBelow 2 (some .boolean) 0 0 [.int x0, .int x1] s r :=
  ctrI_of (by decide +kernel) hE (Nat.le_of_ble_eq_true rfl) h (fun G hX hR hG => by subst hG; exact w_X9_isBelow hX hR hE N s x0 x1)
set_option maxRecDepth 20000 in
set_option maxHeartbeats 2000000 in
theorem w_X4_add {G : Gx} (hX : ok G cX4_add 3 RX4 (some .int) 0 0) (hR : okR G) (hE : va_D (AW G.1) (wd G.1 (fun _ _ => 0))) (N : Nat) (s : Hp) (x1 x2 : Int32) : T G (f_X4_add N s x1 x2) s 0 [(0, rf G.1 1), (1, .int x1), (2, .int x2)] [] := by
  unfold f_X4_add
  refine tr_aload_n hX 0 dX4_add_0 rfl rfl ?_
  refine tr_getI hX 1 2 (by decide) rfl rfl rfl (by decide) gX4 wm_36 dX4_add_1 ?_
  refine tr_bipush (v := 6) hX dX4_add_4 rfl ?_
  refine tr_icmp_lt hX 11 dX4_add_6 (by decide) ?_ ?_
  · refine tr_aload_n hX 0 dX4_add_11 rfl rfl ?_
    refine tr_getR hX 1 0 (by decide) rfl rfl rfl (by decide) gX4 wm_32 dX4_add_12 ?_
    refine tr_aload_n hX 0 dX4_add_15 rfl rfl ?_
    refine tr_getI hX 1 2 (by decide) rfl rfl rfl (by decide) gX4 wm_36 dX4_add_16 ?_
    refine tr_iload_n hX 1 dX4_add_19 rfl rfl ?_
    refine tr_iast hX 2 (by decide) rfl dX4_add_20 fun s1 => ?_
    refine tr_aload_n hX 0 dX4_add_21 rfl rfl ?_
    refine tr_getR hX 1 1 (by decide) rfl rfl rfl (by decide) gX4 wm_34 dX4_add_22 ?_
    refine tr_aload_n hX 0 dX4_add_25 rfl rfl ?_
    refine tr_getI hX 1 2 (by decide) rfl rfl rfl (by decide) gX4 wm_36 dX4_add_26 ?_
    refine tr_iload_n hX 2 dX4_add_29 rfl rfl ?_
    refine tr_iast hX 3 (by decide) rfl dX4_add_30 fun s2 => ?_
    refine tr_aload_n hX 0 dX4_add_31 rfl rfl ?_
    refine tr_dup hX dX4_add_32 rfl ?_
    refine tr_getI hX 1 2 (by decide) rfl rfl rfl (by decide) gX4 wm_36 dX4_add_33 ?_
    refine tr_iconst (v := 1) hX dX4_add_36 rfl ?_
    refine tr_iadd hX dX4_add_37 ?_
    refine tr_putI hX 1 2 tyX4 tyX4_ok nmX4 (by decide) rfl rfl rfl (by decide) gX4 wm_36 rfl (by decide +kernel) dX4_add_38 fun s3 => ?_
    refine tr_aload_n hX 0 dX4_add_41 rfl rfl ?_
    refine tr_getI hX 1 2 (by decide) rfl rfl rfl (by decide) gX4 wm_36 dX4_add_42 ?_
    refine tr_iconst (v := 1) hX dX4_add_45 rfl ?_
    refine tr_isub hX dX4_add_46 ?_
    exact tr_iret hX hR dX4_add_47
  · refine tr_iconst (v := (-1)) hX dX4_add_9 rfl ?_
    exact tr_iret hX hR dX4_add_10
theorem c_X4_add (E : Ex) (hE : va_D (AW E) (wd E (fun _ _ => 0))) (N : Nat) (s : Hp) (x1 x2 : Int32) (r : Int32 × Hp) (h : f_X4_add N s x1 x2 = some r) : CtrI E yX4_add cX4_add 3 (some .int) 0 0 [rf E 1, .int x1, .int x2] s r :=
  ctrI_of (by decide +kernel) hE (Nat.le_of_ble_eq_true rfl) h (fun G hX hR hG => by subst hG; exact w_X4_add hX hR hE N s x1 x2)
set_option maxRecDepth 20000 in
set_option maxHeartbeats 2000000 in
theorem w_X9_post {G : Gx} (hX : ok G cX9_post 3 RX9 (some .int) 1 22) (hR : okR G) (hE : va_D (AW G.1) (wd G.1 (fun _ _ => 0))) (N : Nat) (s : Hp) (x1 x2 : Int32) : T G (f_X9_post N s x1 x2) s 0 [(0, rf G.1 0), (1, .int x1), (2, .int x2)] [] := by
  unfold f_X9_post
  refine tr_iload_n hX 1 dX9_post_0 rfl rfl ?_
  refine tr_bipush (v := 32) hX dX9_post_1 rfl ?_
  refine tr_callS hX [.int x1, .int 32] ks_X9_isBelow wm_320 (by decide) rfl rfl (Nat.le_of_ble_eq_true rfl) dX9_post_3 (fun v s2 hq => c_X9_isBelow G.1 hE N s x1 32 (v, s2) hq) fun v2 s1 => ?_
  refine tr_if_eq hX 30 dX9_post_6 (by decide) ?_ ?_
  · refine tr_iconst (v := (-1)) hX dX9_post_30 rfl ?_
    exact tr_iret hX hR dX9_post_31
  · refine tr_iload_n hX 2 dX9_post_9 rfl rfl ?_
    refine tr_bipush (v := 32) hX dX9_post_10 rfl ?_
    refine tr_callS hX [.int x2, .int 32] ks_X9_isBelow wm_320 (by decide) rfl rfl (Nat.le_of_ble_eq_true rfl) dX9_post_12 (fun v s2 hq => c_X9_isBelow G.1 hE N s1 x2 32 (v, s2) hq) fun v4 s3 => ?_
    refine tr_if_eq hX 30 dX9_post_15 (by decide) ?_ ?_
    · refine tr_iconst (v := (-1)) hX dX9_post_30 rfl ?_
      exact tr_iret hX hR dX9_post_31
    · refine tr_aload_n hX 0 dX9_post_18 rfl rfl ?_
      refine tr_getR hX 0 0 (by decide) rfl rfl rfl (by decide) gX9 wm_288 dX9_post_19 ?_
      refine tr_getNI hX 1 2 (by decide) rfl rfl rfl (by decide) gX4 wm_37 dX9_post_22 ?_
      refine tr_bipush (v := 6) hX dX9_post_25 rfl ?_
      refine tr_icmp_lt hX 32 dX9_post_27 (by decide) ?_ ?_
      · refine tr_aload_n hX 0 dX9_post_32 rfl rfl ?_
        refine tr_getR hX 0 0 (by decide) rfl rfl rfl (by decide) gX9 wm_288 dX9_post_33 ?_
        refine tr_iload_n hX 1 dX9_post_36 rfl rfl ?_
        refine tr_iload_n hX 2 dX9_post_37 rfl rfl ?_
        refine tr_callV hX 1 [.int x1, .int x2] kv_X4_add wm_323 (by decide) rfl rfl rfl (by decide) rfl rfl (Nat.le_of_ble_eq_true rfl) dX9_post_38 (fun v s2 hq => c_X4_add G.1 hE N s3 x1 x2 (v, s2) hq) fun v6 s5 => ?_
        exact tr_iret hX hR dX9_post_41
      · refine tr_iconst (v := (-1)) hX dX9_post_30 rfl ?_
        exact tr_iret hX hR dX9_post_31
theorem c_X9_post (E : Ex) (hE : va_D (AW E) (wd E (fun _ _ => 0))) (N : Nat) (s : Hp) (x1 x2 : Int32) (r : Int32 × Hp) (h : f_X9_post N s x1 x2 = some r) : CtrI E yX9_post cX9_post 3 (some .int) 1 22 [rf E 0, .int x1, .int x2] s r :=
  ctrI_of (by decide +kernel) hE (Nat.le_of_ble_eq_true rfl) h (fun G hX hR hG => by subst hG; exact w_X9_post hX hR hE N s x1 x2)
set_option maxRecDepth 20000 in
set_option maxHeartbeats 2000000 in
theorem w_X9_isStretch {G : Gx} (hX : ok G cX9_isStretch 2 RX9 (some .boolean) 0 0) (hR : okR G) (hE : va_D (AW G.1) (wd G.1 (fun _ _ => 0))) (N : Nat) (s : Hp) (x0 x1 : Int32) : T G (f_X9_isStretch N s x0 x1) s 0 [(0, .int x0), (1, .int x1)] [] := by
  unfold f_X9_isStretch
  refine tr_iload_n hX 0 dX9_isStretch_0 rfl rfl ?_
  refine tr_if_lt hX 20 dX9_isStretch_1 (by decide) ?_ ?_
  · refine tr_iconst (v := 0) hX dX9_isStretch_20 rfl ?_
    exact tr_zret hX hR rfl dX9_isStretch_21
  · refine tr_iload_n hX 0 dX9_isStretch_4 rfl rfl ?_
    refine tr_iload_n hX 1 dX9_isStretch_5 rfl rfl ?_
    refine tr_icmp_gt hX 20 dX9_isStretch_6 (by decide) ?_ ?_
    · refine tr_iconst (v := 0) hX dX9_isStretch_20 rfl ?_
      exact tr_zret hX hR rfl dX9_isStretch_21
    · refine tr_iload_n hX 1 dX9_isStretch_9 rfl rfl ?_
      refine tr_sipush (v := 10000) hX dX9_isStretch_10 rfl ?_
      refine tr_icmp_ge hX 20 dX9_isStretch_13 (by decide) ?_ ?_
      · refine tr_iconst (v := 0) hX dX9_isStretch_20 rfl ?_
        exact tr_zret hX hR rfl dX9_isStretch_21
      · refine tr_iconst (v := 1) hX dX9_isStretch_16 rfl ?_
        refine tr_goto hX 21 dX9_isStretch_17 (by decide) ?_
        exact tr_zret hX hR rfl dX9_isStretch_21
theorem c_X9_isStretch (E : Ex) (hE : va_D (AW E) (wd E (fun _ _ => 0))) (N : Nat) (s : Hp) (x0 x1 : Int32) (r : Int32 × Hp) (h : f_X9_isStretch N s x0 x1 = some r) : CtrI E yX9_isStretch cX9_isStretch 2 (some .boolean) 0 0 [.int x0, .int x1] s r :=
  ctrI_of (by decide +kernel) hE (Nat.le_of_ble_eq_true rfl) h (fun G hX hR hG => by subst hG; exact w_X9_isStretch hX hR hE N s x0 x1)
set_option maxRecDepth 20000 in
set_option maxHeartbeats 2000000 in
theorem w_X9_isHearing {G : Gx} (hX : ok G cX9_isHearing 5 RX9 (some .boolean) 1 21) (hR : okR G) (hE : va_D (AW G.1) (wd G.1 (fun _ _ => 0))) (N : Nat) (s : Hp) (x1 x2 x3 x4 : Int32) : T G (f_X9_isHearing N s x1 x2 x3 x4) s 0 [(0, rf G.1 0), (1, .int x1), (2, .int x2), (3, .int x3), (4, .int x4)] [] := by
  unfold f_X9_isHearing
  refine tr_iload_n hX 1 dX9_isHearing_0 rfl rfl ?_
  refine tr_aload_n hX 0 dX9_isHearing_1 rfl rfl ?_
  refine tr_getR hX 0 0 (by decide) rfl rfl rfl (by decide) gX9 wm_288 dX9_isHearing_2 ?_
  refine tr_getNI hX 1 2 (by decide) rfl rfl rfl (by decide) gX4 wm_37 dX9_isHearing_5 ?_
  refine tr_callS hX [.int x1, .int (s 1 2)] ks_X9_isBelow wm_320 (by decide) rfl rfl (Nat.le_of_ble_eq_true rfl) dX9_isHearing_8 (fun v s2 hq => c_X9_isBelow G.1 hE N s x1 (s 1 2) (v, s2) hq) fun v2 s1 => ?_
  refine tr_if_eq hX 36 dX9_isHearing_11 (by decide) ?_ ?_
  · refine tr_iconst (v := 0) hX dX9_isHearing_36 rfl ?_
    exact tr_zret hX hR rfl dX9_isHearing_37
  · refine tr_iload_n hX 2 dX9_isHearing_14 rfl rfl ?_
    refine tr_bipush (v := 16) hX dX9_isHearing_15 rfl ?_
    refine tr_callS hX [.int x2, .int 16] ks_X9_isBelow wm_320 (by decide) rfl rfl (Nat.le_of_ble_eq_true rfl) dX9_isHearing_17 (fun v s2 hq => c_X9_isBelow G.1 hE N s1 x2 16 (v, s2) hq) fun v4 s3 => ?_
    refine tr_if_eq hX 36 dX9_isHearing_20 (by decide) ?_ ?_
    · refine tr_iconst (v := 0) hX dX9_isHearing_36 rfl ?_
      exact tr_zret hX hR rfl dX9_isHearing_37
    · refine tr_iload_n hX 3 dX9_isHearing_23 rfl rfl ?_
      refine tr_iload hX 4 dX9_isHearing_24 rfl ?_
      refine tr_callS hX [.int x3, .int x4] ks_X9_isStretch wm_335 (by decide) rfl rfl (Nat.le_of_ble_eq_true rfl) dX9_isHearing_26 (fun v s2 hq => c_X9_isStretch G.1 hE N s3 x3 x4 (v, s2) hq) fun v6 s5 => ?_
      refine tr_if_eq hX 36 dX9_isHearing_29 (by decide) ?_ ?_
      · refine tr_iconst (v := 0) hX dX9_isHearing_36 rfl ?_
        exact tr_zret hX hR rfl dX9_isHearing_37
      · refine tr_iconst (v := 1) hX dX9_isHearing_32 rfl ?_
        refine tr_goto hX 37 dX9_isHearing_33 (by decide) ?_
        exact tr_zret hX hR rfl dX9_isHearing_37
theorem c_X9_isHearing (E : Ex) (hE : va_D (AW E) (wd E (fun _ _ => 0))) (N : Nat) (s : Hp) (x1 x2 x3 x4 : Int32) (r : Int32 × Hp) (h : f_X9_isHearing N s x1 x2 x3 x4 = some r) : CtrI E yX9_isHearing cX9_isHearing 5 (some .boolean) 1 21 [rf E 0, .int x1, .int x2, .int x3, .int x4] s r :=
  ctrI_of (by decide +kernel) hE (Nat.le_of_ble_eq_true rfl) h (fun G hX hR hG => by subst hG; exact w_X9_isHearing hX hR hE N s x1 x2 x3 x4)
set_option maxRecDepth 20000 in
set_option maxHeartbeats 2000000 in
theorem w_X7_add {G : Gx} (hX : ok G cX7_add 5 RX7 (some .int) 0 0) (hR : okR G) (hE : va_D (AW G.1) (wd G.1 (fun _ _ => 0))) (N : Nat) (s : Hp) (x1 x2 x3 x4 : Int32) : T G (f_X7_add N s x1 x2 x3 x4) s 0 [(0, rf G.1 4), (1, .int x1), (2, .int x2), (3, .int x3), (4, .int x4)] [] := by
  unfold f_X7_add
  refine tr_aload_n hX 0 dX7_add_0 rfl rfl ?_
  refine tr_getI hX 4 4 (by decide) rfl rfl rfl (by decide) gX7 wm_69 dX7_add_1 ?_
  refine tr_aload_n hX 0 dX7_add_4 rfl rfl ?_
  refine tr_getR hX 4 0 (by decide) rfl rfl rfl (by decide) gX7 wm_55 dX7_add_5 ?_
  refine tr_alen (v := 100) hX 5 (by decide) rfl rfl dX7_add_8 ?_
  refine tr_icmp_lt hX 14 dX7_add_9 (by decide) ?_ ?_
  · refine tr_aload_n hX 0 dX7_add_14 rfl rfl ?_
    refine tr_getR hX 4 0 (by decide) rfl rfl rfl (by decide) gX7 wm_55 dX7_add_15 ?_
    refine tr_aload_n hX 0 dX7_add_18 rfl rfl ?_
    refine tr_getI hX 4 4 (by decide) rfl rfl rfl (by decide) gX7 wm_69 dX7_add_19 ?_
    refine tr_iload_n hX 1 dX7_add_22 rfl rfl ?_
    refine tr_iast hX 5 (by decide) rfl dX7_add_23 fun s1 => ?_
    refine tr_aload_n hX 0 dX7_add_24 rfl rfl ?_
    refine tr_getR hX 4 1 (by decide) rfl rfl rfl (by decide) gX7 wm_58 dX7_add_25 ?_
    refine tr_aload_n hX 0 dX7_add_28 rfl rfl ?_
    refine tr_getI hX 4 4 (by decide) rfl rfl rfl (by decide) gX7 wm_69 dX7_add_29 ?_
    refine tr_iload_n hX 2 dX7_add_32 rfl rfl ?_
    refine tr_iast hX 6 (by decide) rfl dX7_add_33 fun s2 => ?_
    refine tr_aload_n hX 0 dX7_add_34 rfl rfl ?_
    refine tr_getR hX 4 2 (by decide) rfl rfl rfl (by decide) gX7 wm_61 dX7_add_35 ?_
    refine tr_aload_n hX 0 dX7_add_38 rfl rfl ?_
    refine tr_getI hX 4 4 (by decide) rfl rfl rfl (by decide) gX7 wm_69 dX7_add_39 ?_
    refine tr_iload_n hX 3 dX7_add_42 rfl rfl ?_
    refine tr_iast hX 7 (by decide) rfl dX7_add_43 fun s3 => ?_
    refine tr_aload_n hX 0 dX7_add_44 rfl rfl ?_
    refine tr_getR hX 4 3 (by decide) rfl rfl rfl (by decide) gX7 wm_65 dX7_add_45 ?_
    refine tr_aload_n hX 0 dX7_add_48 rfl rfl ?_
    refine tr_getI hX 4 4 (by decide) rfl rfl rfl (by decide) gX7 wm_69 dX7_add_49 ?_
    refine tr_iload hX 4 dX7_add_52 rfl ?_
    refine tr_iast hX 8 (by decide) rfl dX7_add_54 fun s4 => ?_
    refine tr_aload_n hX 0 dX7_add_55 rfl rfl ?_
    refine tr_dup hX dX7_add_56 rfl ?_
    refine tr_getI hX 4 4 (by decide) rfl rfl rfl (by decide) gX7 wm_69 dX7_add_57 ?_
    refine tr_iconst (v := 1) hX dX7_add_60 rfl ?_
    refine tr_iadd hX dX7_add_61 ?_
    refine tr_putI hX 4 4 tyX7 tyX7_ok nmX7 (by decide) rfl rfl rfl (by decide) gX7 wm_69 rfl (by decide +kernel) dX7_add_62 fun s5 => ?_
    refine tr_aload_n hX 0 dX7_add_65 rfl rfl ?_
    refine tr_getI hX 4 4 (by decide) rfl rfl rfl (by decide) gX7 wm_69 dX7_add_66 ?_
    refine tr_iconst (v := 1) hX dX7_add_69 rfl ?_
    refine tr_isub hX dX7_add_70 ?_
    exact tr_iret hX hR dX7_add_71
  · refine tr_iconst (v := (-1)) hX dX7_add_12 rfl ?_
    exact tr_iret hX hR dX7_add_13
theorem c_X7_add (E : Ex) (hE : va_D (AW E) (wd E (fun _ _ => 0))) (N : Nat) (s : Hp) (x1 x2 x3 x4 : Int32) (r : Int32 × Hp) (h : f_X7_add N s x1 x2 x3 x4 = some r) : CtrI E yX7_add cX7_add 5 (some .int) 0 0 [rf E 4, .int x1, .int x2, .int x3, .int x4] s r :=
  ctrI_of (by decide +kernel) hE (Nat.le_of_ble_eq_true rfl) h (fun G hX hR hG => by subst hG; exact w_X7_add hX hR hE N s x1 x2 x3 x4)
set_option maxRecDepth 20000 in
set_option maxHeartbeats 2000000 in
theorem w_X9_listened {G : Gx} (hX : ok G cX9_listened 5 RX9 (some .int) 2 45) (hR : okR G) (hE : va_D (AW G.1) (wd G.1 (fun _ _ => 0))) (N : Nat) (s : Hp) (x1 x2 x3 x4 : Int32) : T G (f_X9_listened N s x1 x2 x3 x4) s 0 [(0, rf G.1 0), (1, .int x1), (2, .int x2), (3, .int x3), (4, .int x4)] [] := by
  unfold f_X9_listened
  refine tr_aload_n hX 0 dX9_listened_0 rfl rfl ?_
  refine tr_iload_n hX 1 dX9_listened_1 rfl rfl ?_
  refine tr_iload_n hX 2 dX9_listened_2 rfl rfl ?_
  refine tr_iload_n hX 3 dX9_listened_3 rfl rfl ?_
  refine tr_iload hX 4 dX9_listened_4 rfl ?_
  refine tr_callV hX 0 [.int x1, .int x2, .int x3, .int x4] kv_X9_isHearing wm_331 (by decide) rfl rfl rfl (by decide) rfl rfl (Nat.le_of_ble_eq_true rfl) dX9_listened_6 (fun v s2 hq => c_X9_isHearing G.1 hE N s x1 x2 x3 x4 (v, s2) hq) fun v2 s1 => ?_
  refine tr_if_eq hX 24 dX9_listened_9 (by decide) ?_ ?_
  · refine tr_iconst (v := (-1)) hX dX9_listened_24 rfl ?_
    exact tr_iret hX hR dX9_listened_25
  · refine tr_aload_n hX 0 dX9_listened_12 rfl rfl ?_
    refine tr_getR hX 0 1 (by decide) rfl rfl rfl (by decide) gX9 wm_289 dX9_listened_13 ?_
    refine tr_getNI hX 4 4 (by decide) rfl rfl rfl (by decide) gX7 wm_72 dX9_listened_16 ?_
    refine tr_bipush (v := 100) hX dX9_listened_19 rfl ?_
    refine tr_icmp_lt hX 26 dX9_listened_21 (by decide) ?_ ?_
    · refine tr_aload_n hX 0 dX9_listened_26 rfl rfl ?_
      refine tr_getR hX 0 1 (by decide) rfl rfl rfl (by decide) gX9 wm_289 dX9_listened_27 ?_
      refine tr_iload_n hX 1 dX9_listened_30 rfl rfl ?_
      refine tr_iload_n hX 2 dX9_listened_31 rfl rfl ?_
      refine tr_iload_n hX 3 dX9_listened_32 rfl rfl ?_
      refine tr_iload hX 4 dX9_listened_33 rfl ?_
      refine tr_callV hX 4 [.int x1, .int x2, .int x3, .int x4] kv_X7_add wm_338 (by decide) rfl rfl rfl (by decide) rfl rfl (Nat.le_of_ble_eq_true rfl) dX9_listened_35 (fun v s2 hq => c_X7_add G.1 hE N s1 x1 x2 x3 x4 (v, s2) hq) fun v4 s3 => ?_
      refine tr_iconst (v := 1) hX dX9_listened_38 rfl ?_
      refine tr_iadd hX dX9_listened_39 ?_
      exact tr_iret hX hR dX9_listened_40
    · refine tr_iconst (v := (-1)) hX dX9_listened_24 rfl ?_
      exact tr_iret hX hR dX9_listened_25
theorem c_X9_listened (E : Ex) (hE : va_D (AW E) (wd E (fun _ _ => 0))) (N : Nat) (s : Hp) (x1 x2 x3 x4 : Int32) (r : Int32 × Hp) (h : f_X9_listened N s x1 x2 x3 x4 = some r) : CtrI E yX9_listened cX9_listened 5 (some .int) 2 45 [rf E 0, .int x1, .int x2, .int x3, .int x4] s r :=
  ctrI_of (by decide +kernel) hE (Nat.le_of_ble_eq_true rfl) h (fun G hX hR hG => by subst hG; exact w_X9_listened hX hR hE N s x1 x2 x3 x4)
set_option maxRecDepth 20000 in
set_option maxHeartbeats 2000000 in
theorem w_X7_openBehind_64 {G : Gx} (hX : ok G cX7_openBehind 6 RX7 (some .int) 1 21) (hR : okR G) (hE : va_D (AW G.1) (wd G.1 (fun _ _ => 0))) (N : Nat) (k6 : Hp → Int32 → Int32 → Int32 → Int32 → Int32 → Option (Int32 × Hp)) (hk6 : ∀ (s : Hp) (x1 x2 x3 x4 x5 : Int32), T G (k6 s x1 x2 x3 x4 x5) s 6 [(0, rf G.1 4), (1, .int x1), (2, .int x2), (3, .int x3), (4, .int x4), (5, .int x5)] []) (s : Hp) (x1 x2 x3 x4 x5 : Int32) : T G (f_X7_openBehind_64 N k6 s x1 x2 x3 x4 x5) s 64 [(0, rf G.1 4), (1, .int x1), (2, .int x2), (3, .int x3), (4, .int x4), (5, .int x5)] [] := by
  unfold f_X7_openBehind_64
  refine tr_iincB (b := 1) (lv2 := fun y2 => [(5, .int y2), (0, rf G.1 4), (1, .int x1), (2, .int x2), (3, .int x3), (4, .int x4)]) hX 5 dX7_openBehind_64 rfl rfl (by decide) (fun _ => rfl) fun y2 => ?_
  refine tr_goto hX 6 dX7_openBehind_67 (by decide) ?_
  refine tr_lv (lv2 := [(0, rf G.1 4), (1, .int x1), (2, .int x2), (3, .int x3), (4, .int x4), (5, .int y2)]) [1, 2, 3, 4, 5, 0] rfl ?_
  exact hk6 s x1 x2 x3 x4 y2
set_option maxRecDepth 20000 in
set_option maxHeartbeats 2000000 in
theorem w_X7_openBehind_6 {G : Gx} (hX : ok G cX7_openBehind 6 RX7 (some .int) 1 21) (hR : okR G) (hE : va_D (AW G.1) (wd G.1 (fun _ _ => 0))) (N : Nat) (k6 : Hp → Int32 → Int32 → Int32 → Int32 → Int32 → Option (Int32 × Hp)) (hk6 : ∀ (s : Hp) (x1 x2 x3 x4 x5 : Int32), T G (k6 s x1 x2 x3 x4 x5) s 6 [(0, rf G.1 4), (1, .int x1), (2, .int x2), (3, .int x3), (4, .int x4), (5, .int x5)] []) (s : Hp) (x1 x2 x3 x4 x5 : Int32) : T G (f_X7_openBehind_6 N k6 s x1 x2 x3 x4 x5) s 6 [(0, rf G.1 4), (1, .int x1), (2, .int x2), (3, .int x3), (4, .int x4), (5, .int x5)] [] := by
  unfold f_X7_openBehind_6
  refine tr_iload hX 5 dX7_openBehind_6 rfl ?_
  refine tr_aload_n hX 0 dX7_openBehind_8 rfl rfl ?_
  refine tr_getI hX 4 4 (by decide) rfl rfl rfl (by decide) gX7 wm_69 dX7_openBehind_9 ?_
  refine tr_icmp_ge hX 70 dX7_openBehind_12 (by decide) ?_ ?_
  · refine tr_iload hX 4 dX7_openBehind_70 rfl ?_
    exact tr_iret hX hR dX7_openBehind_72
  · refine tr_aload_n hX 0 dX7_openBehind_15 rfl rfl ?_
    refine tr_getR hX 4 0 (by decide) rfl rfl rfl (by decide) gX7 wm_55 dX7_openBehind_16 ?_
    refine tr_iload hX 5 dX7_openBehind_19 rfl ?_
    refine tr_iald hX 5 (by decide) rfl dX7_openBehind_21 ?_
    refine tr_iload_n hX 1 dX7_openBehind_22 rfl rfl ?_
    refine tr_icmp_ne hX 64 dX7_openBehind_23 (by decide) ?_ ?_
    · exact w_X7_openBehind_64 hX hR hE N k6 hk6 s x1 x2 x3 x4 x5
    · refine tr_aload_n hX 0 dX7_openBehind_26 rfl rfl ?_
      refine tr_getR hX 4 1 (by decide) rfl rfl rfl (by decide) gX7 wm_58 dX7_openBehind_27 ?_
      refine tr_iload hX 5 dX7_openBehind_30 rfl ?_
      refine tr_iald hX 6 (by decide) rfl dX7_openBehind_32 ?_
      refine tr_iload_n hX 2 dX7_openBehind_33 rfl rfl ?_
      refine tr_icmp_ne hX 64 dX7_openBehind_34 (by decide) ?_ ?_
      · exact w_X7_openBehind_64 hX hR hE N k6 hk6 s x1 x2 x3 x4 x5
      · refine tr_aload_n hX 0 dX7_openBehind_37 rfl rfl ?_
        refine tr_getR hX 4 2 (by decide) rfl rfl rfl (by decide) gX7 wm_61 dX7_openBehind_38 ?_
        refine tr_iload hX 5 dX7_openBehind_41 rfl ?_
        refine tr_iald hX 7 (by decide) rfl dX7_openBehind_43 ?_
        refine tr_iload_n hX 3 dX7_openBehind_44 rfl rfl ?_
        refine tr_icmp_gt hX 64 dX7_openBehind_45 (by decide) ?_ ?_
        · exact w_X7_openBehind_64 hX hR hE N k6 hk6 s x1 x2 x3 x4 x5
        · refine tr_iload hX 4 dX7_openBehind_48 rfl ?_
          refine tr_aload_n hX 0 dX7_openBehind_50 rfl rfl ?_
          refine tr_getR hX 4 3 (by decide) rfl rfl rfl (by decide) gX7 wm_65 dX7_openBehind_51 ?_
          refine tr_iload hX 5 dX7_openBehind_54 rfl ?_
          refine tr_iald hX 8 (by decide) rfl dX7_openBehind_56 ?_
          refine tr_iconst (v := 1) hX dX7_openBehind_57 rfl ?_
          refine tr_iadd hX dX7_openBehind_58 ?_
          refine tr_max hX wm_52 wm_53 wm_4 wm_54 (by decide) (by decide) dX7_openBehind_59 ?_
          refine tr_istoreB (lv2 := fun y1 => [(4, .int y1), (0, rf G.1 4), (1, .int x1), (2, .int x2), (3, .int x3), (5, .int x5)]) hX dX7_openBehind_62 (by decide) (fun _ => rfl) fun y1 => ?_
          refine tr_lv (lv2 := [(0, rf G.1 4), (1, .int x1), (2, .int x2), (3, .int x3), (4, .int y1), (5, .int x5)]) [1, 2, 3, 4, 0, 5] rfl ?_
          exact w_X7_openBehind_64 hX hR hE N k6 hk6 s x1 x2 x3 y1 x5
theorem wl_X7_openBehind_6 {G : Gx} (hX : ok G cX7_openBehind 6 RX7 (some .int) 1 21) (hR : okR G) (hE : va_D (AW G.1) (wd G.1 (fun _ _ => 0))) (N : Nat) : ∀ (n : Nat) (s : Hp) (x1 x2 x3 x4 x5 : Int32), T G (lp (fun _ _ _ _ _ _ => none) (f_X7_openBehind_6 N) n s x1 x2 x3 x4 x5) s 6 [(0, rf G.1 4), (1, .int x1), (2, .int x2), (3, .int x3), (4, .int x4), (5, .int x5)] [] := by
  intro n
  induction n with
  | zero => exact fun s x1 x2 x3 x4 x5 h => nomatch (show (none : Option (Int32 × Hp)) = some _ from h)
  | succ n ih => exact fun s x1 x2 x3 x4 x5 => w_X7_openBehind_6 hX hR hE N _ ih s x1 x2 x3 x4 x5
set_option maxRecDepth 20000 in
set_option maxHeartbeats 2000000 in
theorem w_X7_openBehind {G : Gx} (hX : ok G cX7_openBehind 6 RX7 (some .int) 1 21) (hR : okR G) (hE : va_D (AW G.1) (wd G.1 (fun _ _ => 0))) (N : Nat) (s : Hp) (x1 x2 x3 : Int32) : T G (f_X7_openBehind N s x1 x2 x3) s 0 [(0, rf G.1 4), (1, .int x1), (2, .int x2), (3, .int x3)] [] := by
  unfold f_X7_openBehind
  refine tr_iload_n hX 3 dX7_openBehind_0 rfl rfl ?_
  refine tr_istore (lv2 := [(4, .int x3), (0, rf G.1 4), (1, .int x1), (2, .int x2), (3, .int x3)]) hX dX7_openBehind_1 (by decide) rfl ?_
  refine tr_iconst (v := 0) hX dX7_openBehind_3 rfl ?_
  refine tr_istore (lv2 := [(5, .int 0), (4, .int x3), (0, rf G.1 4), (1, .int x1), (2, .int x2), (3, .int x3)]) hX dX7_openBehind_4 (by decide) rfl ?_
  refine tr_lv (lv2 := [(0, rf G.1 4), (1, .int x1), (2, .int x2), (3, .int x3), (4, .int x3), (5, .int 0)]) [2, 3, 4, 5, 1, 0] rfl ?_
  exact wl_X7_openBehind_6 hX hR hE N N s x1 x2 x3 x3 0
theorem c_X7_openBehind (E : Ex) (hE : va_D (AW E) (wd E (fun _ _ => 0))) (N : Nat) (s : Hp) (x1 x2 x3 : Int32) (r : Int32 × Hp) (h : f_X7_openBehind N s x1 x2 x3 = some r) : CtrI E yX7_openBehind cX7_openBehind 6 (some .int) 1 21 [rf E 4, .int x1, .int x2, .int x3] s r :=
  ctrI_of (by decide +kernel) hE (Nat.le_of_ble_eq_true rfl) h (fun G hX hR hG => by subst hG; exact w_X7_openBehind hX hR hE N s x1 x2 x3)
set_option maxRecDepth 20000 in
set_option maxHeartbeats 2000000 in
theorem w_X7_holdsEach_38 {G : Gx} (hX : ok G cX7_holdsEach 7 RX7 (some .boolean) 2 46) (hR : okR G) (hE : va_D (AW G.1) (wd G.1 (fun _ _ => 0))) (N : Nat) (s : Hp) (x4 x5 : Int32) : T G (f_X7_holdsEach_38 N s x4 x5) s 38 [(4, .int x4), (5, .int x5)] [] := by
  unfold f_X7_holdsEach_38
  refine tr_iload hX 1 dX7_holdsEach_38 rfl ?_
  refine tr_iload hX 0 dX7_holdsEach_40 rfl ?_
  refine tr_icmp_le hX 49 dX7_holdsEach_42 (by decide) ?_ ?_
  · refine tr_iconst (v := 0) hX dX7_holdsEach_49 rfl ?_
    exact tr_zret hX hR rfl dX7_holdsEach_50
  · refine tr_iconst (v := 1) hX dX7_holdsEach_45 rfl ?_
    refine tr_goto hX 50 dX7_holdsEach_46 (by decide) ?_
    exact tr_zret hX hR rfl dX7_holdsEach_50
set_option maxRecDepth 20000 in
set_option maxHeartbeats 2000000 in
theorem w_X7_holdsEach_6 {G : Gx} (hX : ok G cX7_holdsEach 7 RX7 (some .boolean) 2 46) (hR : okR G) (hE : va_D (AW G.1) (wd G.1 (fun _ _ => 0))) (N : Nat) (k6 : Hp → Int32 → Int32 → Int32 → Int32 → Int32 → Option (Int32 × Hp)) (hk6 : ∀ (s : Hp) (x1 x2 x4 x5 x6 : Int32), T G (k6 s x1 x2 x4 x5 x6) s 6 [(0, rf G.1 4), (1, .int x1), (2, .int x2), (4, .int x4), (5, .int x5), (6, .int x6)] []) (s : Hp) (x1 x2 x4 x5 x6 : Int32) : T G (f_X7_holdsEach_6 N k6 s x1 x2 x4 x5 x6) s 6 [(0, rf G.1 4), (1, .int x1), (2, .int x2), (4, .int x4), (5, .int x5), (6, .int x6)] [] := by
  unfold f_X7_holdsEach_6
  refine tr_iload hX 5 dX7_holdsEach_6 rfl ?_
  refine tr_aload_n hX 0 dX7_holdsEach_8 rfl rfl ?_
  refine tr_getI hX 4 4 (by decide) rfl rfl rfl (by decide) gX7 wm_69 dX7_holdsEach_9 ?_
  refine tr_icmp_ge hX 38 dX7_holdsEach_12 (by decide) ?_ ?_
  · refine tr_lv (lv2 := [(4, .int x4), (5, .int x5)]) [3, 4] rfl ?_
    exact w_X7_holdsEach_38 hX hR hE N s x4 x5
  · refine tr_iload hX 4 dX7_holdsEach_15 rfl ?_
    refine tr_iload hX 3 dX7_holdsEach_17 rfl ?_
    refine tr_icmp_gt hX 38 dX7_holdsEach_19 (by decide) ?_ ?_
    · refine tr_lv (lv2 := [(4, .int x4), (5, .int x5)]) [3, 4] rfl ?_
      exact w_X7_holdsEach_38 hX hR hE N s x4 x5
    · refine tr_aload_n hX 0 dX7_holdsEach_22 rfl rfl ?_
      refine tr_iload_n hX 1 dX7_holdsEach_23 rfl rfl ?_
      refine tr_iload_n hX 2 dX7_holdsEach_24 rfl rfl ?_
      refine tr_iload hX 4 dX7_holdsEach_25 rfl ?_
      refine tr_callV hX 4 [.int x1, .int x2, .int x5] kv_X7_openBehind wm_350 (by decide) rfl rfl rfl (by decide) rfl rfl (Nat.le_of_ble_eq_true rfl) dX7_holdsEach_27 (fun v s2 hq => c_X7_openBehind G.1 hE N s x1 x2 x5 (v, s2) hq) fun v2 s1 => ?_
      refine tr_istore (lv2 := [(5, .int v2), (0, rf G.1 4), (1, .int x1), (2, .int x2), (4, .int x4), (6, .int x6)]) hX dX7_holdsEach_30 (by decide) rfl ?_
      refine tr_iincB (b := 1) (lv2 := fun y3 => [(6, .int y3), (5, .int v2), (0, rf G.1 4), (1, .int x1), (2, .int x2), (4, .int x4)]) hX 5 dX7_holdsEach_32 rfl rfl (by decide) (fun _ => rfl) fun y3 => ?_
      refine tr_goto hX 6 dX7_holdsEach_35 (by decide) ?_
      refine tr_lv (lv2 := [(0, rf G.1 4), (1, .int x1), (2, .int x2), (4, .int x4), (5, .int v2), (6, .int y3)]) [2, 3, 4, 5, 1, 0] rfl ?_
      exact hk6 s1 x1 x2 x4 v2 y3
theorem wl_X7_holdsEach_6 {G : Gx} (hX : ok G cX7_holdsEach 7 RX7 (some .boolean) 2 46) (hR : okR G) (hE : va_D (AW G.1) (wd G.1 (fun _ _ => 0))) (N : Nat) : ∀ (n : Nat) (s : Hp) (x1 x2 x4 x5 x6 : Int32), T G (lp (fun _ _ _ _ _ _ => none) (f_X7_holdsEach_6 N) n s x1 x2 x4 x5 x6) s 6 [(0, rf G.1 4), (1, .int x1), (2, .int x2), (4, .int x4), (5, .int x5), (6, .int x6)] [] := by
  intro n
  induction n with
  | zero => exact fun s x1 x2 x4 x5 x6 h => nomatch (show (none : Option (Int32 × Hp)) = some _ from h)
  | succ n ih => exact fun s x1 x2 x4 x5 x6 => w_X7_holdsEach_6 hX hR hE N _ ih s x1 x2 x4 x5 x6
set_option maxRecDepth 20000 in
set_option maxHeartbeats 2000000 in
theorem w_X7_holdsEach {G : Gx} (hX : ok G cX7_holdsEach 7 RX7 (some .boolean) 2 46) (hR : okR G) (hE : va_D (AW G.1) (wd G.1 (fun _ _ => 0))) (N : Nat) (s : Hp) (x1 x2 x3 x4 : Int32) : T G (f_X7_holdsEach N s x1 x2 x3 x4) s 0 [(0, rf G.1 4), (1, .int x1), (2, .int x2), (3, .int x3), (4, .int x4)] [] := by
  unfold f_X7_holdsEach
  refine tr_iload_n hX 3 dX7_holdsEach_0 rfl rfl ?_
  refine tr_istore (lv2 := [(5, .int x3), (0, rf G.1 4), (1, .int x1), (2, .int x2), (3, .int x3), (4, .int x4)]) hX dX7_holdsEach_1 (by decide) rfl ?_
  refine tr_iconst (v := 0) hX dX7_holdsEach_3 rfl ?_
  refine tr_istore (lv2 := [(6, .int 0), (5, .int x3), (0, rf G.1 4), (1, .int x1), (2, .int x2), (3, .int x3), (4, .int x4)]) hX dX7_holdsEach_4 (by decide) rfl ?_
  refine tr_lv (lv2 := [(0, rf G.1 4), (1, .int x1), (2, .int x2), (4, .int x4), (5, .int x3), (6, .int 0)]) [2, 3, 4, 6, 1, 0] rfl ?_
  exact wl_X7_holdsEach_6 hX hR hE N N s x1 x2 x4 x3 0
theorem c_X7_holdsEach (E : Ex) (hE : va_D (AW E) (wd E (fun _ _ => 0))) (N : Nat) (s : Hp) (x1 x2 x3 x4 : Int32) (r : Int32 × Hp) (h : f_X7_holdsEach N s x1 x2 x3 x4 = some r) : CtrI E yX7_holdsEach cX7_holdsEach 7 (some .boolean) 2 46 [rf E 4, .int x1, .int x2, .int x3, .int x4] s r :=
  ctrI_of (by decide +kernel) hE (Nat.le_of_ble_eq_true rfl) h (fun G hX hR hG => by subst hG; exact w_X7_holdsEach hX hR hE N s x1 x2 x3 x4)
set_option maxRecDepth 20000 in
set_option maxHeartbeats 2000000 in
theorem w_X7_add_b {G : Gx} (hX : ok G cX7_add 5 RX7 (some .int) 0 0) (hR : okR G) (hE : va_D (AW G.1) (wd G.1 (fun _ _ => 0))) (N : Nat) (s : Hp) (x1 x2 x3 x4 : Int32) : T G (f_X7_add_b N s x1 x2 x3 x4) s 0 [(0, rf G.1 10), (1, .int x1), (2, .int x2), (3, .int x3), (4, .int x4)] [] := by
  unfold f_X7_add_b
  refine tr_aload_n hX 0 dX7_add_0 rfl rfl ?_
  refine tr_getI hX 10 4 (by decide) rfl rfl rfl (by decide) gX7 wm_69 dX7_add_1 ?_
  refine tr_aload_n hX 0 dX7_add_4 rfl rfl ?_
  refine tr_getR hX 10 0 (by decide) rfl rfl rfl (by decide) gX7 wm_55 dX7_add_5 ?_
  refine tr_alen (v := 60) hX 11 (by decide) rfl rfl dX7_add_8 ?_
  refine tr_icmp_lt hX 14 dX7_add_9 (by decide) ?_ ?_
  · refine tr_aload_n hX 0 dX7_add_14 rfl rfl ?_
    refine tr_getR hX 10 0 (by decide) rfl rfl rfl (by decide) gX7 wm_55 dX7_add_15 ?_
    refine tr_aload_n hX 0 dX7_add_18 rfl rfl ?_
    refine tr_getI hX 10 4 (by decide) rfl rfl rfl (by decide) gX7 wm_69 dX7_add_19 ?_
    refine tr_iload_n hX 1 dX7_add_22 rfl rfl ?_
    refine tr_iast hX 11 (by decide) rfl dX7_add_23 fun s1 => ?_
    refine tr_aload_n hX 0 dX7_add_24 rfl rfl ?_
    refine tr_getR hX 10 1 (by decide) rfl rfl rfl (by decide) gX7 wm_58 dX7_add_25 ?_
    refine tr_aload_n hX 0 dX7_add_28 rfl rfl ?_
    refine tr_getI hX 10 4 (by decide) rfl rfl rfl (by decide) gX7 wm_69 dX7_add_29 ?_
    refine tr_iload_n hX 2 dX7_add_32 rfl rfl ?_
    refine tr_iast hX 12 (by decide) rfl dX7_add_33 fun s2 => ?_
    refine tr_aload_n hX 0 dX7_add_34 rfl rfl ?_
    refine tr_getR hX 10 2 (by decide) rfl rfl rfl (by decide) gX7 wm_61 dX7_add_35 ?_
    refine tr_aload_n hX 0 dX7_add_38 rfl rfl ?_
    refine tr_getI hX 10 4 (by decide) rfl rfl rfl (by decide) gX7 wm_69 dX7_add_39 ?_
    refine tr_iload_n hX 3 dX7_add_42 rfl rfl ?_
    refine tr_iast hX 13 (by decide) rfl dX7_add_43 fun s3 => ?_
    refine tr_aload_n hX 0 dX7_add_44 rfl rfl ?_
    refine tr_getR hX 10 3 (by decide) rfl rfl rfl (by decide) gX7 wm_65 dX7_add_45 ?_
    refine tr_aload_n hX 0 dX7_add_48 rfl rfl ?_
    refine tr_getI hX 10 4 (by decide) rfl rfl rfl (by decide) gX7 wm_69 dX7_add_49 ?_
    refine tr_iload hX 4 dX7_add_52 rfl ?_
    refine tr_iast hX 14 (by decide) rfl dX7_add_54 fun s4 => ?_
    refine tr_aload_n hX 0 dX7_add_55 rfl rfl ?_
    refine tr_dup hX dX7_add_56 rfl ?_
    refine tr_getI hX 10 4 (by decide) rfl rfl rfl (by decide) gX7 wm_69 dX7_add_57 ?_
    refine tr_iconst (v := 1) hX dX7_add_60 rfl ?_
    refine tr_iadd hX dX7_add_61 ?_
    refine tr_putI hX 10 4 tyX7 tyX7_ok nmX7 (by decide) rfl rfl rfl (by decide) gX7 wm_69 rfl (by decide +kernel) dX7_add_62 fun s5 => ?_
    refine tr_aload_n hX 0 dX7_add_65 rfl rfl ?_
    refine tr_getI hX 10 4 (by decide) rfl rfl rfl (by decide) gX7 wm_69 dX7_add_66 ?_
    refine tr_iconst (v := 1) hX dX7_add_69 rfl ?_
    refine tr_isub hX dX7_add_70 ?_
    exact tr_iret hX hR dX7_add_71
  · refine tr_iconst (v := (-1)) hX dX7_add_12 rfl ?_
    exact tr_iret hX hR dX7_add_13
theorem c_X7_add_b (E : Ex) (hE : va_D (AW E) (wd E (fun _ _ => 0))) (N : Nat) (s : Hp) (x1 x2 x3 x4 : Int32) (r : Int32 × Hp) (h : f_X7_add_b N s x1 x2 x3 x4 = some r) : CtrI E yX7_add cX7_add 5 (some .int) 0 0 [rf E 10, .int x1, .int x2, .int x3, .int x4] s r :=
  ctrI_of (by decide +kernel) hE (Nat.le_of_ble_eq_true rfl) h (fun G hX hR hG => by subst hG; exact w_X7_add_b hX hR hE N s x1 x2 x3 x4)
set_option maxRecDepth 20000 in
set_option maxHeartbeats 2000000 in
theorem w_X2_add {G : Gx} (hX : ok G cX2_add 7 RX2 (some .int) 1 24) (hR : okR G) (hE : va_D (AW G.1) (wd G.1 (fun _ _ => 0))) (N : Nat) (s : Hp) (x1 x2 x3 x4 x5 : Int32) : T G (f_X2_add N s x1 x2 x3 x4 x5) s 0 [(0, rf G.1 9), (1, .int x1), (2, .int x2), (3, .int x3), (4, .int x4), (5, .int x5)] [] := by
  unfold f_X2_add
  refine tr_aload_n hX 0 dX2_add_0 rfl rfl ?_
  refine tr_getR hX 9 0 (by decide) rfl rfl rfl (by decide) gX2 wm_94 dX2_add_1 ?_
  refine tr_iload_n hX 1 dX2_add_4 rfl rfl ?_
  refine tr_iload_n hX 2 dX2_add_5 rfl rfl ?_
  refine tr_iload_n hX 3 dX2_add_6 rfl rfl ?_
  refine tr_iload hX 4 dX2_add_7 rfl ?_
  refine tr_callV hX 10 [.int x1, .int x2, .int x3, .int x4] kv_X7_add wm_358 (by decide) rfl rfl rfl (by decide) rfl rfl (Nat.le_of_ble_eq_true rfl) dX2_add_9 (fun v s2 hq => c_X7_add_b G.1 hE N s x1 x2 x3 x4 (v, s2) hq) fun v2 s1 => ?_
  refine tr_istore (lv2 := [(6, .int v2), (0, rf G.1 9), (1, .int x1), (2, .int x2), (3, .int x3), (4, .int x4), (5, .int x5)]) hX dX2_add_12 (by decide) rfl ?_
  refine tr_iload hX 0 dX2_add_14 rfl ?_
  refine tr_iconst (v := (-1)) hX dX2_add_16 rfl ?_
  refine tr_icmp_eq hX 29 dX2_add_17 (by decide) ?_ ?_
  · refine tr_iload hX 0 dX2_add_29 rfl ?_
    exact tr_iret hX hR dX2_add_31
  · refine tr_aload_n hX 1 dX2_add_20 rfl rfl ?_
    refine tr_getR hX 9 1 (by decide) rfl rfl rfl (by decide) gX2 wm_98 dX2_add_21 ?_
    refine tr_iload hX 0 dX2_add_24 rfl ?_
    refine tr_iload hX 6 dX2_add_26 rfl ?_
    refine tr_iast hX 15 (by decide) rfl dX2_add_28 fun s3 => ?_
    refine tr_iload hX 0 dX2_add_29 rfl ?_
    exact tr_iret hX hR dX2_add_31
theorem c_X2_add (E : Ex) (hE : va_D (AW E) (wd E (fun _ _ => 0))) (N : Nat) (s : Hp) (x1 x2 x3 x4 x5 : Int32) (r : Int32 × Hp) (h : f_X2_add N s x1 x2 x3 x4 x5 = some r) : CtrI E yX2_add cX2_add 7 (some .int) 1 24 [rf E 9, .int x1, .int x2, .int x3, .int x4, .int x5] s r :=
  ctrI_of (by decide +kernel) hE (Nat.le_of_ble_eq_true rfl) h (fun G hX hR hG => by subst hG; exact w_X2_add hX hR hE N s x1 x2 x3 x4 x5)
set_option maxRecDepth 20000 in
set_option maxHeartbeats 2000000 in
theorem w_X0_giveNumbers_62 {G : Gx} (hX : ok G cX0_giveNumbers 3 RX0 none 0 0) (hR : okV G) (hE : va_D (AW G.1) (wd G.1 (fun _ _ => 0))) (N : Nat) (k7 : Hp → Int32 → Int32 → Option (Int32 × Hp)) (hk7 : ∀ (s : Hp) (x1 x2 : Int32), T G (k7 s x1 x2) s 7 [(0, rf G.1 18), (1, .int x1), (2, .int x2)] []) (s : Hp) (x1 x2 : Int32) : T G (f_X0_giveNumbers_62 N k7 s x1 x2) s 62 [(0, rf G.1 18), (1, .int x1), (2, .int x2)] [] := by
  unfold f_X0_giveNumbers_62
  refine tr_iincB (b := 1) (lv2 := fun y5 => [(2, .int y5), (0, rf G.1 18), (1, .int x1)]) hX 2 dX0_giveNumbers_62 rfl rfl (by decide) (fun _ => rfl) fun y5 => ?_
  refine tr_goto hX 7 dX0_giveNumbers_65 (by decide) ?_
  refine tr_lv (lv2 := [(0, rf G.1 18), (1, .int x1), (2, .int y5)]) [1, 2, 0] rfl ?_
  exact hk7 s x1 y5
set_option maxRecDepth 20000 in
set_option maxHeartbeats 2000000 in
theorem w_X0_giveNumbers_7 {G : Gx} (hX : ok G cX0_giveNumbers 3 RX0 none 0 0) (hR : okV G) (hE : va_D (AW G.1) (wd G.1 (fun _ _ => 0))) (N : Nat) (k7 : Hp → Int32 → Int32 → Option (Int32 × Hp)) (hk7 : ∀ (s : Hp) (x1 x2 : Int32), T G (k7 s x1 x2) s 7 [(0, rf G.1 18), (1, .int x1), (2, .int x2)] []) (s : Hp) (x1 x2 : Int32) : T G (f_X0_giveNumbers_7 N k7 s x1 x2) s 7 [(0, rf G.1 18), (1, .int x1), (2, .int x2)] [] := by
  unfold f_X0_giveNumbers_7
  refine tr_iload_n hX 2 dX0_giveNumbers_7 rfl rfl ?_
  refine tr_iload_n hX 1 dX0_giveNumbers_8 rfl rfl ?_
  refine tr_icmp_ge hX 68 dX0_giveNumbers_9 (by decide) ?_ ?_
  · exact tr_vret hX hR dX0_giveNumbers_68
  · refine tr_aload_n hX 0 dX0_giveNumbers_12 rfl rfl ?_
    refine tr_getR hX 18 0 (by decide) rfl rfl rfl (by decide) gX0 wm_124 dX0_giveNumbers_13 ?_
    refine tr_iload_n hX 2 dX0_giveNumbers_16 rfl rfl ?_
    refine tr_iald hX 19 (by decide) rfl dX0_giveNumbers_17 ?_
    refine tr_iload_n hX 2 dX0_giveNumbers_18 rfl rfl ?_
    refine tr_icmp_ne hX 45 dX0_giveNumbers_19 (by decide) ?_ ?_
    · refine tr_aload_n hX 0 dX0_giveNumbers_45 rfl rfl ?_
      refine tr_getR hX 18 1 (by decide) rfl rfl rfl (by decide) gX0 wm_125 dX0_giveNumbers_46 ?_
      refine tr_iload_n hX 2 dX0_giveNumbers_49 rfl rfl ?_
      refine tr_aload_n hX 0 dX0_giveNumbers_50 rfl rfl ?_
      refine tr_getR hX 18 1 (by decide) rfl rfl rfl (by decide) gX0 wm_125 dX0_giveNumbers_51 ?_
      refine tr_aload_n hX 0 dX0_giveNumbers_54 rfl rfl ?_
      refine tr_getR hX 18 0 (by decide) rfl rfl rfl (by decide) gX0 wm_124 dX0_giveNumbers_55 ?_
      refine tr_iload_n hX 2 dX0_giveNumbers_58 rfl rfl ?_
      refine tr_iald hX 19 (by decide) rfl dX0_giveNumbers_59 ?_
      refine tr_iald hX 20 (by decide) rfl dX0_giveNumbers_60 ?_
      refine tr_iast hX 20 (by decide) rfl dX0_giveNumbers_61 fun s2 => ?_
      exact w_X0_giveNumbers_62 hX hR hE N k7 hk7 s2 x1 x2
    · refine tr_aload_n hX 0 dX0_giveNumbers_22 rfl rfl ?_
      refine tr_getR hX 18 1 (by decide) rfl rfl rfl (by decide) gX0 wm_125 dX0_giveNumbers_23 ?_
      refine tr_iload_n hX 2 dX0_giveNumbers_26 rfl rfl ?_
      refine tr_aload_n hX 0 dX0_giveNumbers_27 rfl rfl ?_
      refine tr_getI hX 18 4 (by decide) rfl rfl rfl (by decide) gX0 wm_131 dX0_giveNumbers_28 ?_
      refine tr_iast hX 20 (by decide) rfl dX0_giveNumbers_31 fun s3 => ?_
      refine tr_aload_n hX 0 dX0_giveNumbers_32 rfl rfl ?_
      refine tr_dup hX dX0_giveNumbers_33 rfl ?_
      refine tr_getI hX 18 4 (by decide) rfl rfl rfl (by decide) gX0 wm_131 dX0_giveNumbers_34 ?_
      refine tr_iconst (v := 1) hX dX0_giveNumbers_37 rfl ?_
      refine tr_iadd hX dX0_giveNumbers_38 ?_
      refine tr_putI hX 18 4 tyX0 tyX0_ok nmX0 (by decide) rfl rfl rfl (by decide) gX0 wm_131 rfl (by decide +kernel) dX0_giveNumbers_39 fun s4 => ?_
      refine tr_goto hX 62 dX0_giveNumbers_42 (by decide) ?_
      exact w_X0_giveNumbers_62 hX hR hE N k7 hk7 s4 x1 x2
theorem wl_X0_giveNumbers_7 {G : Gx} (hX : ok G cX0_giveNumbers 3 RX0 none 0 0) (hR : okV G) (hE : va_D (AW G.1) (wd G.1 (fun _ _ => 0))) (N : Nat) : ∀ (n : Nat) (s : Hp) (x1 x2 : Int32), T G (lp (fun _ _ _ => none) (f_X0_giveNumbers_7 N) n s x1 x2) s 7 [(0, rf G.1 18), (1, .int x1), (2, .int x2)] [] := by
  intro n
  induction n with
  | zero => exact fun s x1 x2 h => nomatch (show (none : Option (Int32 × Hp)) = some _ from h)
  | succ n ih => exact fun s x1 x2 => w_X0_giveNumbers_7 hX hR hE N _ ih s x1 x2
set_option maxRecDepth 20000 in
set_option maxHeartbeats 2000000 in
theorem w_X0_giveNumbers {G : Gx} (hX : ok G cX0_giveNumbers 3 RX0 none 0 0) (hR : okV G) (hE : va_D (AW G.1) (wd G.1 (fun _ _ => 0))) (N : Nat) (s : Hp) (x1 : Int32) : T G (f_X0_giveNumbers N s x1) s 0 [(0, rf G.1 18), (1, .int x1)] [] := by
  unfold f_X0_giveNumbers
  refine tr_aload_n hX 0 dX0_giveNumbers_0 rfl rfl ?_
  refine tr_iconst (v := 0) hX dX0_giveNumbers_1 rfl ?_
  refine tr_putI hX 18 4 tyX0 tyX0_ok nmX0 (by decide) rfl rfl rfl (by decide) gX0 wm_131 rfl (by decide +kernel) dX0_giveNumbers_2 fun s1 => ?_
  refine tr_iconst (v := 0) hX dX0_giveNumbers_5 rfl ?_
  refine tr_istore_n (lv2 := [(2, .int 0), (0, rf G.1 18), (1, .int x1)]) hX dX0_giveNumbers_6 rfl (by decide) rfl ?_
  refine tr_lv (lv2 := [(0, rf G.1 18), (1, .int x1), (2, .int 0)]) [1, 2, 0] rfl ?_
  exact wl_X0_giveNumbers_7 hX hR hE N N s1 x1 0
theorem c_X0_giveNumbers (E : Ex) (hE : va_D (AW E) (wd E (fun _ _ => 0))) (N : Nat) (s : Hp) (x1 : Int32) (r : Int32 × Hp) (h : f_X0_giveNumbers N s x1 = some r) : CtrV E yX0_giveNumbers cX0_giveNumbers 3 none 0 0 [rf E 18, .int x1] s r :=
  ctrV_of (by decide +kernel) hE (Nat.le_of_ble_eq_true rfl) h (fun G hX hR hG => by subst hG; exact w_X0_giveNumbers hX hR hE N s x1)
set_option maxRecDepth 20000 in
set_option maxHeartbeats 2000000 in
theorem w_X2_areJoined {G : Gx} (hX : ok G cX2_areJoined 5 RX2 (some .boolean) 1 21) (hR : okR G) (hE : va_D (AW G.1) (wd G.1 (fun _ _ => 0))) (N : Nat) (s : Hp) (x1 x2 x3 x4 : Int32) : T G (f_X2_areJoined N s x1 x2 x3 x4) s 0 [(0, rf G.1 9), (1, .int x1), (2, .int x2), (3, .int x3), (4, .int x4)] [] := by
  unfold f_X2_areJoined
  refine tr_aload_n hX 0 dX2_areJoined_0 rfl rfl ?_
  refine tr_getR hX 9 0 (by decide) rfl rfl rfl (by decide) gX2 wm_94 dX2_areJoined_1 ?_
  refine tr_getNR hX 10 1 (by decide) rfl rfl rfl (by decide) gX7 wm_60 dX2_areJoined_4 ?_
  refine tr_iload_n hX 1 dX2_areJoined_7 rfl rfl ?_
  refine tr_iald hX 12 (by decide) rfl dX2_areJoined_8 ?_
  refine tr_aload_n hX 0 dX2_areJoined_9 rfl rfl ?_
  refine tr_getR hX 9 0 (by decide) rfl rfl rfl (by decide) gX2 wm_94 dX2_areJoined_10 ?_
  refine tr_getNR hX 10 1 (by decide) rfl rfl rfl (by decide) gX7 wm_60 dX2_areJoined_13 ?_
  refine tr_iload_n hX 2 dX2_areJoined_16 rfl rfl ?_
  refine tr_iald hX 12 (by decide) rfl dX2_areJoined_17 ?_
  refine tr_icmp_ne hX 93 dX2_areJoined_18 (by decide) ?_ ?_
  · refine tr_iconst (v := 0) hX dX2_areJoined_93 rfl ?_
    exact tr_zret hX hR rfl dX2_areJoined_94
  · refine tr_aload_n hX 0 dX2_areJoined_21 rfl rfl ?_
    refine tr_getR hX 9 1 (by decide) rfl rfl rfl (by decide) gX2 wm_98 dX2_areJoined_22 ?_
    refine tr_iload_n hX 1 dX2_areJoined_25 rfl rfl ?_
    refine tr_iald hX 15 (by decide) rfl dX2_areJoined_26 ?_
    refine tr_aload_n hX 0 dX2_areJoined_27 rfl rfl ?_
    refine tr_getR hX 9 1 (by decide) rfl rfl rfl (by decide) gX2 wm_98 dX2_areJoined_28 ?_
    refine tr_iload_n hX 2 dX2_areJoined_31 rfl rfl ?_
    refine tr_iald hX 15 (by decide) rfl dX2_areJoined_32 ?_
    refine tr_isub hX dX2_areJoined_33 ?_
    refine tr_abs hX wm_367 wm_368 wm_4 wm_369 (by decide) (by decide) dX2_areJoined_34 ?_
    refine tr_iload_n hX 3 dX2_areJoined_37 rfl rfl ?_
    refine tr_icmp_gt hX 93 dX2_areJoined_38 (by decide) ?_ ?_
    · refine tr_iconst (v := 0) hX dX2_areJoined_93 rfl ?_
      exact tr_zret hX hR rfl dX2_areJoined_94
    · refine tr_aload_n hX 0 dX2_areJoined_41 rfl rfl ?_
      refine tr_getR hX 9 0 (by decide) rfl rfl rfl (by decide) gX2 wm_94 dX2_areJoined_42 ?_
      refine tr_getNR hX 10 2 (by decide) rfl rfl rfl (by decide) gX7 wm_64 dX2_areJoined_45 ?_
      refine tr_iload_n hX 1 dX2_areJoined_48 rfl rfl ?_
      refine tr_iald hX 13 (by decide) rfl dX2_areJoined_49 ?_
      refine tr_aload_n hX 0 dX2_areJoined_50 rfl rfl ?_
      refine tr_getR hX 9 0 (by decide) rfl rfl rfl (by decide) gX2 wm_94 dX2_areJoined_51 ?_
      refine tr_getNR hX 10 3 (by decide) rfl rfl rfl (by decide) gX7 wm_68 dX2_areJoined_54 ?_
      refine tr_iload_n hX 2 dX2_areJoined_57 rfl rfl ?_
      refine tr_iald hX 14 (by decide) rfl dX2_areJoined_58 ?_
      refine tr_isub hX dX2_areJoined_59 ?_
      refine tr_iload hX 4 dX2_areJoined_60 rfl ?_
      refine tr_icmp_gt hX 93 dX2_areJoined_62 (by decide) ?_ ?_
      · refine tr_iconst (v := 0) hX dX2_areJoined_93 rfl ?_
        exact tr_zret hX hR rfl dX2_areJoined_94
      · refine tr_aload_n hX 0 dX2_areJoined_65 rfl rfl ?_
        refine tr_getR hX 9 0 (by decide) rfl rfl rfl (by decide) gX2 wm_94 dX2_areJoined_66 ?_
        refine tr_getNR hX 10 2 (by decide) rfl rfl rfl (by decide) gX7 wm_64 dX2_areJoined_69 ?_
        refine tr_iload_n hX 2 dX2_areJoined_72 rfl rfl ?_
        refine tr_iald hX 13 (by decide) rfl dX2_areJoined_73 ?_
        refine tr_aload_n hX 0 dX2_areJoined_74 rfl rfl ?_
        refine tr_getR hX 9 0 (by decide) rfl rfl rfl (by decide) gX2 wm_94 dX2_areJoined_75 ?_
        refine tr_getNR hX 10 3 (by decide) rfl rfl rfl (by decide) gX7 wm_68 dX2_areJoined_78 ?_
        refine tr_iload_n hX 1 dX2_areJoined_81 rfl rfl ?_
        refine tr_iald hX 14 (by decide) rfl dX2_areJoined_82 ?_
        refine tr_isub hX dX2_areJoined_83 ?_
        refine tr_iload hX 4 dX2_areJoined_84 rfl ?_
        refine tr_icmp_gt hX 93 dX2_areJoined_86 (by decide) ?_ ?_
        · refine tr_iconst (v := 0) hX dX2_areJoined_93 rfl ?_
          exact tr_zret hX hR rfl dX2_areJoined_94
        · refine tr_iconst (v := 1) hX dX2_areJoined_89 rfl ?_
          refine tr_goto hX 94 dX2_areJoined_90 (by decide) ?_
          exact tr_zret hX hR rfl dX2_areJoined_94
theorem c_X2_areJoined (E : Ex) (hE : va_D (AW E) (wd E (fun _ _ => 0))) (N : Nat) (s : Hp) (x1 x2 x3 x4 : Int32) (r : Int32 × Hp) (h : f_X2_areJoined N s x1 x2 x3 x4 = some r) : CtrI E yX2_areJoined cX2_areJoined 5 (some .boolean) 1 21 [rf E 9, .int x1, .int x2, .int x3, .int x4] s r :=
  ctrI_of (by decide +kernel) hE (Nat.le_of_ble_eq_true rfl) h (fun G hX hR hG => by subst hG; exact w_X2_areJoined hX hR hE N s x1 x2 x3 x4)
set_option maxRecDepth 20000 in
set_option maxHeartbeats 2000000 in
theorem w_X0_unite_62 {G : Gx} (hX : ok G cX0_unite 6 RX0 none 1 21) (hR : okV G) (hE : va_D (AW G.1) (wd G.1 (fun _ _ => 0))) (N : Nat) (k36 : Hp → Int32 → Int32 → Int32 → Int32 → Option (Int32 × Hp)) (hk36 : ∀ (s : Hp) (x1 x3 x4 x5 : Int32), T G (k36 s x1 x3 x4 x5) s 36 [(0, rf G.1 18), (1, .int x1), (3, .int x3), (4, .int x4), (5, .int x5)] []) (s : Hp) (x1 x3 x4 x5 : Int32) : T G (f_X0_unite_62 N k36 s x1 x3 x4 x5) s 62 [(0, rf G.1 18), (1, .int x1), (3, .int x3), (4, .int x4), (5, .int x5)] [] := by
  unfold f_X0_unite_62
  refine tr_iincB (b := 1) (lv2 := fun y4 => [(5, .int y4), (0, rf G.1 18), (1, .int x1), (3, .int x3), (4, .int x4)]) hX 4 dX0_unite_62 rfl rfl (by decide) (fun _ => rfl) fun y4 => ?_
  refine tr_goto hX 36 dX0_unite_65 (by decide) ?_
  refine tr_lv (lv2 := [(0, rf G.1 18), (1, .int x1), (3, .int x3), (4, .int x4), (5, .int y4)]) [1, 2, 3, 4, 0] rfl ?_
  exact hk36 s x1 x3 x4 y4
set_option maxRecDepth 20000 in
set_option maxHeartbeats 2000000 in
theorem w_X0_unite_36 {G : Gx} (hX : ok G cX0_unite 6 RX0 none 1 21) (hR : okV G) (hE : va_D (AW G.1) (wd G.1 (fun _ _ => 0))) (N : Nat) (k36 : Hp → Int32 → Int32 → Int32 → Int32 → Option (Int32 × Hp)) (hk36 : ∀ (s : Hp) (x1 x3 x4 x5 : Int32), T G (k36 s x1 x3 x4 x5) s 36 [(0, rf G.1 18), (1, .int x1), (3, .int x3), (4, .int x4), (5, .int x5)] []) (s : Hp) (x1 x3 x4 x5 : Int32) : T G (f_X0_unite_36 N k36 s x1 x3 x4 x5) s 36 [(0, rf G.1 18), (1, .int x1), (3, .int x3), (4, .int x4), (5, .int x5)] [] := by
  unfold f_X0_unite_36
  refine tr_iload hX 4 dX0_unite_36 rfl ?_
  refine tr_iload_n hX 1 dX0_unite_38 rfl rfl ?_
  refine tr_icmp_gt hX 68 dX0_unite_39 (by decide) ?_ ?_
  · exact tr_vret hX hR dX0_unite_68
  · refine tr_aload_n hX 0 dX0_unite_42 rfl rfl ?_
    refine tr_getR hX 18 0 (by decide) rfl rfl rfl (by decide) gX0 wm_124 dX0_unite_43 ?_
    refine tr_iload hX 4 dX0_unite_46 rfl ?_
    refine tr_iald hX 19 (by decide) rfl dX0_unite_48 ?_
    refine tr_iload hX 3 dX0_unite_49 rfl ?_
    refine tr_icmp_ne hX 62 dX0_unite_51 (by decide) ?_ ?_
    · exact w_X0_unite_62 hX hR hE N k36 hk36 s x1 x3 x4 x5
    · refine tr_aload_n hX 0 dX0_unite_54 rfl rfl ?_
      refine tr_getR hX 18 0 (by decide) rfl rfl rfl (by decide) gX0 wm_124 dX0_unite_55 ?_
      refine tr_iload hX 4 dX0_unite_58 rfl ?_
      refine tr_iload_n hX 2 dX0_unite_60 rfl rfl ?_
      refine tr_iast hX 19 (by decide) rfl dX0_unite_61 fun s3 => ?_
      exact w_X0_unite_62 hX hR hE N k36 hk36 s3 x1 x3 x4 x5
theorem wl_X0_unite_36 {G : Gx} (hX : ok G cX0_unite 6 RX0 none 1 21) (hR : okV G) (hE : va_D (AW G.1) (wd G.1 (fun _ _ => 0))) (N : Nat) : ∀ (n : Nat) (s : Hp) (x1 x3 x4 x5 : Int32), T G (lp (fun _ _ _ _ _ => none) (f_X0_unite_36 N) n s x1 x3 x4 x5) s 36 [(0, rf G.1 18), (1, .int x1), (3, .int x3), (4, .int x4), (5, .int x5)] [] := by
  intro n
  induction n with
  | zero => exact fun s x1 x3 x4 x5 h => nomatch (show (none : Option (Int32 × Hp)) = some _ from h)
  | succ n ih => exact fun s x1 x3 x4 x5 => w_X0_unite_36 hX hR hE N _ ih s x1 x3 x4 x5
set_option maxRecDepth 20000 in
set_option maxHeartbeats 2000000 in
theorem w_X0_unite {G : Gx} (hX : ok G cX0_unite 6 RX0 none 1 21) (hR : okV G) (hE : va_D (AW G.1) (wd G.1 (fun _ _ => 0))) (N : Nat) (s : Hp) (x1 x2 : Int32) : T G (f_X0_unite N s x1 x2) s 0 [(0, rf G.1 18), (1, .int x1), (2, .int x2)] [] := by
  unfold f_X0_unite
  refine tr_aload_n hX 0 dX0_unite_0 rfl rfl ?_
  refine tr_getR hX 18 0 (by decide) rfl rfl rfl (by decide) gX0 wm_124 dX0_unite_1 ?_
  refine tr_iload_n hX 1 dX0_unite_4 rfl rfl ?_
  refine tr_iald hX 19 (by decide) rfl dX0_unite_5 ?_
  refine tr_aload_n hX 0 dX0_unite_6 rfl rfl ?_
  refine tr_getR hX 18 0 (by decide) rfl rfl rfl (by decide) gX0 wm_124 dX0_unite_7 ?_
  refine tr_iload_n hX 2 dX0_unite_10 rfl rfl ?_
  refine tr_iald hX 19 (by decide) rfl dX0_unite_11 ?_
  refine tr_min hX wm_374 wm_375 wm_4 wm_376 (by decide) (by decide) dX0_unite_12 ?_
  refine tr_istore_nB (lv2 := fun y1 => [(3, .int y1), (0, rf G.1 18), (1, .int x1), (2, .int x2)]) hX dX0_unite_15 rfl (by decide) (fun _ => rfl) fun y1 => ?_
  refine tr_aload_n hX 1 dX0_unite_16 rfl rfl ?_
  refine tr_getR hX 18 0 (by decide) rfl rfl rfl (by decide) gX0 wm_124 dX0_unite_17 ?_
  refine tr_iload_n hX 2 dX0_unite_20 rfl rfl ?_
  refine tr_iald hX 19 (by decide) rfl dX0_unite_21 ?_
  refine tr_aload_n hX 1 dX0_unite_22 rfl rfl ?_
  refine tr_getR hX 18 0 (by decide) rfl rfl rfl (by decide) gX0 wm_124 dX0_unite_23 ?_
  refine tr_iload_n hX 3 dX0_unite_26 rfl rfl ?_
  refine tr_iald hX 19 (by decide) rfl dX0_unite_27 ?_
  refine tr_max hX wm_377 wm_53 wm_4 wm_54 (by decide) (by decide) dX0_unite_28 ?_
  refine tr_istoreB (lv2 := fun y2 => [(4, .int y2), (3, .int y1), (0, rf G.1 18), (1, .int x1), (2, .int x2)]) hX dX0_unite_31 (by decide) (fun _ => rfl) fun y2 => ?_
  refine tr_iconst (v := 0) hX dX0_unite_33 rfl ?_
  refine tr_istore (lv2 := [(5, .int 0), (4, .int y2), (3, .int y1), (0, rf G.1 18), (1, .int x1), (2, .int x2)]) hX dX0_unite_34 (by decide) rfl ?_
  refine tr_lv (lv2 := [(0, rf G.1 18), (1, .int x1), (3, .int y1), (4, .int y2), (5, .int 0)]) [3, 4, 2, 1, 0] rfl ?_
  exact wl_X0_unite_36 hX hR hE N N s x1 y1 y2 0
theorem c_X0_unite (E : Ex) (hE : va_D (AW E) (wd E (fun _ _ => 0))) (N : Nat) (s : Hp) (x1 x2 : Int32) (r : Int32 × Hp) (h : f_X0_unite N s x1 x2 = some r) : CtrV E yX0_unite cX0_unite 6 none 1 21 [rf E 18, .int x1, .int x2] s r :=
  ctrV_of (by decide +kernel) hE (Nat.le_of_ble_eq_true rfl) h (fun G hX hR hG => by subst hG; exact w_X0_unite hX hR hE N s x1 x2)
set_option maxRecDepth 20000 in
set_option maxHeartbeats 2000000 in
theorem w_X0_gather_65 {G : Gx} (hX : ok G cX0_gather 4 RX0 none 2 46) (hR : okV G) (hE : va_D (AW G.1) (wd G.1 (fun _ _ => 0))) (N : Nat) (k2 : Hp → Int32 → Option (Int32 × Hp)) (hk2 : ∀ (s : Hp) (x2 : Int32), T G (k2 s x2) s 2 [(0, rf G.1 18), (1, rf G.1 9), (2, .int x2)] []) (k22 : Hp → Int32 → Int32 → Option (Int32 × Hp)) (hk22 : ∀ (s : Hp) (x2 x3 : Int32), T G (k22 s x2 x3) s 22 [(0, rf G.1 18), (1, rf G.1 9), (2, .int x2), (3, .int x3)] []) (s : Hp) (x2 x3 : Int32) : T G (f_X0_gather_65 N k2 k22 s x2 x3) s 65 [(0, rf G.1 18), (1, rf G.1 9), (2, .int x2), (3, .int x3)] [] := by
  unfold f_X0_gather_65
  refine tr_iincB (b := 1) (lv2 := fun y9 => [(3, .int y9), (0, rf G.1 18), (1, rf G.1 9), (2, .int x2)]) hX 3 dX0_gather_65 rfl rfl (by decide) (fun _ => rfl) fun y9 => ?_
  refine tr_goto hX 22 dX0_gather_68 (by decide) ?_
  refine tr_lv (lv2 := [(0, rf G.1 18), (1, rf G.1 9), (2, .int x2), (3, .int y9)]) [1, 2, 3, 0] rfl ?_
  exact hk22 s x2 y9
set_option maxRecDepth 20000 in
set_option maxHeartbeats 2000000 in
theorem w_X0_gather_22 {G : Gx} (hX : ok G cX0_gather 4 RX0 none 2 46) (hR : okV G) (hE : va_D (AW G.1) (wd G.1 (fun _ _ => 0))) (N : Nat) (k2 : Hp → Int32 → Option (Int32 × Hp)) (hk2 : ∀ (s : Hp) (x2 : Int32), T G (k2 s x2) s 2 [(0, rf G.1 18), (1, rf G.1 9), (2, .int x2)] []) (k22 : Hp → Int32 → Int32 → Option (Int32 × Hp)) (hk22 : ∀ (s : Hp) (x2 x3 : Int32), T G (k22 s x2 x3) s 22 [(0, rf G.1 18), (1, rf G.1 9), (2, .int x2), (3, .int x3)] []) (s : Hp) (x2 x3 : Int32) : T G (f_X0_gather_22 N k2 k22 s x2 x3) s 22 [(0, rf G.1 18), (1, rf G.1 9), (2, .int x2), (3, .int x3)] [] := by
  unfold f_X0_gather_22
  refine tr_iload_n hX 3 dX0_gather_22 rfl rfl ?_
  refine tr_iload_n hX 2 dX0_gather_23 rfl rfl ?_
  refine tr_icmp_ge hX 71 dX0_gather_24 (by decide) ?_ ?_
  · refine tr_iincB (b := 1) (lv2 := fun y4 => [(2, .int y4), (0, rf G.1 18), (1, rf G.1 9), (3, .int x3)]) hX 2 dX0_gather_71 rfl rfl (by decide) (fun _ => rfl) fun y4 => ?_
    refine tr_goto hX 2 dX0_gather_74 (by decide) ?_
    refine tr_lv (lv2 := [(0, rf G.1 18), (1, rf G.1 9), (2, .int y4)]) [1, 2, 0] rfl ?_
    exact hk2 s y4
  · refine tr_aload_n hX 0 dX0_gather_27 rfl rfl ?_
    refine tr_getR hX 18 0 (by decide) rfl rfl rfl (by decide) gX0 wm_124 dX0_gather_28 ?_
    refine tr_iload_n hX 2 dX0_gather_31 rfl rfl ?_
    refine tr_iald hX 19 (by decide) rfl dX0_gather_32 ?_
    refine tr_aload_n hX 0 dX0_gather_33 rfl rfl ?_
    refine tr_getR hX 18 0 (by decide) rfl rfl rfl (by decide) gX0 wm_124 dX0_gather_34 ?_
    refine tr_iload_n hX 3 dX0_gather_37 rfl rfl ?_
    refine tr_iald hX 19 (by decide) rfl dX0_gather_38 ?_
    refine tr_icmp_eq hX 65 dX0_gather_39 (by decide) ?_ ?_
    · exact w_X0_gather_65 hX hR hE N k2 hk2 k22 hk22 s x2 x3
    · refine tr_aload_n hX 1 dX0_gather_42 rfl rfl ?_
      refine tr_iload_n hX 2 dX0_gather_43 rfl rfl ?_
      refine tr_iload_n hX 3 dX0_gather_44 rfl rfl ?_
      refine tr_aload_n hX 0 dX0_gather_45 rfl rfl ?_
      refine tr_getI hX 18 2 (by decide) rfl rfl rfl (by decide) gX0 wm_127 dX0_gather_46 ?_
      refine tr_aload_n hX 0 dX0_gather_49 rfl rfl ?_
      refine tr_getI hX 18 3 (by decide) rfl rfl rfl (by decide) gX0 wm_129 dX0_gather_50 ?_
      refine tr_callV hX 9 [.int x2, .int x3, .int (s 18 2), .int (s 18 3)] kv_X2_areJoined wm_363 (by decide) rfl rfl rfl (by decide) rfl rfl (Nat.le_of_ble_eq_true rfl) dX0_gather_53 (fun v s2 hq => c_X2_areJoined G.1 hE N s x2 x3 (s 18 2) (s 18 3) (v, s2) hq) fun v6 s5 => ?_
      refine tr_if_eq hX 65 dX0_gather_56 (by decide) ?_ ?_
      · exact w_X0_gather_65 hX hR hE N k2 hk2 k22 hk22 s5 x2 x3
      · refine tr_aload_n hX 0 dX0_gather_59 rfl rfl ?_
        refine tr_iload_n hX 2 dX0_gather_60 rfl rfl ?_
        refine tr_iload_n hX 3 dX0_gather_61 rfl rfl ?_
        refine tr_callVv hX 18 [.int x2, .int x3] kv_X0_unite wm_370 (by decide) rfl rfl rfl (by decide) rfl rfl (Nat.le_of_ble_eq_true rfl) dX0_gather_62 (fun v s2 hq => c_X0_unite G.1 hE N s5 x2 x3 (v, s2) hq) fun v8 s7 => ?_
        exact w_X0_gather_65 hX hR hE N k2 hk2 k22 hk22 s7 x2 x3
theorem wl_X0_gather_22 {G : Gx} (hX : ok G cX0_gather 4 RX0 none 2 46) (hR : okV G) (hE : va_D (AW G.1) (wd G.1 (fun _ _ => 0))) (N : Nat) (k2 : Hp → Int32 → Option (Int32 × Hp)) (hk2 : ∀ (s : Hp) (x2 : Int32), T G (k2 s x2) s 2 [(0, rf G.1 18), (1, rf G.1 9), (2, .int x2)] []) : ∀ (n : Nat) (s : Hp) (x2 x3 : Int32), T G (lp (fun _ _ _ => none) (f_X0_gather_22 N k2) n s x2 x3) s 22 [(0, rf G.1 18), (1, rf G.1 9), (2, .int x2), (3, .int x3)] [] := by
  intro n
  induction n with
  | zero => exact fun s x2 x3 h => nomatch (show (none : Option (Int32 × Hp)) = some _ from h)
  | succ n ih => exact fun s x2 x3 => w_X0_gather_22 hX hR hE N k2 hk2 _ ih s x2 x3
set_option maxRecDepth 20000 in
set_option maxHeartbeats 2000000 in
theorem w_X0_gather_2 {G : Gx} (hX : ok G cX0_gather 4 RX0 none 2 46) (hR : okV G) (hE : va_D (AW G.1) (wd G.1 (fun _ _ => 0))) (N : Nat) (k2 : Hp → Int32 → Option (Int32 × Hp)) (hk2 : ∀ (s : Hp) (x2 : Int32), T G (k2 s x2) s 2 [(0, rf G.1 18), (1, rf G.1 9), (2, .int x2)] []) (s : Hp) (x2 : Int32) : T G (f_X0_gather_2 N k2 s x2) s 2 [(0, rf G.1 18), (1, rf G.1 9), (2, .int x2)] [] := by
  unfold f_X0_gather_2
  refine tr_iload_n hX 2 dX0_gather_2 rfl rfl ?_
  refine tr_aload_n hX 1 dX0_gather_3 rfl rfl ?_
  refine tr_getNR hX 9 0 (by decide) rfl rfl rfl (by decide) gX2 wm_95 dX0_gather_4 ?_
  refine tr_getNI hX 10 4 (by decide) rfl rfl rfl (by decide) gX7 wm_70 dX0_gather_7 ?_
  refine tr_icmp_ge hX 77 dX0_gather_10 (by decide) ?_ ?_
  · refine tr_aload_n hX 0 dX0_gather_77 rfl rfl ?_
    refine tr_aload_n hX 1 dX0_gather_78 rfl rfl ?_
    refine tr_getNR hX 9 0 (by decide) rfl rfl rfl (by decide) gX2 wm_95 dX0_gather_79 ?_
    refine tr_getNI hX 10 4 (by decide) rfl rfl rfl (by decide) gX7 wm_70 dX0_gather_82 ?_
    refine tr_callVv hX 18 [.int (s 10 4)] kv_X0_giveNumbers wm_378 (by decide) rfl rfl rfl (by decide) rfl rfl (Nat.le_of_ble_eq_true rfl) dX0_gather_85 (fun v s2 hq => c_X0_giveNumbers G.1 hE N s (s 10 4) (v, s2) hq) fun v2 s1 => ?_
    exact tr_vret hX hR dX0_gather_88
  · refine tr_aload_n hX 0 dX0_gather_13 rfl rfl ?_
    refine tr_getR hX 18 0 (by decide) rfl rfl rfl (by decide) gX0 wm_124 dX0_gather_14 ?_
    refine tr_iload_n hX 2 dX0_gather_17 rfl rfl ?_
    refine tr_iload_n hX 2 dX0_gather_18 rfl rfl ?_
    refine tr_iast hX 19 (by decide) rfl dX0_gather_19 fun s3 => ?_
    refine tr_iconst (v := 0) hX dX0_gather_20 rfl ?_
    refine tr_istore_n (lv2 := [(3, .int 0), (0, rf G.1 18), (1, rf G.1 9), (2, .int x2)]) hX dX0_gather_21 rfl (by decide) rfl ?_
    refine tr_lv (lv2 := [(0, rf G.1 18), (1, rf G.1 9), (2, .int x2), (3, .int 0)]) [1, 2, 3, 0] rfl ?_
    exact wl_X0_gather_22 hX hR hE N k2 hk2 N s3 x2 0
theorem wl_X0_gather_2 {G : Gx} (hX : ok G cX0_gather 4 RX0 none 2 46) (hR : okV G) (hE : va_D (AW G.1) (wd G.1 (fun _ _ => 0))) (N : Nat) : ∀ (n : Nat) (s : Hp) (x2 : Int32), T G (lp (fun _ _ => none) (f_X0_gather_2 N) n s x2) s 2 [(0, rf G.1 18), (1, rf G.1 9), (2, .int x2)] [] := by
  intro n
  induction n with
  | zero => exact fun s x2 h => nomatch (show (none : Option (Int32 × Hp)) = some _ from h)
  | succ n ih => exact fun s x2 => w_X0_gather_2 hX hR hE N _ ih s x2
set_option maxRecDepth 20000 in
set_option maxHeartbeats 2000000 in
theorem w_X0_gather {G : Gx} (hX : ok G cX0_gather 4 RX0 none 2 46) (hR : okV G) (hE : va_D (AW G.1) (wd G.1 (fun _ _ => 0))) (N : Nat) (s : Hp) : T G (f_X0_gather N s) s 0 [(0, rf G.1 18), (1, rf G.1 9)] [] := by
  unfold f_X0_gather
  refine tr_iconst (v := 0) hX dX0_gather_0 rfl ?_
  refine tr_istore_n (lv2 := [(2, .int 0), (0, rf G.1 18), (1, rf G.1 9)]) hX dX0_gather_1 rfl (by decide) rfl ?_
  refine tr_lv (lv2 := [(0, rf G.1 18), (1, rf G.1 9), (2, .int 0)]) [1, 2, 0] rfl ?_
  exact wl_X0_gather_2 hX hR hE N N s 0
theorem c_X0_gather (E : Ex) (hE : va_D (AW E) (wd E (fun _ _ => 0))) (N : Nat) (s : Hp) (r : Int32 × Hp) (h : f_X0_gather N s = some r) : CtrV E yX0_gather cX0_gather 4 none 2 46 [rf E 18, rf E 9] s r :=
  ctrV_of (by decide +kernel) hE (Nat.le_of_ble_eq_true rfl) h (fun G hX hR hG => by subst hG; exact w_X0_gather hX hR hE N s)
set_option maxRecDepth 20000 in
set_option maxHeartbeats 2000000 in
theorem w_X9_mark {G : Gx} (hX : ok G cX9_mark 7 RX9 (some .int) 3 72) (hR : okR G) (hE : va_D (AW G.1) (wd G.1 (fun _ _ => 0))) (N : Nat) (s : Hp) (x1 x2 x3 x4 x5 : Int32) : T G (f_X9_mark N s x1 x2 x3 x4 x5) s 0 [(0, rf G.1 0), (1, .int x1), (2, .int x2), (3, .int x3), (4, .int x4), (5, .int x5)] [] := by
  unfold f_X9_mark
  refine tr_aload_n hX 0 dX9_mark_0 rfl rfl ?_
  refine tr_iload_n hX 1 dX9_mark_1 rfl rfl ?_
  refine tr_iload_n hX 2 dX9_mark_2 rfl rfl ?_
  refine tr_iload_n hX 3 dX9_mark_3 rfl rfl ?_
  refine tr_iload hX 4 dX9_mark_4 rfl ?_
  refine tr_callV hX 0 [.int x1, .int x2, .int x3, .int x4] kv_X9_isHearing wm_331 (by decide) rfl rfl rfl (by decide) rfl rfl (Nat.le_of_ble_eq_true rfl) dX9_mark_6 (fun v s2 hq => c_X9_isHearing G.1 hE N s x1 x2 x3 x4 (v, s2) hq) fun v2 s1 => ?_
  refine tr_if_eq hX 53 dX9_mark_9 (by decide) ?_ ?_
  · refine tr_iconst (v := (-1)) hX dX9_mark_53 rfl ?_
    exact tr_iret hX hR dX9_mark_54
  · refine tr_iload hX 5 dX9_mark_12 rfl ?_
    refine tr_sipush (v := 1000) hX dX9_mark_14 rfl ?_
    refine tr_callS hX [.int x5, .int 1000] ks_X9_isBelow wm_320 (by decide) rfl rfl (Nat.le_of_ble_eq_true rfl) dX9_mark_17 (fun v s2 hq => c_X9_isBelow G.1 hE N s1 x5 1000 (v, s2) hq) fun v4 s3 => ?_
    refine tr_if_eq hX 53 dX9_mark_20 (by decide) ?_ ?_
    · refine tr_iconst (v := (-1)) hX dX9_mark_53 rfl ?_
      exact tr_iret hX hR dX9_mark_54
    · refine tr_aload_n hX 0 dX9_mark_23 rfl rfl ?_
      refine tr_getR hX 0 2 (by decide) rfl rfl rfl (by decide) gX9 wm_290 dX9_mark_24 ?_
      refine tr_getNR hX 9 0 (by decide) rfl rfl rfl (by decide) gX2 wm_97 dX9_mark_27 ?_
      refine tr_getNI hX 10 4 (by decide) rfl rfl rfl (by decide) gX7 wm_72 dX9_mark_30 ?_
      refine tr_bipush (v := 60) hX dX9_mark_33 rfl ?_
      refine tr_icmp_ge hX 53 dX9_mark_35 (by decide) ?_ ?_
      · refine tr_iconst (v := (-1)) hX dX9_mark_53 rfl ?_
        exact tr_iret hX hR dX9_mark_54
      · refine tr_aload_n hX 0 dX9_mark_38 rfl rfl ?_
        refine tr_getR hX 0 1 (by decide) rfl rfl rfl (by decide) gX9 wm_289 dX9_mark_39 ?_
        refine tr_iload_n hX 1 dX9_mark_42 rfl rfl ?_
        refine tr_iload_n hX 2 dX9_mark_43 rfl rfl ?_
        refine tr_iload_n hX 3 dX9_mark_44 rfl rfl ?_
        refine tr_iload hX 4 dX9_mark_45 rfl ?_
        refine tr_callV hX 4 [.int x1, .int x2, .int x3, .int x4] kv_X7_holdsEach wm_346 (by decide) rfl rfl rfl (by decide) rfl rfl (Nat.le_of_ble_eq_true rfl) dX9_mark_47 (fun v s2 hq => c_X7_holdsEach G.1 hE N s3 x1 x2 x3 x4 (v, s2) hq) fun v6 s5 => ?_
        refine tr_if_ne hX 55 dX9_mark_50 (by decide) ?_ ?_
        · refine tr_aload_n hX 0 dX9_mark_55 rfl rfl ?_
          refine tr_getR hX 0 2 (by decide) rfl rfl rfl (by decide) gX9 wm_290 dX9_mark_56 ?_
          refine tr_iload_n hX 1 dX9_mark_59 rfl rfl ?_
          refine tr_iload_n hX 2 dX9_mark_60 rfl rfl ?_
          refine tr_iload_n hX 3 dX9_mark_61 rfl rfl ?_
          refine tr_iload hX 4 dX9_mark_62 rfl ?_
          refine tr_iload hX 5 dX9_mark_64 rfl ?_
          refine tr_callV hX 9 [.int x1, .int x2, .int x3, .int x4, .int x5] kv_X2_add wm_354 (by decide) rfl rfl rfl (by decide) rfl rfl (Nat.le_of_ble_eq_true rfl) dX9_mark_66 (fun v s2 hq => c_X2_add G.1 hE N s5 x1 x2 x3 x4 x5 (v, s2) hq) fun v8 s7 => ?_
          refine tr_istore (lv2 := [(6, .int v8), (0, rf G.1 0), (1, .int x1), (2, .int x2), (3, .int x3), (4, .int x4), (5, .int x5)]) hX dX9_mark_69 (by decide) rfl ?_
          refine tr_aload_n hX 1 dX9_mark_71 rfl rfl ?_
          refine tr_getR hX 0 3 (by decide) rfl rfl rfl (by decide) gX9 wm_291 dX9_mark_72 ?_
          refine tr_aload_n hX 1 dX9_mark_75 rfl rfl ?_
          refine tr_getR hX 0 2 (by decide) rfl rfl rfl (by decide) gX9 wm_290 dX9_mark_76 ?_
          refine tr_callVv hX 18 [rf G.1 9] kv_X0_gather wm_359 (by decide) rfl rfl rfl (by decide) rfl rfl (Nat.le_of_ble_eq_true rfl) dX9_mark_79 (fun v s2 hq => c_X0_gather G.1 hE N s7 (v, s2) hq) fun v10 s9 => ?_
          refine tr_iload hX 0 dX9_mark_82 rfl ?_
          exact tr_iret hX hR dX9_mark_84
        · refine tr_iconst (v := (-1)) hX dX9_mark_53 rfl ?_
          exact tr_iret hX hR dX9_mark_54
theorem c_X9_mark (E : Ex) (hE : va_D (AW E) (wd E (fun _ _ => 0))) (N : Nat) (s : Hp) (x1 x2 x3 x4 x5 : Int32) (r : Int32 × Hp) (h : f_X9_mark N s x1 x2 x3 x4 x5 = some r) : CtrI E yX9_mark cX9_mark 7 (some .int) 3 72 [rf E 0, .int x1, .int x2, .int x3, .int x4, .int x5] s r :=
  ctrI_of (by decide +kernel) hE (Nat.le_of_ble_eq_true rfl) h (fun G hX hR hG => by subst hG; exact w_X9_mark hX hR hE N s x1 x2 x3 x4 x5)
end
