section
-- ===== PART A: goes FIRST, ahead of the names: the tables' words, and 'selects' of the private methods out of them =====
/-- a private method of a class that the tables say can be made, by its rows of tables_1 -/
def lw_okq (q : MethodName × Nat) : Prop := (q.1.cls ≠ "java/lang/invoke/MethodHandle" ∧ q.1.cls ≠ "java/lang/invoke/VarHandle") ∧ Cond.instantiable q.1.cls q.2 ∈ tables_1 ∧ Cond.privateMethod q.1 ∈ tables_1 ∧ Cond.instanceMethod q.1 ∈ tables_1
theorem lw_p0 : lw_okq (⟨"StuckLines$Responses", "workOut", "(I)V"⟩, 5) := ⟨⟨by decide +kernel, by decide +kernel⟩, List.mem_of_getElem? (i := 126) (by decide +kernel), List.mem_of_getElem? (i := 268) (by decide +kernel), List.mem_of_getElem? (i := 269) (by decide +kernel)⟩
theorem lw_p1 : lw_okq (⟨"StuckLines$Signals", "settle", "(I)V"⟩, 7) := ⟨⟨by decide +kernel, by decide +kernel⟩, List.mem_of_getElem? (i := 97) (by decide +kernel), List.mem_of_getElem? (i := 284) (by decide +kernel), List.mem_of_getElem? (i := 285) (by decide +kernel)⟩
theorem lw_p2 : lw_okq (⟨"StuckLines$Signals", "settleGate", "(I)V"⟩, 7) := ⟨⟨by decide +kernel, by decide +kernel⟩, List.mem_of_getElem? (i := 97) (by decide +kernel), List.mem_of_getElem? (i := 296) (by decide +kernel), List.mem_of_getElem? (i := 297) (by decide +kernel)⟩
theorem lw_p3 : lw_okq (⟨"StuckLines$PackedSet", "gather", "()V"⟩, 6) := ⟨⟨by decide +kernel, by decide +kernel⟩, List.mem_of_getElem? (i := 168) (by decide +kernel), List.mem_of_getElem? (i := 308) (by decide +kernel), List.mem_of_getElem? (i := 309) (by decide +kernel)⟩
theorem lw_p4 : lw_okq (⟨"StuckLines$PackedSet", "thinOut", "()V"⟩, 6) := ⟨⟨by decide +kernel, by decide +kernel⟩, List.mem_of_getElem? (i := 168) (by decide +kernel), List.mem_of_getElem? (i := 322) (by decide +kernel), List.mem_of_getElem? (i := 323) (by decide +kernel)⟩
theorem lw_p5 : lw_okq (⟨"StuckLines$PackedSet", "showAll", "(J)Z"⟩, 6) := ⟨⟨by decide +kernel, by decide +kernel⟩, List.mem_of_getElem? (i := 168) (by decide +kernel), List.mem_of_getElem? (i := 327) (by decide +kernel), List.mem_of_getElem? (i := 328) (by decide +kernel)⟩
theorem lw_p6 : lw_okq (⟨"StuckLines$PackedSet", "dropTheLeftOut", "()V"⟩, 6) := ⟨⟨by decide +kernel, by decide +kernel⟩, List.mem_of_getElem? (i := 168) (by decide +kernel), List.mem_of_getElem? (i := 331) (by decide +kernel), List.mem_of_getElem? (i := 332) (by decide +kernel)⟩
theorem lw_p7 : lw_okq (⟨"java/lang/Throwable", "fillInStackTrace", "(I)Ljava/lang/Throwable;"⟩, 6) := ⟨⟨by decide +kernel, by decide +kernel⟩, List.mem_of_getElem? (i := 402) (by decide +kernel), List.mem_of_getElem? (i := 400) (by decide +kernel), List.mem_of_getElem? (i := 401) (by decide +kernel)⟩
theorem lw_p8 : lw_okq (⟨"StuckLines$Circuit", "addLine", "(I)I"⟩, 15) := ⟨⟨by decide +kernel, by decide +kernel⟩, List.mem_of_getElem? (i := 24) (by decide +kernel), List.mem_of_getElem? (i := 436) (by decide +kernel), List.mem_of_getElem? (i := 437) (by decide +kernel)⟩
theorem lw_p9 : lw_okq (⟨"StuckLines", "requireLine", "(I)V"⟩, 6) := ⟨⟨by decide +kernel, by decide +kernel⟩, List.mem_of_getElem? (i := 16) (by decide +kernel), List.mem_of_getElem? (i := 466) (by decide +kernel), List.mem_of_getElem? (i := 467) (by decide +kernel)⟩
theorem lw_p10 : lw_okq (⟨"StuckLines", "requireLineOrNone", "(I)V"⟩, 6) := ⟨⟨by decide +kernel, by decide +kernel⟩, List.mem_of_getElem? (i := 16) (by decide +kernel), List.mem_of_getElem? (i := 486) (by decide +kernel), List.mem_of_getElem? (i := 487) (by decide +kernel)⟩
theorem lw_p11 : lw_okq (⟨"StuckLines$Circuit", "addPin", "(II)V"⟩, 15) := ⟨⟨by decide +kernel, by decide +kernel⟩, List.mem_of_getElem? (i := 24) (by decide +kernel), List.mem_of_getElem? (i := 495) (by decide +kernel), List.mem_of_getElem? (i := 496) (by decide +kernel)⟩
theorem lw_p12 : lw_okq (⟨"StuckLines$Circuit", "gatherObserved", "()V"⟩, 15) := ⟨⟨by decide +kernel, by decide +kernel⟩, List.mem_of_getElem? (i := 24) (by decide +kernel), List.mem_of_getElem? (i := 515) (by decide +kernel), List.mem_of_getElem? (i := 516) (by decide +kernel)⟩
theorem lw_p13 : lw_okq (⟨"StuckLines$Circuit", "observe", "(I)V"⟩, 15) := ⟨⟨by decide +kernel, by decide +kernel⟩, List.mem_of_getElem? (i := 24) (by decide +kernel), List.mem_of_getElem? (i := 519) (by decide +kernel), List.mem_of_getElem? (i := 520) (by decide +kernel)⟩
theorem lw_p14 : lw_okq (⟨"StuckLines$Responses", "areAlike", "(II)Z"⟩, 5) := ⟨⟨by decide +kernel, by decide +kernel⟩, List.mem_of_getElem? (i := 126) (by decide +kernel), List.mem_of_getElem? (i := 554) (by decide +kernel), List.mem_of_getElem? (i := 555) (by decide +kernel)⟩
theorem lw_p15 : lw_okq (⟨"StuckLines", "requireVector", "(I)V"⟩, 6) := ⟨⟨by decide +kernel, by decide +kernel⟩, List.mem_of_getElem? (i := 16) (by decide +kernel), List.mem_of_getElem? (i := 566) (by decide +kernel), List.mem_of_getElem? (i := 567) (by decide +kernel)⟩
def lw_privs_1 : List (MethodName × Nat) := [(⟨"StuckLines$Responses", "workOut", "(I)V"⟩, 5), (⟨"StuckLines$Signals", "settle", "(I)V"⟩, 7), (⟨"StuckLines$Signals", "settleGate", "(I)V"⟩, 7), (⟨"StuckLines$PackedSet", "gather", "()V"⟩, 6), (⟨"StuckLines$PackedSet", "thinOut", "()V"⟩, 6), (⟨"StuckLines$PackedSet", "showAll", "(J)Z"⟩, 6), (⟨"StuckLines$PackedSet", "dropTheLeftOut", "()V"⟩, 6), (⟨"java/lang/Throwable", "fillInStackTrace", "(I)Ljava/lang/Throwable;"⟩, 6), (⟨"StuckLines$Circuit", "addLine", "(I)I"⟩, 15), (⟨"StuckLines", "requireLine", "(I)V"⟩, 6), (⟨"StuckLines", "requireLineOrNone", "(I)V"⟩, 6), (⟨"StuckLines$Circuit", "addPin", "(II)V"⟩, 15), (⟨"StuckLines$Circuit", "gatherObserved", "()V"⟩, 15), (⟨"StuckLines$Circuit", "observe", "(I)V"⟩, 15), (⟨"StuckLines$Responses", "areAlike", "(II)Z"⟩, 5), (⟨"StuckLines", "requireVector", "(I)V"⟩, 6)]
theorem lw_r1 : ∀ q ∈ lw_privs_1, lw_okq q := List.forall_mem_cons.mpr ⟨lw_p0, List.forall_mem_cons.mpr ⟨lw_p1, List.forall_mem_cons.mpr ⟨lw_p2, List.forall_mem_cons.mpr ⟨lw_p3, List.forall_mem_cons.mpr ⟨lw_p4, List.forall_mem_cons.mpr ⟨lw_p5, List.forall_mem_cons.mpr ⟨lw_p6, List.forall_mem_cons.mpr ⟨lw_p7, List.forall_mem_cons.mpr ⟨lw_p8, List.forall_mem_cons.mpr ⟨lw_p9, List.forall_mem_cons.mpr ⟨lw_p10, List.forall_mem_cons.mpr ⟨lw_p11, List.forall_mem_cons.mpr ⟨lw_p12, List.forall_mem_cons.mpr ⟨lw_p13, List.forall_mem_cons.mpr ⟨lw_p14, List.forall_mem_cons.mpr ⟨lw_p15, fun _ h => absurd h List.not_mem_nil⟩⟩⟩⟩⟩⟩⟩⟩⟩⟩⟩⟩⟩⟩⟩⟩
theorem lw_p16 : lw_okq (⟨"StuckLines", "requireFaultOrNone", "(I)V"⟩, 6) := ⟨⟨by decide +kernel, by decide +kernel⟩, List.mem_of_getElem? (i := 16) (by decide +kernel), List.mem_of_getElem? (i := 572) (by decide +kernel), List.mem_of_getElem? (i := 573) (by decide +kernel)⟩
theorem lw_p17 : lw_okq (⟨"StuckLines", "requireFault", "(I)V"⟩, 6) := ⟨⟨by decide +kernel, by decide +kernel⟩, List.mem_of_getElem? (i := 16) (by decide +kernel), List.mem_of_getElem? (i := 576) (by decide +kernel), List.mem_of_getElem? (i := 577) (by decide +kernel)⟩
theorem lw_p18 : lw_okq (⟨"StuckLines$Cubes", "shows", "(III)Z"⟩, 3) := ⟨⟨by decide +kernel, by decide +kernel⟩, List.mem_of_getElem? (i := 150) (by decide +kernel), List.mem_of_getElem? (i := 657) (by decide +kernel), List.mem_of_getElem? (i := 658) (by decide +kernel)⟩
theorem lw_p19 : lw_okq (⟨"StuckLinesModel", "built", "()V"⟩, 29) := ⟨⟨by decide +kernel, by decide +kernel⟩, List.mem_of_getElem? (i := 679) (by decide +kernel), List.mem_of_getElem? (i := 781) (by decide +kernel), List.mem_of_getElem? (i := 782) (by decide +kernel)⟩
theorem lw_p20 : lw_okq (⟨"StuckLinesModel", "noLine", "(I)Z"⟩, 29) := ⟨⟨by decide +kernel, by decide +kernel⟩, List.mem_of_getElem? (i := 679) (by decide +kernel), List.mem_of_getElem? (i := 793) (by decide +kernel), List.mem_of_getElem? (i := 794) (by decide +kernel)⟩
theorem lw_p21 : lw_okq (⟨"StuckLinesModel", "learn", "()V"⟩, 29) := ⟨⟨by decide +kernel, by decide +kernel⟩, List.mem_of_getElem? (i := 679) (by decide +kernel), List.mem_of_getElem? (i := 809) (by decide +kernel), List.mem_of_getElem? (i := 810) (by decide +kernel)⟩
theorem lw_p22 : lw_okq (⟨"StuckLinesModel", "vectors", "()I"⟩, 29) := ⟨⟨by decide +kernel, by decide +kernel⟩, List.mem_of_getElem? (i := 679) (by decide +kernel), List.mem_of_getElem? (i := 813) (by decide +kernel), List.mem_of_getElem? (i := 814) (by decide +kernel)⟩
theorem lw_p23 : lw_okq (⟨"StuckLinesModel", "make", "(III)V"⟩, 29) := ⟨⟨by decide +kernel, by decide +kernel⟩, List.mem_of_getElem? (i := 679) (by decide +kernel), List.mem_of_getElem? (i := 817) (by decide +kernel), List.mem_of_getElem? (i := 818) (by decide +kernel)⟩
theorem lw_p24 : lw_okq (⟨"StuckLinesModel", "answered", "()I"⟩, 29) := ⟨⟨by decide +kernel, by decide +kernel⟩, List.mem_of_getElem? (i := 679) (by decide +kernel), List.mem_of_getElem? (i := 824) (by decide +kernel), List.mem_of_getElem? (i := 825) (by decide +kernel)⟩
theorem lw_p25 : lw_okq (⟨"StuckLinesModel", "leastOf", "(I)I"⟩, 29) := ⟨⟨by decide +kernel, by decide +kernel⟩, List.mem_of_getElem? (i := 679) (by decide +kernel), List.mem_of_getElem? (i := 828) (by decide +kernel), List.mem_of_getElem? (i := 829) (by decide +kernel)⟩
theorem lw_p26 : lw_okq (⟨"StuckLinesModel", "firstAlike", "(I)I"⟩, 29) := ⟨⟨by decide +kernel, by decide +kernel⟩, List.mem_of_getElem? (i := 679) (by decide +kernel), List.mem_of_getElem? (i := 832) (by decide +kernel), List.mem_of_getElem? (i := 833) (by decide +kernel)⟩
theorem lw_p27 : lw_okq (⟨"StuckLinesModel", "noFault", "(I)Z"⟩, 29) := ⟨⟨by decide +kernel, by decide +kernel⟩, List.mem_of_getElem? (i := 679) (by decide +kernel), List.mem_of_getElem? (i := 840) (by decide +kernel), List.mem_of_getElem? (i := 841) (by decide +kernel)⟩
theorem lw_p28 : lw_okq (⟨"StuckLinesModel", "tells", "(III)Z"⟩, 29) := ⟨⟨by decide +kernel, by decide +kernel⟩, List.mem_of_getElem? (i := 679) (by decide +kernel), List.mem_of_getElem? (i := 876) (by decide +kernel), List.mem_of_getElem? (i := 877) (by decide +kernel)⟩
theorem lw_p29 : lw_okq (⟨"StuckLinesModel", "pack", "()V"⟩, 29) := ⟨⟨by decide +kernel, by decide +kernel⟩, List.mem_of_getElem? (i := 679) (by decide +kernel), List.mem_of_getElem? (i := 884) (by decide +kernel), List.mem_of_getElem? (i := 885) (by decide +kernel)⟩
theorem lw_p30 : lw_okq (⟨"StuckLinesModel", "covered", "(II)Z"⟩, 29) := ⟨⟨by decide +kernel, by decide +kernel⟩, List.mem_of_getElem? (i := 679) (by decide +kernel), List.mem_of_getElem? (i := 888) (by decide +kernel), List.mem_of_getElem? (i := 889) (by decide +kernel)⟩
theorem lw_p31 : lw_okq (⟨"StuckLinesModel", "gives", "(I)Z"⟩, 29) := ⟨⟨by decide +kernel, by decide +kernel⟩, List.mem_of_getElem? (i := 679) (by decide +kernel), List.mem_of_getElem? (i := 904) (by decide +kernel), List.mem_of_getElem? (i := 905) (by decide +kernel)⟩
def lw_privs_2 : List (MethodName × Nat) := [(⟨"StuckLines", "requireFaultOrNone", "(I)V"⟩, 6), (⟨"StuckLines", "requireFault", "(I)V"⟩, 6), (⟨"StuckLines$Cubes", "shows", "(III)Z"⟩, 3), (⟨"StuckLinesModel", "built", "()V"⟩, 29), (⟨"StuckLinesModel", "noLine", "(I)Z"⟩, 29), (⟨"StuckLinesModel", "learn", "()V"⟩, 29), (⟨"StuckLinesModel", "vectors", "()I"⟩, 29), (⟨"StuckLinesModel", "make", "(III)V"⟩, 29), (⟨"StuckLinesModel", "answered", "()I"⟩, 29), (⟨"StuckLinesModel", "leastOf", "(I)I"⟩, 29), (⟨"StuckLinesModel", "firstAlike", "(I)I"⟩, 29), (⟨"StuckLinesModel", "noFault", "(I)Z"⟩, 29), (⟨"StuckLinesModel", "tells", "(III)Z"⟩, 29), (⟨"StuckLinesModel", "pack", "()V"⟩, 29), (⟨"StuckLinesModel", "covered", "(II)Z"⟩, 29), (⟨"StuckLinesModel", "gives", "(I)Z"⟩, 29)]
theorem lw_r2 : ∀ q ∈ lw_privs_2, lw_okq q := List.forall_mem_cons.mpr ⟨lw_p16, List.forall_mem_cons.mpr ⟨lw_p17, List.forall_mem_cons.mpr ⟨lw_p18, List.forall_mem_cons.mpr ⟨lw_p19, List.forall_mem_cons.mpr ⟨lw_p20, List.forall_mem_cons.mpr ⟨lw_p21, List.forall_mem_cons.mpr ⟨lw_p22, List.forall_mem_cons.mpr ⟨lw_p23, List.forall_mem_cons.mpr ⟨lw_p24, List.forall_mem_cons.mpr ⟨lw_p25, List.forall_mem_cons.mpr ⟨lw_p26, List.forall_mem_cons.mpr ⟨lw_p27, List.forall_mem_cons.mpr ⟨lw_p28, List.forall_mem_cons.mpr ⟨lw_p29, List.forall_mem_cons.mpr ⟨lw_p30, List.forall_mem_cons.mpr ⟨lw_p31, fun _ h => absurd h List.not_mem_nil⟩⟩⟩⟩⟩⟩⟩⟩⟩⟩⟩⟩⟩⟩⟩⟩
def lw_privs : List (MethodName × Nat) := lw_privs_1 ++ (lw_privs_2)
def lw_tbl : List Cond := k2_sels lw_privs ++ tables_1
theorem lw_privs_ok : ∀ q ∈ lw_privs, lw_okq q := by
  show ∀ q ∈ lw_privs_1 ++ (lw_privs_2), lw_okq q
  exact List.forall_mem_append.mpr ⟨lw_r1, lw_r2⟩
end
section
/-! classes, fields, words: printed by wip/whole/gen_static.py out of the Statement -/
def sk_T0 : u_T := fun k => match k with
  | 0 => ("StuckLines", "circuit", "LStuckLines$Circuit;", true)
  | 1 => ("StuckLines", "signals", "LStuckLines$Signals;", true)
  | 2 => ("StuckLines", "responses", "LStuckLines$Responses;", true)
  | 3 => ("StuckLines", "cubes", "LStuckLines$Cubes;", true)
  | 4 => ("StuckLines", "packedSet", "LStuckLines$PackedSet;", true)
  | _ => ("StuckLines", "seen", "LStuckLines$SeenLog;", true)
def sk_T1 : u_T := fun k => match k with
  | 0 => ("StuckLines$Circuit", "version", "I", false)
  | 1 => ("StuckLines$Circuit", "lines", "I", false)
  | 2 => ("StuckLines$Circuit", "sources", "I", false)
  | 3 => ("StuckLines$Circuit", "outputs", "I", false)
  | 4 => ("StuckLines$Circuit", "observed", "I", false)
  | 5 => ("StuckLines$Circuit", "pins", "I", false)
  | 6 => ("StuckLines$Circuit", "kindOf", "[I", true)
  | 7 => ("StuckLines$Circuit", "sourceOf", "[I", true)
  | 8 => ("StuckLines$Circuit", "isFlop", "[Z", true)
  | 9 => ("StuckLines$Circuit", "firstPin", "[I", true)
  | 10 => ("StuckLines$Circuit", "lineReadBy", "[I", true)
  | 11 => ("StuckLines$Circuit", "gateOfPin", "[I", true)
  | 12 => ("StuckLines$Circuit", "observedLine", "[I", true)
  | 13 => ("StuckLines$Circuit", "dataOf", "[I", true)
  | _ => ("StuckLines$Circuit", "outputLine", "[I", true)
def sk_T2 : u_T := fun k => match k with
  | 0 => ("StuckLines$Signals", "circuit", "LStuckLines$Circuit;", true)
  | 1 => ("StuckLines$Signals", "sourceOnes", "[J", true)
  | 2 => ("StuckLines$Signals", "sourceZeros", "[J", true)
  | 3 => ("StuckLines$Signals", "ones", "[J", true)
  | 4 => ("StuckLines$Signals", "zeros", "[J", true)
  | 5 => ("StuckLines$Signals", "stuckPin", "I", false)
  | _ => ("StuckLines$Signals", "stuckOnes", "J", false)
def sk_T3 : u_T := fun k => match k with
  | 0 => ("StuckLines$Responses", "circuit", "LStuckLines$Circuit;", true)
  | 1 => ("StuckLines$Responses", "signals", "LStuckLines$Signals;", true)
  | 2 => ("StuckLines$Responses", "observedOnes", "[J", true)
  | 3 => ("StuckLines$Responses", "shownBy", "[J", true)
  | _ => ("StuckLines$Responses", "versionOf", "[I", true)
def sk_T4 : u_T := fun k => match k with
  | 0 => ("StuckLines$Cubes", "circuit", "LStuckLines$Circuit;", true)
  | 1 => ("StuckLines$Cubes", "sound", "LStuckLines$Signals;", true)
  | _ => ("StuckLines$Cubes", "faulty", "LStuckLines$Signals;", true)
def sk_T5 : u_T := fun k => match k with
  | 0 => ("StuckLines$PackedSet", "circuit", "LStuckLines$Circuit;", true)
  | 1 => ("StuckLines$PackedSet", "responses", "LStuckLines$Responses;", true)
  | 2 => ("StuckLines$PackedSet", "vectors", "[I", true)
  | 3 => ("StuckLines$PackedSet", "size", "I", false)
  | 4 => ("StuckLines$PackedSet", "members", "J", false)
  | _ => ("StuckLines$PackedSet", "version", "I", false)
def sk_T6 : u_T := fun k => match k with
  | 0 => ("StuckLines$SeenLog", "responses", "LStuckLines$Responses;", true)
  | 1 => ("StuckLines$SeenLog", "vectors", "[I", true)
  | 2 => ("StuckLines$SeenLog", "seenResponses", "[I", true)
  | _ => ("StuckLines$SeenLog", "size", "I", false)
def sk_T7 : u_T := fun k => match k with
  | 0 => ("StuckLinesModel", "code", "I", false)
  | 1 => ("StuckLinesModel", "lines", "I", false)
  | 2 => ("StuckLinesModel", "sourceOf", "[I", true)
  | 3 => ("StuckLinesModel", "kinds", "[I", true)
  | 4 => ("StuckLinesModel", "pins", "[I", true)
  | 5 => ("StuckLinesModel", "pinCount", "[I", true)
  | 6 => ("StuckLinesModel", "sources", "I", false)
  | 7 => ("StuckLinesModel", "sourceLine", "[I", true)
  | 8 => ("StuckLinesModel", "flop", "[Z", true)
  | 9 => ("StuckLinesModel", "datum", "[I", true)
  | 10 => ("StuckLinesModel", "outputs", "I", false)
  | 11 => ("StuckLinesModel", "outputLine", "[I", true)
  | 12 => ("StuckLinesModel", "seen", "I", false)
  | 13 => ("StuckLinesModel", "observed", "[I", true)
  | 14 => ("StuckLinesModel", "sites", "I", false)
  | 15 => ("StuckLinesModel", "siteLine", "[I", true)
  | 16 => ("StuckLinesModel", "sitePin", "[I", true)
  | 17 => ("StuckLinesModel", "values", "[I", true)
  | 18 => ("StuckLinesModel", "plain", "[I", true)
  | 19 => ("StuckLinesModel", "known", "Z", false)
  | 20 => ("StuckLinesModel", "responses", "[I", true)
  | 21 => ("StuckLinesModel", "right", "[I", true)
  | 22 => ("StuckLinesModel", "packedUp", "Z", false)
  | 23 => ("StuckLinesModel", "chosen", "I", false)
  | 24 => ("StuckLinesModel", "set", "[I", true)
  | 25 => ("StuckLinesModel", "gone", "[Z", true)
  | 26 => ("StuckLinesModel", "logged", "I", false)
  | 27 => ("StuckLinesModel", "logVector", "[I", true)
  | _ => ("StuckLinesModel", "logResponse", "[I", true)
abbrev sk_cl : List vw_C := [("StuckLines", sk_T0, 6), ("StuckLines$Circuit", sk_T1, 15), ("StuckLines$Signals", sk_T2, 7), ("StuckLines$Responses", sk_T3, 5), ("StuckLines$Cubes", sk_T4, 3), ("StuckLines$PackedSet", sk_T5, 6), ("StuckLines$SeenLog", sk_T6, 4), ("StuckLinesModel", sk_T7, 29)]
def sk_kdT : List (List Nat) := [[2, 2, 2, 2, 2, 2], [0, 0, 0, 0, 0, 0, 2, 2, 2, 2, 2, 2, 2, 2, 2], [2, 2, 2, 2, 2, 0, 1], [2, 2, 2, 2, 2], [2, 2, 2], [2, 2, 2, 0, 1, 0], [2, 2, 2, 0], [0, 0, 2, 2, 2, 2, 0, 2, 2, 2, 0, 2, 0, 2, 0, 2, 2, 2, 2, 0, 2, 2, 0, 0, 2, 2, 0, 2, 2]]
def sk_kd (ci j : Nat) : Nat := (sk_kdT.getD ci []).getD j 0
def sk_ts : List Cond := lw_tbl.filter goodWord
theorem sk_in {w : Cond} (h : w ∈ tables_1) (hg : goodWord w = true) : w ∈ sk_ts := List.mem_filter.mpr ⟨List.mem_append_right _ h, hg⟩
theorem sk_inp {q : MethodName × Nat} (h : q ∈ lw_privs) (hg : goodWord (.selects q.1.cls q.1 q.1) = true) : Cond.selects q.1.cls q.1 q.1 ∈ sk_ts := List.mem_filter.mpr ⟨List.mem_append_left _ (List.mem_map.mpr ⟨q, h, rfl⟩), hg⟩
theorem sk_good (w : Cond) (h : w ∈ sk_ts) : goodWord w = true := (List.mem_filter.mp h).2
theorem sk_tbl (w : Cond) (h : w ∈ sk_ts) : w ∈ lw_tbl := (List.mem_filter.mp h).1
def sk_nw : List Cond := [.methodLinkNest "StuckLines" 11 ⟨"StuckLines$Circuit", "<init>", "()V"⟩ "StuckLines", .fieldLinkNest "StuckLines$Signals" 36 "StuckLines" "SOURCE_IN_VECTORS" "[J" "StuckLines", .castable "java/lang/IllegalStateException" "java/lang/IllegalStateException", .declares ⟨"java/lang/RuntimeException", "<init>", "()V"⟩, .declares ⟨"java/lang/RuntimeException", "<init>", "(Ljava/lang/String;)V"⟩, .declares ⟨"java/lang/Exception", "<init>", "()V"⟩, .declares ⟨"java/lang/Exception", "<init>", "(Ljava/lang/String;)V"⟩, .declares ⟨"java/lang/Throwable", "<init>", "()V"⟩, .declares ⟨"java/lang/Throwable", "<init>", "(Ljava/lang/String;)V"⟩, .castable "java/lang/IllegalArgumentException" "java/lang/IllegalArgumentException", .castable "java/lang/IndexOutOfBoundsException" "java/lang/IndexOutOfBoundsException"]
theorem sk_nw_tbl : ∀ w ∈ sk_nw, w ∈ lw_tbl := by
  intro w h
  refine List.mem_append_right _ ?_
  unfold sk_nw at h
  rcases List.mem_cons.mp h with rfl | h
  · exact List.mem_of_getElem? (i := 25) (by decide +kernel)
  rcases List.mem_cons.mp h with rfl | h
  · exact List.mem_of_getElem? (i := 280) (by decide +kernel)
  rcases List.mem_cons.mp h with rfl | h
  · exact List.mem_of_getElem? (i := 365) (by decide +kernel)
  rcases List.mem_cons.mp h with rfl | h
  · exact List.mem_of_getElem? (i := 366) (by decide +kernel)
  rcases List.mem_cons.mp h with rfl | h
  · exact List.mem_of_getElem? (i := 367) (by decide +kernel)
  rcases List.mem_cons.mp h with rfl | h
  · exact List.mem_of_getElem? (i := 368) (by decide +kernel)
  rcases List.mem_cons.mp h with rfl | h
  · exact List.mem_of_getElem? (i := 369) (by decide +kernel)
  rcases List.mem_cons.mp h with rfl | h
  · exact List.mem_of_getElem? (i := 370) (by decide +kernel)
  rcases List.mem_cons.mp h with rfl | h
  · exact List.mem_of_getElem? (i := 371) (by decide +kernel)
  rcases List.mem_cons.mp h with rfl | h
  · exact List.mem_of_getElem? (i := 450) (by decide +kernel)
  rcases List.mem_cons.mp h with rfl | h
  · exact List.mem_of_getElem? (i := 471) (by decide +kernel)
  · cases h
def sk_str : List (Nat × String) := [(70, "no room for a source"), (81, "no such kind"), (84, "a pin is missing"), (225, "no such line"), (93, "no room for a gate"), (106, "an output already, or no room for one"), (116, "not a flip-flop"), (138, "nothing to count"), (231, "no such vector"), (233, "no such fault"), (181, "nothing to tell of a fault"), (196, "not a sum of sources"), (198, "a source is open and 1"), (210, "no such response"), (215, "the log is full")]
def sk_siv (j : Nat) : Int64 := ([-6148914691236517206, -3689348814741910324, -1085102592571150096, -71777214294589696, -281470681808896, -4294967296] : List Int64).getD j 0
def sk_fty (T : u_T) : Nat → FieldType := fun k => (parseFieldDescriptor (T k).2.2.1).getD .int
def sk_dfv (kd : Nat) : Value := match kd with | 0 => .int 0 | 1 => .long 0 | _ => .null
def sk_clOk (ci : Nat) (q : vw_C) : Bool := (List.range q.2.2).all (fun k => (parseFieldDescriptor (q.2.1 k).2.2.1).isSome) && (List.range q.2.2).all (fun a => (List.range q.2.2).all (fun b => decide (a = b) || decide ((q.2.1 a).2.1 ≠ (q.2.1 b).2.1))) && (List.range q.2.2).all (fun k => decide (defaultValue (sk_fty q.2.1 k) = sk_dfv (sk_kd ci k))) && (u_ws q.1 q.2.1 q.2.2).all (fun w => decide (w ∈ tables_1) && goodWord w)
theorem sk_ok0 : sk_clOk 0 ("StuckLines", sk_T0, 6) = true := by decide +kernel
theorem sk_ok1 : sk_clOk 1 ("StuckLines$Circuit", sk_T1, 15) = true := by decide +kernel
theorem sk_ok2 : sk_clOk 2 ("StuckLines$Signals", sk_T2, 7) = true := by decide +kernel
theorem sk_ok3 : sk_clOk 3 ("StuckLines$Responses", sk_T3, 5) = true := by decide +kernel
theorem sk_ok4 : sk_clOk 4 ("StuckLines$Cubes", sk_T4, 3) = true := by decide +kernel
theorem sk_ok5 : sk_clOk 5 ("StuckLines$PackedSet", sk_T5, 6) = true := by decide +kernel
theorem sk_ok6 : sk_clOk 6 ("StuckLines$SeenLog", sk_T6, 4) = true := by decide +kernel
theorem sk_ok7 : sk_clOk 7 ("StuckLinesModel", sk_T7, 29) = true := by decide +kernel
theorem sk_clAll {ci : Nat} {q : vw_C} (h : sk_cl[ci]? = some q) : sk_clOk ci q = true := by
  match ci, h with
  | 0, h => cases h; exact sk_ok0
  | 1, h => cases h; exact sk_ok1
  | 2, h => cases h; exact sk_ok2
  | 3, h => cases h; exact sk_ok3
  | 4, h => cases h; exact sk_ok4
  | 5, h => cases h; exact sk_ok5
  | 6, h => cases h; exact sk_ok6
  | 7, h => cases h; exact sk_ok7
  | (n + 8), h => simp [sk_cl] at h
theorem sk_lays {ci : Nat} {C : String} {T : u_T} {N : Nat} (h : sk_cl[ci]? = some (C, T, N)) : ∀ w ∈ u_ws C T N, w ∈ sk_ts := by
  intro w hw
  have h1 := sk_clAll h
  simp only [sk_clOk, Bool.and_eq_true] at h1
  have h2 := List.all_eq_true.mp h1.2 w hw
  simp only [Bool.and_eq_true, decide_eq_true_eq] at h2
  exact sk_in h2.1 h2.2
theorem sk_ftyOk {ci : Nat} {C : String} {T : u_T} {N : Nat} (h : sk_cl[ci]? = some (C, T, N)) : ∀ k, k < N → parseFieldDescriptor (T k).2.2.1 = some (sk_fty T k) := by
  intro k hk
  have h1 := sk_clAll h
  simp only [sk_clOk, Bool.and_eq_true] at h1
  have h2 := List.all_eq_true.mp h1.1.1.1 k (List.mem_range.mpr hk)
  obtain ⟨v, hv⟩ := Option.isSome_iff_exists.mp h2
  simp only [sk_fty]
  rw [hv]; rfl
theorem sk_names {ci : Nat} {C : String} {T : u_T} {N : Nat} (h : sk_cl[ci]? = some (C, T, N)) : ∀ a, a < N → ∀ b, b < N → a ≠ b → (T a).2.1 ≠ (T b).2.1 := by
  intro a ha b hb hab
  have h1 := sk_clAll h
  simp only [sk_clOk, Bool.and_eq_true] at h1
  have h2 := List.all_eq_true.mp (List.all_eq_true.mp h1.1.1.2 a (List.mem_range.mpr ha)) b (List.mem_range.mpr hb)
  simp only [Bool.or_eq_true, decide_eq_true_eq] at h2
  exact h2.resolve_left hab
theorem sk_dflt {ci : Nat} {C : String} {T : u_T} {N : Nat} (h : sk_cl[ci]? = some (C, T, N)) {j : Nat} (hj : j < N) : defaultValue (sk_fty T j) = sk_dfv (sk_kd ci j) := by
  have h1 := sk_clAll h
  simp only [sk_clOk, Bool.and_eq_true] at h1
  have h2 := List.all_eq_true.mp h1.1.2 j (List.mem_range.mpr hj)
  exact of_decide_eq_true h2
end
section
/-! the walk in small: frames over cells by their places -/
abbrev sk_I : Type := Nat → Nat → Int32
abbrev sk_J : Type := Nat → Nat → Int64
abbrev sk_R : Type := Nat → Nat → Option Nat
abbrev sk_G : Type := Bool × List (Nat × Nat × Nat) × sk_R
abbrev sk_O : Type := Option Value ⊕ String
abbrev sk_Q : Type := sk_O → sk_G → sk_I → sk_J → Prop
abbrev sk_M : Type := String × MethodName × ByteArray × Nat × Option FieldType × List (Nat × Nat × Nat × Nat) × Nat × Nat
abbrev sk_own (M : sk_M) : String := M.1
abbrev sk_y (M : sk_M) : MethodName := M.2.1
abbrev sk_cc (M : sk_M) : ByteArray := M.2.2.1
abbrev sk_nl (M : sk_M) : Nat := M.2.2.2.1
abbrev sk_ret (M : sk_M) : Option FieldType := M.2.2.2.2.1
abbrev sk_tab (M : sk_M) : List (Nat × Nat × Nat × Nat) := M.2.2.2.2.2.1
abbrev sk_fr (M : sk_M) : Nat := M.2.2.2.2.2.2.1
abbrev sk_lo (M : sk_M) : Nat := M.2.2.2.2.2.2.2
abbrev sk_rm (M : sk_M) (mc ms : Nat) : Room := { frames := sk_fr M, cells := mc, slots := ms, locals := sk_lo M }
abbrev sk_T : Type := Launch × Nat × va_G × (Nat → ClassId) × (Nat → Nat) × Nat × (Nat → Int32) × (Nat → Nat)
abbrev sk_l (Γ : sk_T) : Launch := Γ.1
abbrev sk_b (Γ : sk_T) : Nat := Γ.2.1
abbrev sk_D (Γ : sk_T) : va_G := Γ.2.2.1
abbrev sk_id (Γ : sk_T) : Nat → ClassId := Γ.2.2.2.1
abbrev sk_ad (Γ : sk_T) : Nat → Nat := Γ.2.2.2.2.1
abbrev sk_len (Γ : sk_T) : Nat := Γ.2.2.2.2.2.1
abbrev sk_xs (Γ : sk_T) : Nat → Int32 := Γ.2.2.2.2.2.2.1
abbrev sk_sa (Γ : sk_T) : Nat → Nat := Γ.2.2.2.2.2.2.2
def sk_A (Γ : sk_T) : Nat → Prop := fun q => sk_b Γ ≤ q
/-- the script's place, and that of the static table -/
def sk_scr : Nat := 1000000
def sk_sta : Nat := 1000001
def sk_tr (Γ : sk_T) (v : Value) : Value := match v with
  | .ref k => .ref (sk_ad Γ k)
  | w => w
def sk_trL (Γ : sk_T) (L : List (Nat × Value)) : List (Nat × Value) := L.map fun q => (q.1, sk_tr Γ q.2)
def sk_fv (Γ : sk_T) (kd : Nat) (R : sk_R) (I : sk_I) (J : sk_J) (q j : Nat) : Value := match kd with
  | 0 => .int (I q j)
  | 1 => .long (J q j)
  | _ => match R q j with
    | none => .null
    | some r => .ref (sk_ad Γ r)
def sk_cell (Γ : sk_T) (R : sk_R) (I : sk_I) (J : sk_J) (q : Nat) (sp : Nat × Nat × Nat) : va_E := match sp.1 with
  | 0 => .inr (sp.2.1, (List.range sp.2.2).map (fun j => sk_fv Γ (sk_kd sp.2.1 j) R I J q j))
  | 1 => .inl (sk_id Γ 0, sp.2.1, .inl (I q))
  | 2 => .inl (sk_id Γ 1, sp.2.1, .inl (I q))
  | _ => .inl (sk_id Γ 2, sp.2.1, .inr (.inl (J q)))
def sk_ws (Γ : sk_T) (g : sk_G) (I : sk_I) (J : sk_J) : va_W := g.2.1.mapIdx (fun q sp => (sk_ad Γ q, sk_cell Γ g.2.2 I J q sp))
abbrev sk_tys (Γ : sk_T) : List (ClassId × FieldType) := [(sk_id Γ 0, .int), (sk_id Γ 1, .boolean), (sk_id Γ 2, .long)]
/-- the three exceptions, apart -/
def sk_nc (E F : String) : Bool := decide (E ≠ F) && decide (E ∈ ["java/lang/IllegalStateException", "java/lang/IllegalArgumentException", "java/lang/IndexOutOfBoundsException"]) && decide (F ∈ ["java/lang/IllegalStateException", "java/lang/IllegalArgumentException", "java/lang/IndexOutOfBoundsException"])
def sk_isN (w : Cond) : Bool := match w with
  | .fieldLinkNest _ _ _ _ _ _ => true
  | .methodLinkNest _ _ _ _ => true
  | .declares _ => true
  | .castable _ _ => true
  | _ => false
theorem sk_nw_ok : ∀ w ∈ sk_nw, sk_isN w = true := by decide +kernel
/-- a static of the machine's own, of which only its place is asked -/
def sk_L (C n d : String) (A : Nat → Prop) (U : State) (H : Heap) : Prop := ∃ (c : ClassId) (k : Class) (i : Nat) (f : Field) (a : Nat) (cell : Cell), U.vm.findClass C = some c ∧ U.fieldFound? C n d = some (c, k, i, f) ∧ f.isStatic = true ∧ k.statics = some a ∧ H[a]? = some cell ∧ cell.vm.isStatics = true ∧ cell.cls = c ∧ f.slot < cell.slots.size ∧ k.staticTypes[f.slot]? = some f.type ∧ ¬ A a
theorem sk_L.moved {C n d : String} {A : Nat → Prop} {u U : State} {H : Heap} (hvm : u.vm.Alike U.vm) (h : sk_L C n d A u H) : sk_L C n d A U H := by
  obtain ⟨c, k, i, f, a, cell, h1, h2, h3, h4, h5, h6, h7, h8, h9, h10⟩ := h
  obtain ⟨k', hi', he⟩ := State.fieldFound?_setVm hvm h2
  exact ⟨c, k', i, f, a, cell, by rw [hvm.findClass]; exact h1, hi', h3, by rw [he]; exact h4, h5, h6, h7, h8, by rw [he]; exact h9, h10⟩
theorem sk_L.kept {C n d : String} {A : Nat → Prop} {U : State} {H H1 : Heap} (h : sk_L C n d A U H) (hq : ∀ a : Nat, a < H.size → ¬ A a → H1[a]? = H[a]?) : sk_L C n d A U H1 := by
  obtain ⟨c, k, i, f, a, cell, h1, h2, h3, h4, h5, h6, h7, h8, h9, h10⟩ := h
  exact ⟨c, k, i, f, a, cell, h1, h2, h3, h4, by rw [hq a (Array.getElem?_eq_some_iff.mp h5).1 h10]; exact h5, h6, h7, h8, h9, h10⟩
theorem sk_L.word {C n d : String} {A : Nat → Prop} {s : State} {args : Array Value} (h : sk_L C n d A s s.heap) : (Cond.laysStatic C n d).before args s = true := by
  obtain ⟨c, k, i, f, a, cell, h1, h2, h3, h4, h5, h6, h7, h8, h9, -⟩ := h
  show (Cond.laysStatic C n d).holds args s none s [] = true
  exact Cond.laysStatic_of h1 h2 h3 h4 h5 h6 h7 h8 h9
theorem sk_L.of {args : Array Value} {s : State} {C n d : String} {A : Nat → Prop} (hl : (Cond.laysStatic C n d).before args s = true) (hA : ∀ a : Nat, a < s.heap.size → ¬ A a) : sk_L C n d A s s.heap := by
  obtain ⟨c, k, i, f, a, cell, h1, h2, h3, h4, h5, h6, h7, h8, h9⟩ := Cond.laysStatic_spec hl
  exact ⟨c, k, i, f, a, cell, h1, h2, h3, h4, h5, h6, h7, h8, h9, hA a (Array.getElem?_eq_some_iff.mp h5).1⟩
theorem sk_isRef {C n d : String} {A : Nat → Prop} {s : State} {args : Array Value} (h : va_Zq C n d A s s.heap) : (Cond.isRef (.static C n d)).before args s = true := by
  have key : ∀ v : Value, va_Z C n d v A s s.heap → v.isRef = true → (Cond.isRef (.static C n d)).before args s = true := by
    intro v hz hv
    obtain ⟨cf, kf, fi, f, a, cell, h1, h2, h3, h4, h5, h6, h7, -⟩ := hz
    have he : (Term.static C n d).eval args s none [] s = some v := by
      simp [Term.eval, State.fieldNamed?, h1, h2, h4, h5, h6, h7]
    simp only [Cond.before, Cond.holds, Cond.value, he]
    cases v <;> simp_all [Value.isRef]
  rcases h with h | ⟨t, h⟩
  · exact key _ h rfl
  · exact key _ h rfl
def sk_fix (Γ : sk_T) (U : State) : Prop :=
  va_K (sk_D Γ) sk_cl (sk_tys Γ) U ∧ (∀ w ∈ sk_nw, va_Nw w U) ∧
  va_Z "StuckLines" "SOURCE_IN_VECTORS" "[J" (.ref (sk_ad Γ sk_sta)) (sk_A Γ) U U.heap ∧ va_T .long (sk_ad Γ sk_sta) 6 (fun j => .long (sk_siv j)) (sk_A Γ) U U.heap ∧
  (va_Zq Bundle.tN "UNASSIGNED_STACK" Bundle.steD (sk_A Γ) U U.heap ∧ sk_L Bundle.tN "UNASSIGNED_STACK" Bundle.steD (sk_A Γ) U U.heap) ∧ (va_Zq Bundle.tN "SUPPRESSED_SENTINEL" Bundle.listD (sk_A Γ) U U.heap ∧ sk_L Bundle.tN "SUPPRESSED_SENTINEL" Bundle.listD (sk_A Γ) U U.heap) ∧
  (∀ (i : Nat) (q : Nat × String), sk_str[i]? = some q → vk_R "StuckLines" q.1 q.2 (sk_sa Γ i) U) ∧
  va_X (sk_ad Γ sk_scr) (sk_len Γ) (sk_xs Γ) U U.heap ∧ sk_ad Γ sk_scr < sk_b Γ ∧ (∀ k, k < 1000000 → sk_ad Γ k = sk_b Γ + k) ∧ (sk_l Γ).stackTraces = false ∧ (∀ (E F : String), sk_nc E F = true → va_Nc E F U)
def sk_hp (Γ : sk_T) (g : sk_G) (I : sk_I) (J : sk_J) (H : Heap) : Prop :=
  va_P (sk_D Γ) sk_cl (sk_ws Γ g I J) H ∧ sk_b Γ ≤ H.size ∧ (g.1 = true → H.size = sk_b Γ + g.2.1.length) ∧ g.2.1.length < 1000
def sk_world (Γ : sk_T) (g : sk_G) (I : sk_I) (J : sk_J) (U : State) : Prop := sk_hp Γ g I J U.heap ∧ sk_fix Γ U
def sk_Qr (Γ : sk_T) (Q : sk_Q) : Array Value → State → Outcome → State → Prop := fun _ st oc t =>
  ∃ (r : Option Value) (g : sk_G) (I : sk_I) (J : sk_J), oc = .returned (r.map (sk_tr Γ)) ∧ Q (.inl r) g I J ∧ sk_hp Γ g I J t.heap ∧ va_F (sk_A Γ) st t
/-- what a method has come to: returned, or thrown -/
def sk_End (Γ : sk_T) (Q : sk_Q) (mc ms : Nat) : Array Value → State → Outcome → State → Prop := fun a st o t =>
  (sk_Qr Γ Q a st o t ∧ ∃ L, FrameEnd st o t L mc ms ∧ ∀ z ∈ L, sk_A Γ z.base) ∨
  (∃ (q : Addr) (E : String) (ce : Cell) (g : sk_G) (I : sk_I) (J : sk_J) (L : List Loc), o = .threw q ∧ Q (.inr E) g I J ∧ sk_hp Γ g I J t.heap ∧ va_F (sk_A Γ) st t ∧ t.heap[q]? = some ce ∧ ce.vm = .none ∧ st.vm.findClass E = some ce.cls ∧ st.WarmedH t.vm ∧
    st.sameButNew ({ t with vm := st.vm } : State) L mc ms ∧ ∀ z ∈ L, sk_A Γ z.base)
def sk_Fin (Γ : sk_T) (Q : sk_Q) (mc ms : Nat) (below : List Frame) (a : Array Value) (s : State) : State → Prop := fun t => ∃ o, t.status = .running ∧ Ended t below o ∧ sk_End Γ Q mc ms a s o t
def sk_cx (Γ : sk_T) (M : sk_M) (p : Program) (s : State) (m : MethodId) (args : Array Value) (meth : Method) (c : Code) : Prop :=
  p.tables.exec = Jvm.exec ∧ c.code = sk_cc M ∧ c.maxLocals = sk_nl M ∧ meth.sig.returnType = sk_ret M ∧ meth.locks = false ∧ s.vm.findClass (sk_own M) = some m.cls ∧
  (∀ w ∈ sk_ts, w.before args s = true) ∧ sk_fix Γ s ∧ c.exceptionTable.toList = tableOf (sk_tab M) ∧ meth.name = (sk_y M).name ∧ sk_b Γ ≤ s.heap.size
/-- the machine at pc of method M, locals L, stack S, over cells: it comes to Q -/
def sk_W (Γ : sk_T) (M : sk_M) (mc ms : Nat) (pc : Nat) (L : List (Nat × Value)) (S : List Value) (g : sk_G) (I : sk_I) (J : sk_J) (kc kn : Nat) (Q : sk_Q) : Prop :=
  ∀ (p : Program) (e : Env) (s : State) (m : MethodId) (args : Array Value) (below : List Frame) (meth : Method) (c : Code) (H : Heap) (locs : List Loc) (ls : Array Slot),
    sk_cx Γ M p s m args meth c → sk_hp Γ g I J H → va_S (sk_A Γ) s.heap H locs → lv_has ls (sk_nl M) (sk_trL Γ L) →
    W p (sk_l Γ) e (sk_rm M mc ms) s m args below meth c H locs kc kn (sk_Fin Γ Q mc ms below args s) (F0 m pc ls (S.map (sk_tr Γ)))
/-- .. and with an exception of class E over it -/
def sk_X (Γ : sk_T) (M : sk_M) (mc ms : Nat) (pc : Nat) (L : List (Nat × Value)) (E : String) (g : sk_G) (I : sk_I) (J : sk_J) (kc kn : Nat) (Q : sk_Q) : Prop :=
  ∀ (p : Program) (e : Env) (s : State) (m : MethodId) (args : Array Value) (below : List Frame) (meth : Method) (c : Code) (T : State) (locs : List Loc) (ls : Array Slot) (S : List Value) (q : Addr) (ce : Cell),
    sk_cx Γ M p s m args meth c → sk_hp Γ g I J T.heap → va_S (sk_A Γ) s.heap T.heap locs → lv_has ls (sk_nl M) (sk_trL Γ L) → T.heap[q]? = some ce → ce.vm = .none → s.vm.findClass E = some ce.cls →
    Stand p (sk_l Γ) e (sk_rm M mc ms) s m args below meth c T locs kc kn → ∃ t, Steps p.tables e below ((T.setTop (F0 m pc ls S)).pushFrame (.throwing q)) t ∧ sk_Fin Γ Q mc ms below args s t
def sk_head (M : sk_M) : Cond := if sk_tab M = [] then .code (sk_y M) (sk_cc M) (sk_nl M) (sk_ret M) else .codeWith (sk_y M) (sk_cc M) (sk_nl M) (sk_ret M) (sk_tab M)
/-- a method's contract -/
def sk_S (Γ : sk_T) (M : sk_M) (mc ms : Nat) (as : List Value) (g : sk_G) (I : sk_I) (J : sk_J) (Q : sk_Q) : Prop :=
  MetFree (sk_l Γ) (sk_y M) (headSpec (sk_head M :: sk_ts) (sk_rm M mc ms)) (va_Pc (as.map (sk_tr Γ)) (sk_world Γ g I J)) (fun _ _ _ _ _ => True) (sk_End Γ Q mc ms)
theorem sk_tr_cat (Γ : sk_T) (v : Value) : (sk_tr Γ v).category = v.category := by cases v <;> rfl
theorem sk_cast {a b : String} {s U : State} (hvm : s.vm.Alike U.vm) (h : va_Nw (.castable a b) s) : va_Nw (.castable a b) U := by
  unfold va_Nw at h ⊢
  simp only [Cond.before, Cond.holds, Cond.value, hvm.findClass, hvm.assignable] at h ⊢
  exact h
theorem sk_N {w : Cond} (hw : sk_isN w = true) {s U : State} (hW : s.WarmedH U.vm) (h : va_Nw w s) : va_Nw w U := by
  cases w <;> first | exact va_Nw.warmF hW h | exact va_Nw.warmM hW h | exact va_Nw.warmD hW h | exact sk_cast hW.alike h | cases hw
theorem sk_Nc {E F : String} {s U : State} (hvm : s.vm.Alike U.vm) (h : va_Nc E F s) : va_Nc E F U := by
  obtain ⟨c, t, h1, h2, h3⟩ := h
  exact ⟨c, t, by rw [hvm.findClass]; exact h1, by rw [hvm.findClass]; exact h2, by rw [hvm.assignable]; exact h3⟩
theorem sk_move {Γ : sk_T} {s U : State} (h : sk_fix Γ s) (hk : ∀ q : Nat, q < s.heap.size → ¬ sk_A Γ q → U.heap[q]? = s.heap[q]?) (hW : s.WarmedH U.vm) : sk_fix Γ U := by
  obtain ⟨h1, h2, h3, h4, h5, h6, h7, h8, h9, h10, h11, h12⟩ := h
  refine ⟨va_K.moved hW.alike h1, fun w hw => sk_N (sk_nw_ok w hw) hW (h2 w hw), va_Z.moved hW.alike (h3.kept hk), va_T.moved hW.alike (h4.kept hk), ⟨va_Zq.moved hW.alike (h5.1.kept hk), sk_L.moved hW.alike (h5.2.kept hk)⟩, ⟨va_Zq.moved hW.alike (h6.1.kept hk), sk_L.moved hW.alike (h6.2.kept hk)⟩, fun i q hq => vk_R.warm hW (h7 i q hq), ?_, h9, h10, h11, fun E F hE => sk_Nc hW.alike (h12 E F hE)⟩
  obtain ⟨scr, q1, q2⟩ := id h8
  exact va_X.moved hW.alike (h8.kept (hk _ (Array.getElem?_eq_some_iff.mp q1).1 (fun z => by unfold sk_A at z; omega)))
theorem sk_wsAt (Γ : sk_T) (g : sk_G) (I : sk_I) (J : sk_J) {q : Nat} {sp : Nat × Nat × Nat} (h : g.2.1[q]? = some sp) : (sk_ws Γ g I J)[q]? = some (sk_ad Γ q, sk_cell Γ g.2.2 I J q sp) := by
  simp [sk_ws, List.getElem?_mapIdx, h]
theorem sk_apart {Γ : sk_T} {g : sk_G} (I : sk_I) (J : sk_J) (hl : g.2.1.length < 1000) (ha : ∀ k, k < 1000000 → sk_ad Γ k = sk_b Γ + k) : va_D (sk_A Γ) (sk_ws Γ g I J) := by
  have key : ∀ (k : Nat) (q : Nat × va_E), (sk_ws Γ g I J)[k]? = some q → k < 1000 ∧ q.1 = sk_b Γ + k := by
    intro k q hk
    have h1 : k < (sk_ws Γ g I J).length := (List.getElem?_eq_some_iff.mp hk).1
    have h2 : k < g.2.1.length := by simpa [sk_ws] using h1
    have h3 : (sk_ws Γ g I J)[k]? = some (sk_ad Γ k, sk_cell Γ g.2.2 I J k g.2.1[k]) := sk_wsAt Γ g I J (List.getElem?_eq_getElem h2)
    rw [h3] at hk
    cases hk
    exact ⟨by omega, ha k (by omega)⟩
  refine ⟨fun i j x y hi hj hxy => ?_, fun k q hk => ?_⟩
  · have h1 := (key i x hi).2
    have h2 := (key j y hj).2
    omega
  · have h1 := (key k q hk).2
    show sk_b Γ ≤ q.1
    omega
theorem sk_world_of {Γ : sk_T} {g : sk_G} {I : sk_I} {J : sk_J} {s U : State} {H : Heap} {locs : List Loc} (hF : sk_fix Γ s) (hH : sk_hp Γ g I J H) (hS : va_S (sk_A Γ) s.heap H locs) (hU : U.heap = H) (hW : s.WarmedH U.vm) : sk_world Γ g I J U :=
  ⟨by rw [hU]; exact hH, sk_move hF (fun q h1 h2 => by rw [hU]; exact hS.2.1 q h1 h2) hW⟩
theorem sk_blind (Γ : sk_T) (as : List Value) (g : sk_G) (I : sk_I) (J : sk_J) : FrameBlind (va_Pc as (sk_world Γ g I J)) := by
  intro a U f mk h
  exact ⟨h.1, h.2.1, sk_move h.2.2 (fun _ _ _ => rfl) (State.WarmedH.refl U)⟩
theorem sk_trL_at {Γ : sk_T} {L : List (Nat × Value)} {k i : Nat} {v : Value} (h : L[k]? = some (i, v)) : (sk_trL Γ L)[k]? = some (i, sk_tr Γ v) := by
  simp [sk_trL, h]
theorem sk_trL_f1 (Γ : sk_T) (L : List (Nat × Value)) (i : Nat) : (sk_trL Γ L).filter (fun q => !(q.1 == i) && !(q.1 + 1 == i && q.2.category == 2)) = sk_trL Γ (L.filter (fun q => !(q.1 == i) && !(q.1 + 1 == i && q.2.category == 2))) := by
  simp only [sk_trL, List.filter_map]
  congr 1
  apply List.filter_congr
  intro x _
  simp [Function.comp, sk_tr_cat]
theorem sk_trL_f2 (Γ : sk_T) (L : List (Nat × Value)) (i : Nat) : (sk_trL Γ L).filter (fun q => !(q.1 == i) && (!(q.1 == i + 1) && !(q.1 + 1 == i && q.2.category == 2))) = sk_trL Γ (L.filter (fun q => !(q.1 == i) && (!(q.1 == i + 1) && !(q.1 + 1 == i && q.2.category == 2)))) := by
  simp only [sk_trL, List.filter_map]
  congr 1
  apply List.filter_congr
  intro x _
  simp [Function.comp, sk_tr_cat]
theorem sk_args (Γ : sk_T) : ∀ (vs : List Value) (i : Nat), lv_args i (vs.map (sk_tr Γ)) = sk_trL Γ (lv_args i vs)
  | [], _ => rfl
  | v :: vs, i => by
    have h := sk_args Γ vs (if v.category = 2 then i + 2 else i + 1)
    simp only [List.map_cons, lv_args, sk_tr_cat, h]
    rfl
theorem sk_sl (Γ : sk_T) (vs : List Value) : (lg_sl (vs.map (sk_tr Γ))).length = (lg_sl vs).length := by
  induction vs with
  | nil => rfl
  | cons v vs ih =>
    simp only [lg_sl, List.map_cons, List.flatMap_cons, List.length_append, sk_tr_cat] at ih ⊢
    rw [ih]
    split <;> rfl
theorem sk_pick (Γ : sk_T) (L : List (Nat × Value)) (ks : List Nat) : lv_pick (sk_trL Γ L) ks = sk_trL Γ (lv_pick L ks) := by
  induction ks with
  | nil => rfl
  | cons a t ih =>
    simp only [lv_pick, sk_trL, List.filterMap_cons, List.getElem?_map] at ih ⊢
    cases h : L[a]? with
    | none => simpa [h] using ih
    | some x => simpa [h] using ih
end
section
section SKR
variable {Γ : sk_T} {M : sk_M} {mc ms pc : Nat} {L : List (Nat × Value)} {S : List Value} {g : sk_G} {I : sk_I} {J : sk_J} {kc kn : Nat} {Q : sk_Q}
theorem sk_iconst {i : Int} {v : Int32} (d : decode (sk_cc M) pc = .ok (.iconst i, 1)) (hv : Int32.ofInt i = v) (h : sk_W Γ M mc ms (pc + 1) L (.int v :: S) g I J kc kn Q) : sk_W Γ M mc ms pc L S g I J kc kn Q :=
  fun p e s m args below meth c H locs ls hC hH hS hl => lv_iconst hC.1 hC.2.1 d hv (h p e s m args below meth c H locs ls hC hH hS hl)
theorem sk_bipush {i : Int} {v : Int32} (d : decode (sk_cc M) pc = .ok (.bipush i, 2)) (hv : (Int8.ofInt i).toInt32 = v) (h : sk_W Γ M mc ms (pc + 2) L (.int v :: S) g I J kc kn Q) : sk_W Γ M mc ms pc L S g I J kc kn Q :=
  fun p e s m args below meth c H locs ls hC hH hS hl => lv_bipush hC.1 hC.2.1 d hv (h p e s m args below meth c H locs ls hC hH hS hl)
theorem sk_sipush {i : Int} {v : Int32} (d : decode (sk_cc M) pc = .ok (.sipush i, 3)) (hv : (Int16.ofInt i).toInt32 = v) (h : sk_W Γ M mc ms (pc + 3) L (.int v :: S) g I J kc kn Q) : sk_W Γ M mc ms pc L S g I J kc kn Q :=
  fun p e s m args below meth c H locs ls hC hH hS hl => lv_sipush hC.1 hC.2.1 d hv (h p e s m args below meth c H locs ls hC hH hS hl)
theorem sk_lconst {i : Fin 2} {v : Int64} (d : decode (sk_cc M) pc = .ok (.lconst i, 1)) (hv : Int64.ofNat (i : Nat) = v) (h : sk_W Γ M mc ms (pc + 1) L (.long v :: S) g I J kc kn Q) : sk_W Γ M mc ms pc L S g I J kc kn Q :=
  fun p e s m args below meth c H locs ls hC hH hS hl => lv_lconst hC.1 hC.2.1 d hv (h p e s m args below meth c H locs ls hC hH hS hl)
theorem sk_ldc {i : Nat} {v : Int32} (d : decode (sk_cc M) pc = .ok (.ldc i, 2)) (hv : Cond.constant (sk_own M) i v ∈ sk_ts) (h : sk_W Γ M mc ms (pc + 2) L (.int v :: S) g I J kc kn Q) : sk_W Γ M mc ms pc L S g I J kc kn Q :=
  fun p e s m args below meth c H locs ls hC hH hS hl => lv_ldc hC.1 hC.2.1 hC.2.2.2.2.2.1 (hC.2.2.2.2.2.2.1 _ hv) d (h p e s m args below meth c H locs ls hC hH hS hl)
theorem sk_ldc2 {i : Nat} {v : Int64} (d : decode (sk_cc M) pc = .ok (.ldc2_w i, 3)) (hv : Cond.constantLong (sk_own M) i v ∈ sk_ts) (h : sk_W Γ M mc ms (pc + 3) L (.long v :: S) g I J kc kn Q) : sk_W Γ M mc ms pc L S g I J kc kn Q :=
  fun p e s m args below meth c H locs ls hC hH hS hl => lv_ldc2 hC.1 hC.2.1 hC.2.2.2.2.2.1 (hC.2.2.2.2.2.2.1 _ hv) d (h p e s m args below meth c H locs ls hC hH hS hl)
theorem sk_iload_n {f : Fin 4} {i j : Nat} {x : Int32} (d : decode (sk_cc M) pc = .ok (.iload_n f, 1)) (hi : (f : Nat) = i) (hk : L[j]? = some (i, .int x)) (h : sk_W Γ M mc ms (pc + 1) L (.int x :: S) g I J kc kn Q) : sk_W Γ M mc ms pc L S g I J kc kn Q :=
  fun p e s m args below meth c H locs ls hC hH hS hl => lv_iload_n hC.1 hC.2.1 d hi (lv_at hl j (sk_trL_at hk)) (h p e s m args below meth c H locs ls hC hH hS hl)
theorem sk_iload {i j : Nat} {x : Int32} (d : decode (sk_cc M) pc = .ok (.iload i, 2)) (hk : L[j]? = some (i, .int x)) (h : sk_W Γ M mc ms (pc + 2) L (.int x :: S) g I J kc kn Q) : sk_W Γ M mc ms pc L S g I J kc kn Q :=
  fun p e s m args below meth c H locs ls hC hH hS hl => lv_iload hC.1 hC.2.1 d (lv_at hl j (sk_trL_at hk)) (h p e s m args below meth c H locs ls hC hH hS hl)
theorem sk_istore_n {f : Fin 4} {i : Nat} {x : Int32} {L' : List (Nat × Value)} (d : decode (sk_cc M) pc = .ok (.istore_n f, 1)) (hi : (f : Nat) = i) (hn : i < sk_nl M) (hL : (i, Value.int x) :: L.filter (fun q => !(q.1 == i) && !(q.1 + 1 == i && q.2.category == 2)) = L') (h : sk_W Γ M mc ms (pc + 1) L' S g I J kc kn Q) : sk_W Γ M mc ms pc L (.int x :: S) g I J kc kn Q :=
  fun p e s m args below meth c H locs ls hC hH hS hl => lv_istore_n hC.1 hC.2.1 d hi hl hn (by rw [sk_trL_f1, ← hL]; rfl) (fun ls' hl' => h p e s m args below meth c H locs ls' hC hH hS hl')
theorem sk_istore {i : Nat} {x : Int32} {L' : List (Nat × Value)} (d : decode (sk_cc M) pc = .ok (.istore i, 2)) (hn : i < sk_nl M) (hL : (i, Value.int x) :: L.filter (fun q => !(q.1 == i) && !(q.1 + 1 == i && q.2.category == 2)) = L') (h : sk_W Γ M mc ms (pc + 2) L' S g I J kc kn Q) : sk_W Γ M mc ms pc L (.int x :: S) g I J kc kn Q :=
  fun p e s m args below meth c H locs ls hC hH hS hl => lv_istore hC.1 hC.2.1 d hl hn (by rw [sk_trL_f1, ← hL]; rfl) (fun ls' hl' => h p e s m args below meth c H locs ls' hC hH hS hl')
theorem sk_lload_n {f : Fin 4} {i j : Nat} {x : Int64} (d : decode (sk_cc M) pc = .ok (.lload_n f, 1)) (hi : (f : Nat) = i) (hk : L[j]? = some (i, .long x)) (h : sk_W Γ M mc ms (pc + 1) L (.long x :: S) g I J kc kn Q) : sk_W Γ M mc ms pc L S g I J kc kn Q :=
  fun p e s m args below meth c H locs ls hC hH hS hl => lv_lload_n hC.1 hC.2.1 d hi (lv_at hl j (sk_trL_at hk)) (h p e s m args below meth c H locs ls hC hH hS hl)
theorem sk_lload {i j : Nat} {x : Int64} (d : decode (sk_cc M) pc = .ok (.lload i, 2)) (hk : L[j]? = some (i, .long x)) (h : sk_W Γ M mc ms (pc + 2) L (.long x :: S) g I J kc kn Q) : sk_W Γ M mc ms pc L S g I J kc kn Q :=
  fun p e s m args below meth c H locs ls hC hH hS hl => lv_lload hC.1 hC.2.1 d (lv_at hl j (sk_trL_at hk)) (h p e s m args below meth c H locs ls hC hH hS hl)
theorem sk_lstore_n {f : Fin 4} {i : Nat} {x : Int64} {L' : List (Nat × Value)} (d : decode (sk_cc M) pc = .ok (.lstore_n f, 1)) (hi : (f : Nat) = i) (hn : i + 1 < sk_nl M) (hL : (i, Value.long x) :: L.filter (fun q => !(q.1 == i) && (!(q.1 == i + 1) && !(q.1 + 1 == i && q.2.category == 2))) = L') (h : sk_W Γ M mc ms (pc + 1) L' S g I J kc kn Q) : sk_W Γ M mc ms pc L (.long x :: S) g I J kc kn Q :=
  fun p e s m args below meth c H locs ls hC hH hS hl => lv_lstore_n hC.1 hC.2.1 d hi hl hn (by rw [sk_trL_f2, ← hL]; rfl) (fun ls' hl' => h p e s m args below meth c H locs ls' hC hH hS hl')
theorem sk_lstore {i : Nat} {x : Int64} {L' : List (Nat × Value)} (d : decode (sk_cc M) pc = .ok (.lstore i, 2)) (hn : i + 1 < sk_nl M) (hL : (i, Value.long x) :: L.filter (fun q => !(q.1 == i) && (!(q.1 == i + 1) && !(q.1 + 1 == i && q.2.category == 2))) = L') (h : sk_W Γ M mc ms (pc + 2) L' S g I J kc kn Q) : sk_W Γ M mc ms pc L (.long x :: S) g I J kc kn Q :=
  fun p e s m args below meth c H locs ls hC hH hS hl => lv_lstore hC.1 hC.2.1 d hl hn (by rw [sk_trL_f2, ← hL]; rfl) (fun ls' hl' => h p e s m args below meth c H locs ls' hC hH hS hl')
theorem sk_aload_n {f : Fin 4} {i j : Nat} {x : Nat} (d : decode (sk_cc M) pc = .ok (.aload_n f, 1)) (hi : (f : Nat) = i) (hk : L[j]? = some (i, .ref x)) (h : sk_W Γ M mc ms (pc + 1) L (.ref x :: S) g I J kc kn Q) : sk_W Γ M mc ms pc L S g I J kc kn Q :=
  fun p e s m args below meth c H locs ls hC hH hS hl => lv_aload_n hC.1 hC.2.1 d hi (lv_at hl j (sk_trL_at hk)) (h p e s m args below meth c H locs ls hC hH hS hl)
theorem sk_aload {i j : Nat} {x : Nat} (d : decode (sk_cc M) pc = .ok (.aload i, 2)) (hk : L[j]? = some (i, .ref x)) (h : sk_W Γ M mc ms (pc + 2) L (.ref x :: S) g I J kc kn Q) : sk_W Γ M mc ms pc L S g I J kc kn Q :=
  fun p e s m args below meth c H locs ls hC hH hS hl => lv_aload hC.1 hC.2.1 d (lv_at hl j (sk_trL_at hk)) (h p e s m args below meth c H locs ls hC hH hS hl)
theorem sk_astore_n {f : Fin 4} {i : Nat} {x : Nat} {L' : List (Nat × Value)} (d : decode (sk_cc M) pc = .ok (.astore_n f, 1)) (hi : (f : Nat) = i) (hn : i < sk_nl M) (hL : (i, Value.ref x) :: L.filter (fun q => !(q.1 == i) && !(q.1 + 1 == i && q.2.category == 2)) = L') (h : sk_W Γ M mc ms (pc + 1) L' S g I J kc kn Q) : sk_W Γ M mc ms pc L (.ref x :: S) g I J kc kn Q :=
  fun p e s m args below meth c H locs ls hC hH hS hl => lv_astore_n hC.1 hC.2.1 d hi hl hn (by rw [sk_trL_f1, ← hL]; rfl) (fun ls' hl' => h p e s m args below meth c H locs ls' hC hH hS hl')
theorem sk_astore {i : Nat} {x : Nat} {L' : List (Nat × Value)} (d : decode (sk_cc M) pc = .ok (.astore i, 2)) (hn : i < sk_nl M) (hL : (i, Value.ref x) :: L.filter (fun q => !(q.1 == i) && !(q.1 + 1 == i && q.2.category == 2)) = L') (h : sk_W Γ M mc ms (pc + 2) L' S g I J kc kn Q) : sk_W Γ M mc ms pc L (.ref x :: S) g I J kc kn Q :=
  fun p e s m args below meth c H locs ls hC hH hS hl => lv_astore hC.1 hC.2.1 d hl hn (by rw [sk_trL_f1, ← hL]; rfl) (fun ls' hl' => h p e s m args below meth c H locs ls' hC hH hS hl')
theorem sk_iinc {i j : Nat} {w : Int} {x v : Int32} {L' : List (Nat × Value)} (d : decode (sk_cc M) pc = .ok (.iinc i w, 3)) (hk : L[j]? = some (i, .int x)) (hv : x + Int32.ofInt w = v) (hn : i < sk_nl M) (hL : (i, Value.int v) :: L.filter (fun q => !(q.1 == i) && !(q.1 + 1 == i && q.2.category == 2)) = L') (h : sk_W Γ M mc ms (pc + 3) L' S g I J kc kn Q) : sk_W Γ M mc ms pc L S g I J kc kn Q :=
  fun p e s m args below meth c H locs ls hC hH hS hl => lv_iinc hC.1 hC.2.1 d hl (sk_trL_at hk) hv hn (by rw [sk_trL_f1, ← hL]; rfl) (fun ls' hl' => h p e s m args below meth c H locs ls' hC hH hS hl')
theorem sk_iadd {x y : Int32} (d : decode (sk_cc M) pc = .ok (.iadd, 1)) (h : sk_W Γ M mc ms (pc + 1) L (.int (x + y) :: S) g I J kc kn Q) : sk_W Γ M mc ms pc L (.int y :: .int x :: S) g I J kc kn Q :=
  fun p e s m args below meth c H locs ls hC hH hS hl => lv_iadd hC.1 hC.2.1 d (h p e s m args below meth c H locs ls hC hH hS hl)
theorem sk_isub {x y : Int32} (d : decode (sk_cc M) pc = .ok (.isub, 1)) (h : sk_W Γ M mc ms (pc + 1) L (.int (x - y) :: S) g I J kc kn Q) : sk_W Γ M mc ms pc L (.int y :: .int x :: S) g I J kc kn Q :=
  fun p e s m args below meth c H locs ls hC hH hS hl => lv_isub hC.1 hC.2.1 d (h p e s m args below meth c H locs ls hC hH hS hl)
theorem sk_imul {x y : Int32} (d : decode (sk_cc M) pc = .ok (.imul, 1)) (h : sk_W Γ M mc ms (pc + 1) L (.int (x * y) :: S) g I J kc kn Q) : sk_W Γ M mc ms pc L (.int y :: .int x :: S) g I J kc kn Q :=
  fun p e s m args below meth c H locs ls hC hH hS hl => lv_imul hC.1 hC.2.1 d (h p e s m args below meth c H locs ls hC hH hS hl)
theorem sk_iand {x y : Int32} (d : decode (sk_cc M) pc = .ok (.iand, 1)) (h : sk_W Γ M mc ms (pc + 1) L (.int (x &&& y) :: S) g I J kc kn Q) : sk_W Γ M mc ms pc L (.int y :: .int x :: S) g I J kc kn Q :=
  fun p e s m args below meth c H locs ls hC hH hS hl => lv_iand hC.1 hC.2.1 d (h p e s m args below meth c H locs ls hC hH hS hl)
theorem sk_ior {x y : Int32} (d : decode (sk_cc M) pc = .ok (.ior, 1)) (h : sk_W Γ M mc ms (pc + 1) L (.int (x ||| y) :: S) g I J kc kn Q) : sk_W Γ M mc ms pc L (.int y :: .int x :: S) g I J kc kn Q :=
  fun p e s m args below meth c H locs ls hC hH hS hl => lv_ior hC.1 hC.2.1 d (h p e s m args below meth c H locs ls hC hH hS hl)
theorem sk_ixor {x y : Int32} (d : decode (sk_cc M) pc = .ok (.ixor, 1)) (h : sk_W Γ M mc ms (pc + 1) L (.int (x ^^^ y) :: S) g I J kc kn Q) : sk_W Γ M mc ms pc L (.int y :: .int x :: S) g I J kc kn Q :=
  fun p e s m args below meth c H locs ls hC hH hS hl => lv_ixor hC.1 hC.2.1 d (h p e s m args below meth c H locs ls hC hH hS hl)
theorem sk_ishl {x y : Int32} (d : decode (sk_cc M) pc = .ok (.ishl, 1)) (h : sk_W Γ M mc ms (pc + 1) L (.int (x <<< (y &&& 31)) :: S) g I J kc kn Q) : sk_W Γ M mc ms pc L (.int y :: .int x :: S) g I J kc kn Q :=
  fun p e s m args below meth c H locs ls hC hH hS hl => lv_ishl hC.1 hC.2.1 d (h p e s m args below meth c H locs ls hC hH hS hl)
theorem sk_ishr {x y : Int32} (d : decode (sk_cc M) pc = .ok (.ishr, 1)) (h : sk_W Γ M mc ms (pc + 1) L (.int (x >>> (y &&& 31)) :: S) g I J kc kn Q) : sk_W Γ M mc ms pc L (.int y :: .int x :: S) g I J kc kn Q :=
  fun p e s m args below meth c H locs ls hC hH hS hl => lv_ishr hC.1 hC.2.1 d (h p e s m args below meth c H locs ls hC hH hS hl)
theorem sk_idiv {x y : Int32} (d : decode (sk_cc M) pc = .ok (.idiv, 1)) (hy : ¬ y = 0) (h : sk_W Γ M mc ms (pc + 1) L (.int (x / y) :: S) g I J kc kn Q) : sk_W Γ M mc ms pc L (.int y :: .int x :: S) g I J kc kn Q :=
  fun p e s m args below meth c H locs ls hC hH hS hl => lv_idiv hC.1 hC.2.1 d hy (h p e s m args below meth c H locs ls hC hH hS hl)
theorem sk_irem {x y : Int32} (d : decode (sk_cc M) pc = .ok (.irem, 1)) (hy : ¬ y = 0) (h : sk_W Γ M mc ms (pc + 1) L (.int (x - x / y * y) :: S) g I J kc kn Q) : sk_W Γ M mc ms pc L (.int y :: .int x :: S) g I J kc kn Q :=
  fun p e s m args below meth c H locs ls hC hH hS hl => lv_irem hC.1 hC.2.1 d hy (h p e s m args below meth c H locs ls hC hH hS hl)
theorem sk_ladd {x y : Int64} (d : decode (sk_cc M) pc = .ok (.ladd, 1)) (h : sk_W Γ M mc ms (pc + 1) L (.long (x + y) :: S) g I J kc kn Q) : sk_W Γ M mc ms pc L (.long y :: .long x :: S) g I J kc kn Q :=
  fun p e s m args below meth c H locs ls hC hH hS hl => lv_ladd hC.1 hC.2.1 d (h p e s m args below meth c H locs ls hC hH hS hl)
theorem sk_land {x y : Int64} (d : decode (sk_cc M) pc = .ok (.land, 1)) (h : sk_W Γ M mc ms (pc + 1) L (.long (x &&& y) :: S) g I J kc kn Q) : sk_W Γ M mc ms pc L (.long y :: .long x :: S) g I J kc kn Q :=
  fun p e s m args below meth c H locs ls hC hH hS hl => lv_land hC.1 hC.2.1 d (h p e s m args below meth c H locs ls hC hH hS hl)
theorem sk_lor {x y : Int64} (d : decode (sk_cc M) pc = .ok (.lor, 1)) (h : sk_W Γ M mc ms (pc + 1) L (.long (x ||| y) :: S) g I J kc kn Q) : sk_W Γ M mc ms pc L (.long y :: .long x :: S) g I J kc kn Q :=
  fun p e s m args below meth c H locs ls hC hH hS hl => lv_lor hC.1 hC.2.1 d (h p e s m args below meth c H locs ls hC hH hS hl)
theorem sk_lxor {x y : Int64} (d : decode (sk_cc M) pc = .ok (.lxor, 1)) (h : sk_W Γ M mc ms (pc + 1) L (.long (x ^^^ y) :: S) g I J kc kn Q) : sk_W Γ M mc ms pc L (.long y :: .long x :: S) g I J kc kn Q :=
  fun p e s m args below meth c H locs ls hC hH hS hl => lv_lxor hC.1 hC.2.1 d (h p e s m args below meth c H locs ls hC hH hS hl)
theorem sk_lshl {x : Int64} {y : Int32} (d : decode (sk_cc M) pc = .ok (.lshl, 1)) (h : sk_W Γ M mc ms (pc + 1) L (.long (x <<< (y.toInt64 &&& 63)) :: S) g I J kc kn Q) : sk_W Γ M mc ms pc L (.int y :: .long x :: S) g I J kc kn Q :=
  fun p e s m args below meth c H locs ls hC hH hS hl => lv_lshl hC.1 hC.2.1 d rfl (h p e s m args below meth c H locs ls hC hH hS hl)
theorem sk_lushr {x : Int64} {y : Int32} (d : decode (sk_cc M) pc = .ok (.lushr, 1)) (h : sk_W Γ M mc ms (pc + 1) L (.long ((x.toUInt64 >>> (y.toInt64.toUInt64 &&& Int64.toUInt64 63)).toInt64) :: S) g I J kc kn Q) : sk_W Γ M mc ms pc L (.int y :: .long x :: S) g I J kc kn Q :=
  fun p e s m args below meth c H locs ls hC hH hS hl => lv_lushr hC.1 hC.2.1 d rfl (h p e s m args below meth c H locs ls hC hH hS hl)
theorem sk_i2l {x : Int32} (d : decode (sk_cc M) pc = .ok (.i2l, 1)) (h : sk_W Γ M mc ms (pc + 1) L (.long x.toInt64 :: S) g I J kc kn Q) : sk_W Γ M mc ms pc L (.int x :: S) g I J kc kn Q :=
  fun p e s m args below meth c H locs ls hC hH hS hl => lv_i2l hC.1 hC.2.1 d rfl (h p e s m args below meth c H locs ls hC hH hS hl)
theorem sk_l2i {x : Int64} (d : decode (sk_cc M) pc = .ok (.l2i, 1)) (h : sk_W Γ M mc ms (pc + 1) L (.int x.toInt32 :: S) g I J kc kn Q) : sk_W Γ M mc ms pc L (.long x :: S) g I J kc kn Q :=
  fun p e s m args below meth c H locs ls hC hH hS hl => lv_l2i hC.1 hC.2.1 d rfl (h p e s m args below meth c H locs ls hC hH hS hl)
theorem sk_lcmp {x y : Int64} (d : decode (sk_cc M) pc = .ok (.lcmp, 1)) (h : sk_W Γ M mc ms (pc + 1) L (.int (lg_cmp x y) :: S) g I J kc kn Q) : sk_W Γ M mc ms pc L (.long y :: .long x :: S) g I J kc kn Q :=
  fun p e s m args below meth c H locs ls hC hH hS hl => W.lcmp hC.1 hC.2.1 d (h p e s m args below meth c H locs ls hC hH hS hl)
theorem sk_dup {v : Value} (d : decode (sk_cc M) pc = .ok (.dup, 1)) (hv : v.category = 1) (h : sk_W Γ M mc ms (pc + 1) L (v :: v :: S) g I J kc kn Q) : sk_W Γ M mc ms pc L (v :: S) g I J kc kn Q :=
  fun p e s m args below meth c H locs ls hC hH hS hl => lv_dup hC.1 hC.2.1 d ((sk_tr_cat Γ v).trans hv) (h p e s m args below meth c H locs ls hC hH hS hl)
theorem sk_pop {v : Value} (d : decode (sk_cc M) pc = .ok (.pop, 1)) (hv : v.category = 1) (h : sk_W Γ M mc ms (pc + 1) L S g I J kc kn Q) : sk_W Γ M mc ms pc L (v :: S) g I J kc kn Q :=
  fun p e s m args below meth c H locs ls hC hH hS hl => lv_pop hC.1 hC.2.1 d ((sk_tr_cat Γ v).trans hv) (h p e s m args below meth c H locs ls hC hH hS hl)
theorem sk_dup_x1 {v w : Value} (d : decode (sk_cc M) pc = .ok (.dup_x1, 1)) (hv : v.category = 1) (hw : w.category = 1) (h : sk_W Γ M mc ms (pc + 1) L (v :: w :: v :: S) g I J kc kn Q) : sk_W Γ M mc ms pc L (v :: w :: S) g I J kc kn Q :=
  fun p e s m args below meth c H locs ls hC hH hS hl => lv_dup_x1 hC.1 hC.2.1 d ((sk_tr_cat Γ v).trans hv) ((sk_tr_cat Γ w).trans hw) (h p e s m args below meth c H locs ls hC hH hS hl)
theorem sk_dup2 {v w : Value} (d : decode (sk_cc M) pc = .ok (.dup2, 1)) (hv : v.category = 1) (hw : w.category = 1) (h : sk_W Γ M mc ms (pc + 1) L (v :: w :: v :: w :: S) g I J kc kn Q) : sk_W Γ M mc ms pc L (v :: w :: S) g I J kc kn Q :=
  fun p e s m args below meth c H locs ls hC hH hS hl => lv_dup2_11 hC.1 hC.2.1 d ((sk_tr_cat Γ v).trans hv) ((sk_tr_cat Γ w).trans hw) (h p e s m args below meth c H locs ls hC hH hS hl)
theorem sk_if_eq {x : Int32} {off : Int} {tgt : Nat} (d : decode (sk_cc M) pc = .ok (.ifCond .eq off, 3)) (ht : (pc : Int) + off = (tgt : Int)) (kt : x = 0 → sk_W Γ M mc ms tgt L S g I J kc kn Q) (kf : ¬ x = 0 → sk_W Γ M mc ms (pc + 3) L S g I J kc kn Q) : sk_W Γ M mc ms pc L (.int x :: S) g I J kc kn Q :=
  fun p e s m args below meth c H locs ls hC hH hS hl => lv_if_eq hC.1 hC.2.1 d ht (fun q => kt q p e s m args below meth c H locs ls hC hH hS hl) (fun q => kf q p e s m args below meth c H locs ls hC hH hS hl)
theorem sk_icmp_eq {x y : Int32} {off : Int} {tgt : Nat} (d : decode (sk_cc M) pc = .ok (.if_icmp .eq off, 3)) (ht : (pc : Int) + off = (tgt : Int)) (kt : x = y → sk_W Γ M mc ms tgt L S g I J kc kn Q) (kf : ¬ x = y → sk_W Γ M mc ms (pc + 3) L S g I J kc kn Q) : sk_W Γ M mc ms pc L (.int y :: .int x :: S) g I J kc kn Q :=
  fun p e s m args below meth c H locs ls hC hH hS hl => lv_icmp_eq hC.1 hC.2.1 d ht (fun q => kt q p e s m args below meth c H locs ls hC hH hS hl) (fun q => kf q p e s m args below meth c H locs ls hC hH hS hl)
theorem sk_if_ne {x : Int32} {off : Int} {tgt : Nat} (d : decode (sk_cc M) pc = .ok (.ifCond .ne off, 3)) (ht : (pc : Int) + off = (tgt : Int)) (kt : ¬ x = 0 → sk_W Γ M mc ms tgt L S g I J kc kn Q) (kf : x = 0 → sk_W Γ M mc ms (pc + 3) L S g I J kc kn Q) : sk_W Γ M mc ms pc L (.int x :: S) g I J kc kn Q :=
  fun p e s m args below meth c H locs ls hC hH hS hl => lv_if_ne hC.1 hC.2.1 d ht (fun q => kt q p e s m args below meth c H locs ls hC hH hS hl) (fun q => kf q p e s m args below meth c H locs ls hC hH hS hl)
theorem sk_icmp_ne {x y : Int32} {off : Int} {tgt : Nat} (d : decode (sk_cc M) pc = .ok (.if_icmp .ne off, 3)) (ht : (pc : Int) + off = (tgt : Int)) (kt : ¬ x = y → sk_W Γ M mc ms tgt L S g I J kc kn Q) (kf : x = y → sk_W Γ M mc ms (pc + 3) L S g I J kc kn Q) : sk_W Γ M mc ms pc L (.int y :: .int x :: S) g I J kc kn Q :=
  fun p e s m args below meth c H locs ls hC hH hS hl => lv_icmp_ne hC.1 hC.2.1 d ht (fun q => kt q p e s m args below meth c H locs ls hC hH hS hl) (fun q => kf q p e s m args below meth c H locs ls hC hH hS hl)
theorem sk_if_lt {x : Int32} {off : Int} {tgt : Nat} (d : decode (sk_cc M) pc = .ok (.ifCond .lt off, 3)) (ht : (pc : Int) + off = (tgt : Int)) (kt : x < 0 → sk_W Γ M mc ms tgt L S g I J kc kn Q) (kf : ¬ x < 0 → sk_W Γ M mc ms (pc + 3) L S g I J kc kn Q) : sk_W Γ M mc ms pc L (.int x :: S) g I J kc kn Q :=
  fun p e s m args below meth c H locs ls hC hH hS hl => lv_if_lt hC.1 hC.2.1 d ht (fun q => kt q p e s m args below meth c H locs ls hC hH hS hl) (fun q => kf q p e s m args below meth c H locs ls hC hH hS hl)
theorem sk_icmp_lt {x y : Int32} {off : Int} {tgt : Nat} (d : decode (sk_cc M) pc = .ok (.if_icmp .lt off, 3)) (ht : (pc : Int) + off = (tgt : Int)) (kt : x < y → sk_W Γ M mc ms tgt L S g I J kc kn Q) (kf : ¬ x < y → sk_W Γ M mc ms (pc + 3) L S g I J kc kn Q) : sk_W Γ M mc ms pc L (.int y :: .int x :: S) g I J kc kn Q :=
  fun p e s m args below meth c H locs ls hC hH hS hl => lv_icmp_lt hC.1 hC.2.1 d ht (fun q => kt q p e s m args below meth c H locs ls hC hH hS hl) (fun q => kf q p e s m args below meth c H locs ls hC hH hS hl)
theorem sk_if_ge {x : Int32} {off : Int} {tgt : Nat} (d : decode (sk_cc M) pc = .ok (.ifCond .ge off, 3)) (ht : (pc : Int) + off = (tgt : Int)) (kt : 0 ≤ x → sk_W Γ M mc ms tgt L S g I J kc kn Q) (kf : ¬ 0 ≤ x → sk_W Γ M mc ms (pc + 3) L S g I J kc kn Q) : sk_W Γ M mc ms pc L (.int x :: S) g I J kc kn Q :=
  fun p e s m args below meth c H locs ls hC hH hS hl => lv_if_ge hC.1 hC.2.1 d ht (fun q => kt q p e s m args below meth c H locs ls hC hH hS hl) (fun q => kf q p e s m args below meth c H locs ls hC hH hS hl)
theorem sk_icmp_ge {x y : Int32} {off : Int} {tgt : Nat} (d : decode (sk_cc M) pc = .ok (.if_icmp .ge off, 3)) (ht : (pc : Int) + off = (tgt : Int)) (kt : y ≤ x → sk_W Γ M mc ms tgt L S g I J kc kn Q) (kf : ¬ y ≤ x → sk_W Γ M mc ms (pc + 3) L S g I J kc kn Q) : sk_W Γ M mc ms pc L (.int y :: .int x :: S) g I J kc kn Q :=
  fun p e s m args below meth c H locs ls hC hH hS hl => lv_icmp_ge hC.1 hC.2.1 d ht (fun q => kt q p e s m args below meth c H locs ls hC hH hS hl) (fun q => kf q p e s m args below meth c H locs ls hC hH hS hl)
theorem sk_if_gt {x : Int32} {off : Int} {tgt : Nat} (d : decode (sk_cc M) pc = .ok (.ifCond .gt off, 3)) (ht : (pc : Int) + off = (tgt : Int)) (kt : 0 < x → sk_W Γ M mc ms tgt L S g I J kc kn Q) (kf : ¬ 0 < x → sk_W Γ M mc ms (pc + 3) L S g I J kc kn Q) : sk_W Γ M mc ms pc L (.int x :: S) g I J kc kn Q :=
  fun p e s m args below meth c H locs ls hC hH hS hl => lv_if_gt hC.1 hC.2.1 d ht (fun q => kt q p e s m args below meth c H locs ls hC hH hS hl) (fun q => kf q p e s m args below meth c H locs ls hC hH hS hl)
theorem sk_icmp_gt {x y : Int32} {off : Int} {tgt : Nat} (d : decode (sk_cc M) pc = .ok (.if_icmp .gt off, 3)) (ht : (pc : Int) + off = (tgt : Int)) (kt : y < x → sk_W Γ M mc ms tgt L S g I J kc kn Q) (kf : ¬ y < x → sk_W Γ M mc ms (pc + 3) L S g I J kc kn Q) : sk_W Γ M mc ms pc L (.int y :: .int x :: S) g I J kc kn Q :=
  fun p e s m args below meth c H locs ls hC hH hS hl => lv_icmp_gt hC.1 hC.2.1 d ht (fun q => kt q p e s m args below meth c H locs ls hC hH hS hl) (fun q => kf q p e s m args below meth c H locs ls hC hH hS hl)
theorem sk_if_le {x : Int32} {off : Int} {tgt : Nat} (d : decode (sk_cc M) pc = .ok (.ifCond .le off, 3)) (ht : (pc : Int) + off = (tgt : Int)) (kt : x ≤ 0 → sk_W Γ M mc ms tgt L S g I J kc kn Q) (kf : ¬ x ≤ 0 → sk_W Γ M mc ms (pc + 3) L S g I J kc kn Q) : sk_W Γ M mc ms pc L (.int x :: S) g I J kc kn Q :=
  fun p e s m args below meth c H locs ls hC hH hS hl => lv_if_le hC.1 hC.2.1 d ht (fun q => kt q p e s m args below meth c H locs ls hC hH hS hl) (fun q => kf q p e s m args below meth c H locs ls hC hH hS hl)
theorem sk_icmp_le {x y : Int32} {off : Int} {tgt : Nat} (d : decode (sk_cc M) pc = .ok (.if_icmp .le off, 3)) (ht : (pc : Int) + off = (tgt : Int)) (kt : x ≤ y → sk_W Γ M mc ms tgt L S g I J kc kn Q) (kf : ¬ x ≤ y → sk_W Γ M mc ms (pc + 3) L S g I J kc kn Q) : sk_W Γ M mc ms pc L (.int y :: .int x :: S) g I J kc kn Q :=
  fun p e s m args below meth c H locs ls hC hH hS hl => lv_icmp_le hC.1 hC.2.1 d ht (fun q => kt q p e s m args below meth c H locs ls hC hH hS hl) (fun q => kf q p e s m args below meth c H locs ls hC hH hS hl)
theorem sk_goto {off : Int} {tgt : Nat} (d : decode (sk_cc M) pc = .ok (.goto off, 3)) (ht : (pc : Int) + off = (tgt : Int)) (h : sk_W Γ M mc ms tgt L S g I J kc kn Q) : sk_W Γ M mc ms pc L S g I J kc kn Q :=
  fun p e s m args below meth c H locs ls hC hH hS hl => lv_goto hC.1 hC.2.1 d ht (h p e s m args below meth c H locs ls hC hH hS hl)
theorem sk_tableOut {dflt lo hi : Int} {offs : Array Int} {len : Nat} {x : Int32} {tgt : Nat} (d : decode (sk_cc M) pc = .ok (.tableswitch dflt lo hi offs, len)) (hx : x.toInt < lo ∨ hi < x.toInt) (ht : (pc : Int) + dflt = (tgt : Int)) (h : sk_W Γ M mc ms tgt L S g I J kc kn Q) : sk_W Γ M mc ms pc L (.int x :: S) g I J kc kn Q :=
  fun p e s m args below meth c H locs ls hC hH hS hl => lv_tableOut hC.1 hC.2.1 d hx ht (h p e s m args below meth c H locs ls hC hH hS hl)
theorem sk_tableIn {dflt lo hi : Int} {offs : Array Int} {len : Nat} {x : Int32} {off : Int} {tgt : Nat} (d : decode (sk_cc M) pc = .ok (.tableswitch dflt lo hi offs, len)) (h1 : ¬ x.toInt < lo) (h2 : ¬ hi < x.toInt) (ho : offs[(x.toInt - lo).toNat]? = some off) (ht : (pc : Int) + off = (tgt : Int)) (h : sk_W Γ M mc ms tgt L S g I J kc kn Q) : sk_W Γ M mc ms pc L (.int x :: S) g I J kc kn Q :=
  fun p e s m args below meth c H locs ls hC hH hS hl => lv_tableIn hC.1 hC.2.1 d h1 h2 ho ht (h p e s m args below meth c H locs ls hC hH hS hl)
theorem sk_loc {L' : List (Nat × Value)} (ks : List Nat) (hL : lv_pick L ks = L') (h : sk_W Γ M mc ms pc L' S g I J kc kn Q) : sk_W Γ M mc ms pc L S g I J kc kn Q :=
  fun p e s m args below meth c H locs ls hC hH hS hl => h p e s m args below meth c H locs ls hC hH hS (lv_sub hl ks (by rw [← hL]; exact sk_pick Γ L ks))
end SKR
end
section
theorem sk_last_dummy : True := trivial
end
