section
-- ===== PART A: goes FIRST, ahead of the names: the tables' words, and 'selects' of the private methods out of them =====
/-- a private method of a class that the tables say can be made, by its rows of tables_1 -/
def lw_okq (q : MethodName × Nat) : Prop := (q.1.cls ≠ "java/lang/invoke/MethodHandle" ∧ q.1.cls ≠ "java/lang/invoke/VarHandle") ∧ Cond.instantiable q.1.cls q.2 ∈ tables_1 ∧ Cond.privateMethod q.1 ∈ tables_1 ∧ Cond.instanceMethod q.1 ∈ tables_1
theorem lw_p0 : lw_okq (⟨"StuckLines$Responses", "workOut", "(I)V"⟩, 5) := ⟨⟨by decide +kernel, by decide +kernel⟩, List.mem_of_getElem? (i := 126) (by decide +kernel), List.mem_of_getElem? (i := 268) (by decide +kernel), List.mem_of_getElem? (i := 269) (by decide +kernel)⟩
theorem lw_p1 : lw_okq (⟨"StuckLines$Signals", "settle", "(I)V"⟩, 7) := ⟨⟨by decide +kernel, by decide +kernel⟩, List.mem_of_getElem? (i := 97) (by decide +kernel), List.mem_of_getElem? (i := 284) (by decide +kernel), List.mem_of_getElem? (i := 285) (by decide +kernel)⟩
theorem lw_p2 : lw_okq (⟨"StuckLines$Signals", "settleGate", "(I)V"⟩, 7) := ⟨⟨by decide +kernel, by decide +kernel⟩, List.mem_of_getElem? (i := 97) (by decide +kernel), List.mem_of_getElem? (i := 296) (by decide +kernel), List.mem_of_getElem? (i := 297) (by decide +kernel)⟩
theorem lw_p3 : lw_okq (⟨"StuckLines$PackedSet", "gather", "()V"⟩, 6) := ⟨⟨by decide +kernel, by decide +kernel⟩, List.mem_of_getElem? (i := 168) (by decide +kernel), List.mem_of_getElem? (i := 308) (by decide +kernel), List.mem_of_getElem? (i := 309) (by decide +kernel)⟩
theorem lw_p4 : lw_okq (⟨"StuckLines$PackedSet", "thinOut", "()V"⟩, 6) := ⟨⟨by decide +kernel, by decide +kernel⟩, List.mem_of_getElem? (i := 168) (by decide +kernel), List.mem_of_getElem? (i := 322) (by decide +kernel), List.mem_of_getElem? (i := 323) (by decide +kernel)⟩
theorem lw_p5 : lw_okq (⟨"StuckLines$PackedSet", "showAll", "(J)Z"⟩, 6) := ⟨⟨by decide +kernel, by decide +kernel⟩, List.mem_of_getElem? (i := 168) (by decide +kernel), List.mem_of_getElem? (i := 327) (by decide +kernel), List.mem_of_getElem? (i := 328) (by decide +kernel)⟩
theorem lw_p6 : lw_okq (⟨"StuckLines$PackedSet", "dropTheLeftOut", "()V"⟩, 6) := ⟨⟨by decide +kernel, by decide +kernel⟩, List.mem_of_getElem? (i := 168) (by decide +kernel), List.mem_of_getElem? (i := 331) (by decide +kernel), List.mem_of_getElem? (i := 332) (by decide +kernel)⟩
theorem lw_p7 : lw_okq (⟨"java/lang/Throwable", "fillInStackTrace", "(I)Ljava/lang/Throwable;"⟩, 6) := ⟨⟨by decide +kernel, by decide +kernel⟩, List.mem_of_getElem? (i := 402) (by decide +kernel), List.mem_of_getElem? (i := 400) (by decide +kernel), List.mem_of_getElem? (i := 401) (by decide +kernel)⟩
theorem lw_p8 : lw_okq (⟨"StuckLines$Circuit", "addLine", "(I)I"⟩, 15) := ⟨⟨by decide +kernel, by decide +kernel⟩, List.mem_of_getElem? (i := 24) (by decide +kernel), List.mem_of_getElem? (i := 436) (by decide +kernel), List.mem_of_getElem? (i := 437) (by decide +kernel)⟩
theorem lw_p9 : lw_okq (⟨"StuckLines", "requireLine", "(I)V"⟩, 6) := ⟨⟨by decide +kernel, by decide +kernel⟩, List.mem_of_getElem? (i := 16) (by decide +kernel), List.mem_of_getElem? (i := 466) (by decide +kernel), List.mem_of_getElem? (i := 467) (by decide +kernel)⟩
theorem lw_p10 : lw_okq (⟨"StuckLines", "requireLineOrNone", "(I)V"⟩, 6) := ⟨⟨by decide +kernel, by decide +kernel⟩, List.mem_of_getElem? (i := 16) (by decide +kernel), List.mem_of_getElem? (i := 486) (by decide +kernel), List.mem_of_getElem? (i := 487) (by decide +kernel)⟩
theorem lw_p11 : lw_okq (⟨"StuckLines$Circuit", "addPin", "(II)V"⟩, 15) := ⟨⟨by decide +kernel, by decide +kernel⟩, List.mem_of_getElem? (i := 24) (by decide +kernel), List.mem_of_getElem? (i := 495) (by decide +kernel), List.mem_of_getElem? (i := 496) (by decide +kernel)⟩
theorem lw_p12 : lw_okq (⟨"StuckLines$Circuit", "gatherObserved", "()V"⟩, 15) := ⟨⟨by decide +kernel, by decide +kernel⟩, List.mem_of_getElem? (i := 24) (by decide +kernel), List.mem_of_getElem? (i := 515) (by decide +kernel), List.mem_of_getElem? (i := 516) (by decide +kernel)⟩
theorem lw_p13 : lw_okq (⟨"StuckLines$Circuit", "observe", "(I)V"⟩, 15) := ⟨⟨by decide +kernel, by decide +kernel⟩, List.mem_of_getElem? (i := 24) (by decide +kernel), List.mem_of_getElem? (i := 519) (by decide +kernel), List.mem_of_getElem? (i := 520) (by decide +kernel)⟩
theorem lw_p14 : lw_okq (⟨"StuckLines$Responses", "areAlike", "(II)Z"⟩, 5) := ⟨⟨by decide +kernel, by decide +kernel⟩, List.mem_of_getElem? (i := 126) (by decide +kernel), List.mem_of_getElem? (i := 554) (by decide +kernel), List.mem_of_getElem? (i := 555) (by decide +kernel)⟩
theorem lw_p15 : lw_okq (⟨"StuckLines", "requireVector", "(I)V"⟩, 6) := ⟨⟨by decide +kernel, by decide +kernel⟩, List.mem_of_getElem? (i := 16) (by decide +kernel), List.mem_of_getElem? (i := 566) (by decide +kernel), List.mem_of_getElem? (i := 567) (by decide +kernel)⟩
def lw_privs_1 : List (MethodName × Nat) := [(⟨"StuckLines$Responses", "workOut", "(I)V"⟩, 5), (⟨"StuckLines$Signals", "settle", "(I)V"⟩, 7), (⟨"StuckLines$Signals", "settleGate", "(I)V"⟩, 7), (⟨"StuckLines$PackedSet", "gather", "()V"⟩, 6), (⟨"StuckLines$PackedSet", "thinOut", "()V"⟩, 6), (⟨"StuckLines$PackedSet", "showAll", "(J)Z"⟩, 6), (⟨"StuckLines$PackedSet", "dropTheLeftOut", "()V"⟩, 6), (⟨"java/lang/Throwable", "fillInStackTrace", "(I)Ljava/lang/Throwable;"⟩, 6), (⟨"StuckLines$Circuit", "addLine", "(I)I"⟩, 15), (⟨"StuckLines", "requireLine", "(I)V"⟩, 6), (⟨"StuckLines", "requireLineOrNone", "(I)V"⟩, 6), (⟨"StuckLines$Circuit", "addPin", "(II)V"⟩, 15), (⟨"StuckLines$Circuit", "gatherObserved", "()V"⟩, 15), (⟨"StuckLines$Circuit", "observe", "(I)V"⟩, 15), (⟨"StuckLines$Responses", "areAlike", "(II)Z"⟩, 5), (⟨"StuckLines", "requireVector", "(I)V"⟩, 6)]
theorem lw_r1 : ∀ q ∈ lw_privs_1, lw_okq q := List.forall_mem_cons.mpr ⟨lw_p0, List.forall_mem_cons.mpr ⟨lw_p1, List.forall_mem_cons.mpr ⟨lw_p2, List.forall_mem_cons.mpr ⟨lw_p3, List.forall_mem_cons.mpr ⟨lw_p4, List.forall_mem_cons.mpr ⟨lw_p5, List.forall_mem_cons.mpr ⟨lw_p6, List.forall_mem_cons.mpr ⟨lw_p7, List.forall_mem_cons.mpr ⟨lw_p8, List.forall_mem_cons.mpr ⟨lw_p9, List.forall_mem_cons.mpr ⟨lw_p10, List.forall_mem_cons.mpr ⟨lw_p11, List.forall_mem_cons.mpr ⟨lw_p12, List.forall_mem_cons.mpr ⟨lw_p13, List.forall_mem_cons.mpr ⟨lw_p14, List.forall_mem_cons.mpr ⟨lw_p15, fun _ h => absurd h List.not_mem_nil⟩⟩⟩⟩⟩⟩⟩⟩⟩⟩⟩⟩⟩⟩⟩⟩
theorem lw_p16 : lw_okq (⟨"StuckLines", "requireFaultOrNone", "(I)V"⟩, 6) := ⟨⟨by decide +kernel, by decide +kernel⟩, List.mem_of_getElem? (i := 16) (by decide +kernel), List.mem_of_getElem? (i := 572) (by decide +kernel), List.mem_of_getElem? (i := 573) (by decide +kernel)⟩
theorem lw_p17 : lw_okq (⟨"StuckLines", "requireFault", "(I)V"⟩, 6) := ⟨⟨by decide +kernel, by decide +kernel⟩, List.mem_of_getElem? (i := 16) (by decide +kernel), List.mem_of_getElem? (i := 576) (by decide +kernel), List.mem_of_getElem? (i := 577) (by decide +kernel)⟩
theorem lw_p18 : lw_okq (⟨"StuckLines$Cubes", "shows", "(III)Z"⟩, 3) := ⟨⟨by decide +kernel, by decide +kernel⟩, List.mem_of_getElem? (i := 150) (by decide +kernel), List.mem_of_getElem? (i := 657) (by decide +kernel), List.mem_of_getElem? (i := 658) (by decide +kernel)⟩
theorem lw_p19 : lw_okq (⟨"StuckLinesModel", "built", "()V"⟩, 29) := ⟨⟨by decide +kernel, by decide +kernel⟩, List.mem_of_getElem? (i := 679) (by decide +kernel), List.mem_of_getElem? (i := 781) (by decide +kernel), List.mem_of_getElem? (i := 782) (by decide +kernel)⟩
theorem lw_p20 : lw_okq (⟨"StuckLinesModel", "noLine", "(I)Z"⟩, 29) := ⟨⟨by decide +kernel, by decide +kernel⟩, List.mem_of_getElem? (i := 679) (by decide +kernel), List.mem_of_getElem? (i := 793) (by decide +kernel), List.mem_of_getElem? (i := 794) (by decide +kernel)⟩
theorem lw_p21 : lw_okq (⟨"StuckLinesModel", "learn", "()V"⟩, 29) := ⟨⟨by decide +kernel, by decide +kernel⟩, List.mem_of_getElem? (i := 679) (by decide +kernel), List.mem_of_getElem? (i := 809) (by decide +kernel), List.mem_of_getElem? (i := 810) (by decide +kernel)⟩
theorem lw_p22 : lw_okq (⟨"StuckLinesModel", "vectors", "()I"⟩, 29) := ⟨⟨by decide +kernel, by decide +kernel⟩, List.mem_of_getElem? (i := 679) (by decide +kernel), List.mem_of_getElem? (i := 813) (by decide +kernel), List.mem_of_getElem? (i := 814) (by decide +kernel)⟩
theorem lw_p23 : lw_okq (⟨"StuckLinesModel", "make", "(III)V"⟩, 29) := ⟨⟨by decide +kernel, by decide +kernel⟩, List.mem_of_getElem? (i := 679) (by decide +kernel), List.mem_of_getElem? (i := 817) (by decide +kernel), List.mem_of_getElem? (i := 818) (by decide +kernel)⟩
theorem lw_p24 : lw_okq (⟨"StuckLinesModel", "answered", "()I"⟩, 29) := ⟨⟨by decide +kernel, by decide +kernel⟩, List.mem_of_getElem? (i := 679) (by decide +kernel), List.mem_of_getElem? (i := 824) (by decide +kernel), List.mem_of_getElem? (i := 825) (by decide +kernel)⟩
theorem lw_p25 : lw_okq (⟨"StuckLinesModel", "leastOf", "(I)I"⟩, 29) := ⟨⟨by decide +kernel, by decide +kernel⟩, List.mem_of_getElem? (i := 679) (by decide +kernel), List.mem_of_getElem? (i := 828) (by decide +kernel), List.mem_of_getElem? (i := 829) (by decide +kernel)⟩
theorem lw_p26 : lw_okq (⟨"StuckLinesModel", "firstAlike", "(I)I"⟩, 29) := ⟨⟨by decide +kernel, by decide +kernel⟩, List.mem_of_getElem? (i := 679) (by decide +kernel), List.mem_of_getElem? (i := 832) (by decide +kernel), List.mem_of_getElem? (i := 833) (by decide +kernel)⟩
theorem lw_p27 : lw_okq (⟨"StuckLinesModel", "noFault", "(I)Z"⟩, 29) := ⟨⟨by decide +kernel, by decide +kernel⟩, List.mem_of_getElem? (i := 679) (by decide +kernel), List.mem_of_getElem? (i := 840) (by decide +kernel), List.mem_of_getElem? (i := 841) (by decide +kernel)⟩
theorem lw_p28 : lw_okq (⟨"StuckLinesModel", "tells", "(III)Z"⟩, 29) := ⟨⟨by decide +kernel, by decide +kernel⟩, List.mem_of_getElem? (i := 679) (by decide +kernel), List.mem_of_getElem? (i := 876) (by decide +kernel), List.mem_of_getElem? (i := 877) (by decide +kernel)⟩
theorem lw_p29 : lw_okq (⟨"StuckLinesModel", "pack", "()V"⟩, 29) := ⟨⟨by decide +kernel, by decide +kernel⟩, List.mem_of_getElem? (i := 679) (by decide +kernel), List.mem_of_getElem? (i := 884) (by decide +kernel), List.mem_of_getElem? (i := 885) (by decide +kernel)⟩
theorem lw_p30 : lw_okq (⟨"StuckLinesModel", "covered", "(II)Z"⟩, 29) := ⟨⟨by decide +kernel, by decide +kernel⟩, List.mem_of_getElem? (i := 679) (by decide +kernel), List.mem_of_getElem? (i := 888) (by decide +kernel), List.mem_of_getElem? (i := 889) (by decide +kernel)⟩
theorem lw_p31 : lw_okq (⟨"StuckLinesModel", "gives", "(I)Z"⟩, 29) := ⟨⟨by decide +kernel, by decide +kernel⟩, List.mem_of_getElem? (i := 679) (by decide +kernel), List.mem_of_getElem? (i := 904) (by decide +kernel), List.mem_of_getElem? (i := 905) (by decide +kernel)⟩
def lw_privs_2 : List (MethodName × Nat) := [(⟨"StuckLines", "requireFaultOrNone", "(I)V"⟩, 6), (⟨"StuckLines", "requireFault", "(I)V"⟩, 6), (⟨"StuckLines$Cubes", "shows", "(III)Z"⟩, 3), (⟨"StuckLinesModel", "built", "()V"⟩, 29), (⟨"StuckLinesModel", "noLine", "(I)Z"⟩, 29), (⟨"StuckLinesModel", "learn", "()V"⟩, 29), (⟨"StuckLinesModel", "vectors", "()I"⟩, 29), (⟨"StuckLinesModel", "make", "(III)V"⟩, 29), (⟨"StuckLinesModel", "answered", "()I"⟩, 29), (⟨"StuckLinesModel", "leastOf", "(I)I"⟩, 29), (⟨"StuckLinesModel", "firstAlike", "(I)I"⟩, 29), (⟨"StuckLinesModel", "noFault", "(I)Z"⟩, 29), (⟨"StuckLinesModel", "tells", "(III)Z"⟩, 29), (⟨"StuckLinesModel", "pack", "()V"⟩, 29), (⟨"StuckLinesModel", "covered", "(II)Z"⟩, 29), (⟨"StuckLinesModel", "gives", "(I)Z"⟩, 29)]
theorem lw_r2 : ∀ q ∈ lw_privs_2, lw_okq q := List.forall_mem_cons.mpr ⟨lw_p16, List.forall_mem_cons.mpr ⟨lw_p17, List.forall_mem_cons.mpr ⟨lw_p18, List.forall_mem_cons.mpr ⟨lw_p19, List.forall_mem_cons.mpr ⟨lw_p20, List.forall_mem_cons.mpr ⟨lw_p21, List.forall_mem_cons.mpr ⟨lw_p22, List.forall_mem_cons.mpr ⟨lw_p23, List.forall_mem_cons.mpr ⟨lw_p24, List.forall_mem_cons.mpr ⟨lw_p25, List.forall_mem_cons.mpr ⟨lw_p26, List.forall_mem_cons.mpr ⟨lw_p27, List.forall_mem_cons.mpr ⟨lw_p28, List.forall_mem_cons.mpr ⟨lw_p29, List.forall_mem_cons.mpr ⟨lw_p30, List.forall_mem_cons.mpr ⟨lw_p31, fun _ h => absurd h List.not_mem_nil⟩⟩⟩⟩⟩⟩⟩⟩⟩⟩⟩⟩⟩⟩⟩⟩
def lw_privs : List (MethodName × Nat) := lw_privs_1 ++ (lw_privs_2)
def lw_tbl : List Cond := k2_sels lw_privs ++ tables_1
theorem lw_privs_ok : ∀ q ∈ lw_privs, lw_okq q := by
  show ∀ q ∈ lw_privs_1 ++ (lw_privs_2), lw_okq q
  exact List.forall_mem_append.mpr ⟨lw_r1, lw_r2⟩
end
section
/-! classes, fields, words: printed by wip/whole/gen_static.py out of the Statement -/
def sk_T0 : u_T := fun k => match k with
  | 0 => ("StuckLines", "circuit", "LStuckLines$Circuit;", true)
  | 1 => ("StuckLines", "signals", "LStuckLines$Signals;", true)
  | 2 => ("StuckLines", "responses", "LStuckLines$Responses;", true)
  | 3 => ("StuckLines", "cubes", "LStuckLines$Cubes;", true)
  | 4 => ("StuckLines", "packedSet", "LStuckLines$PackedSet;", true)
  | _ => ("StuckLines", "seen", "LStuckLines$SeenLog;", true)
def sk_T1 : u_T := fun k => match k with
  | 0 => ("StuckLines$Circuit", "version", "I", false)
  | 1 => ("StuckLines$Circuit", "lines", "I", false)
  | 2 => ("StuckLines$Circuit", "sources", "I", false)
  | 3 => ("StuckLines$Circuit", "outputs", "I", false)
  | 4 => ("StuckLines$Circuit", "observed", "I", false)
  | 5 => ("StuckLines$Circuit", "pins", "I", false)
  | 6 => ("StuckLines$Circuit", "kindOf", "[I", true)
  | 7 => ("StuckLines$Circuit", "sourceOf", "[I", true)
  | 8 => ("StuckLines$Circuit", "isFlop", "[Z", true)
  | 9 => ("StuckLines$Circuit", "firstPin", "[I", true)
  | 10 => ("StuckLines$Circuit", "lineReadBy", "[I", true)
  | 11 => ("StuckLines$Circuit", "gateOfPin", "[I", true)
  | 12 => ("StuckLines$Circuit", "observedLine", "[I", true)
  | 13 => ("StuckLines$Circuit", "dataOf", "[I", true)
  | _ => ("StuckLines$Circuit", "outputLine", "[I", true)
def sk_T2 : u_T := fun k => match k with
  | 0 => ("StuckLines$Signals", "circuit", "LStuckLines$Circuit;", true)
  | 1 => ("StuckLines$Signals", "sourceOnes", "[J", true)
  | 2 => ("StuckLines$Signals", "sourceZeros", "[J", true)
  | 3 => ("StuckLines$Signals", "ones", "[J", true)
  | 4 => ("StuckLines$Signals", "zeros", "[J", true)
  | 5 => ("StuckLines$Signals", "stuckPin", "I", false)
  | _ => ("StuckLines$Signals", "stuckOnes", "J", false)
def sk_T3 : u_T := fun k => match k with
  | 0 => ("StuckLines$Responses", "circuit", "LStuckLines$Circuit;", true)
  | 1 => ("StuckLines$Responses", "signals", "LStuckLines$Signals;", true)
  | 2 => ("StuckLines$Responses", "observedOnes", "[J", true)
  | 3 => ("StuckLines$Responses", "shownBy", "[J", true)
  | _ => ("StuckLines$Responses", "versionOf", "[I", true)
def sk_T4 : u_T := fun k => match k with
  | 0 => ("StuckLines$Cubes", "circuit", "LStuckLines$Circuit;", true)
  | 1 => ("StuckLines$Cubes", "sound", "LStuckLines$Signals;", true)
  | _ => ("StuckLines$Cubes", "faulty", "LStuckLines$Signals;", true)
def sk_T5 : u_T := fun k => match k with
  | 0 => ("StuckLines$PackedSet", "circuit", "LStuckLines$Circuit;", true)
  | 1 => ("StuckLines$PackedSet", "responses", "LStuckLines$Responses;", true)
  | 2 => ("StuckLines$PackedSet", "vectors", "[I", true)
  | 3 => ("StuckLines$PackedSet", "size", "I", false)
  | 4 => ("StuckLines$PackedSet", "members", "J", false)
  | _ => ("StuckLines$PackedSet", "version", "I", false)
def sk_T6 : u_T := fun k => match k with
  | 0 => ("StuckLines$SeenLog", "responses", "LStuckLines$Responses;", true)
  | 1 => ("StuckLines$SeenLog", "vectors", "[I", true)
  | 2 => ("StuckLines$SeenLog", "seenResponses", "[I", true)
  | _ => ("StuckLines$SeenLog", "size", "I", false)
def sk_T7 : u_T := fun k => match k with
  | 0 => ("StuckLinesModel", "code", "I", false)
  | 1 => ("StuckLinesModel", "lines", "I", false)
  | 2 => ("StuckLinesModel", "sourceOf", "[I", true)
  | 3 => ("StuckLinesModel", "kinds", "[I", true)
  | 4 => ("StuckLinesModel", "pins", "[I", true)
  | 5 => ("StuckLinesModel", "pinCount", "[I", true)
  | 6 => ("StuckLinesModel", "sources", "I", false)
  | 7 => ("StuckLinesModel", "sourceLine", "[I", true)
  | 8 => ("StuckLinesModel", "flop", "[Z", true)
  | 9 => ("StuckLinesModel", "datum", "[I", true)
  | 10 => ("StuckLinesModel", "outputs", "I", false)
  | 11 => ("StuckLinesModel", "outputLine", "[I", true)
  | 12 => ("StuckLinesModel", "seen", "I", false)
  | 13 => ("StuckLinesModel", "observed", "[I", true)
  | 14 => ("StuckLinesModel", "sites", "I", false)
  | 15 => ("StuckLinesModel", "siteLine", "[I", true)
  | 16 => ("StuckLinesModel", "sitePin", "[I", true)
  | 17 => ("StuckLinesModel", "values", "[I", true)
  | 18 => ("StuckLinesModel", "plain", "[I", true)
  | 19 => ("StuckLinesModel", "known", "Z", false)
  | 20 => ("StuckLinesModel", "responses", "[I", true)
  | 21 => ("StuckLinesModel", "right", "[I", true)
  | 22 => ("StuckLinesModel", "packedUp", "Z", false)
  | 23 => ("StuckLinesModel", "chosen", "I", false)
  | 24 => ("StuckLinesModel", "set", "[I", true)
  | 25 => ("StuckLinesModel", "gone", "[Z", true)
  | 26 => ("StuckLinesModel", "logged", "I", false)
  | 27 => ("StuckLinesModel", "logVector", "[I", true)
  | _ => ("StuckLinesModel", "logResponse", "[I", true)
abbrev sk_cl : List vw_C := [("StuckLines", sk_T0, 6), ("StuckLines$Circuit", sk_T1, 15), ("StuckLines$Signals", sk_T2, 7), ("StuckLines$Responses", sk_T3, 5), ("StuckLines$Cubes", sk_T4, 3), ("StuckLines$PackedSet", sk_T5, 6), ("StuckLines$SeenLog", sk_T6, 4), ("StuckLinesModel", sk_T7, 29)]
def sk_kdT : List (List Nat) := [[2, 2, 2, 2, 2, 2], [0, 0, 0, 0, 0, 0, 2, 2, 2, 2, 2, 2, 2, 2, 2], [2, 2, 2, 2, 2, 0, 1], [2, 2, 2, 2, 2], [2, 2, 2], [2, 2, 2, 0, 1, 0], [2, 2, 2, 0], [0, 0, 2, 2, 2, 2, 0, 2, 2, 2, 0, 2, 0, 2, 0, 2, 2, 2, 2, 0, 2, 2, 0, 0, 2, 2, 0, 2, 2]]
def sk_kd (ci j : Nat) : Nat := (sk_kdT.getD ci []).getD j 0
def sk_ts : List Cond := lw_tbl.filter goodWord
theorem sk_in {w : Cond} (h : w ∈ tables_1) (hg : goodWord w = true) : w ∈ sk_ts := List.mem_filter.mpr ⟨List.mem_append_right _ h, hg⟩
theorem sk_inp {q : MethodName × Nat} (h : q ∈ lw_privs) (hg : goodWord (.selects q.1.cls q.1 q.1) = true) : Cond.selects q.1.cls q.1 q.1 ∈ sk_ts := List.mem_filter.mpr ⟨List.mem_append_left _ (List.mem_map.mpr ⟨q, h, rfl⟩), hg⟩
theorem sk_good (w : Cond) (h : w ∈ sk_ts) : goodWord w = true := (List.mem_filter.mp h).2
theorem sk_tbl (w : Cond) (h : w ∈ sk_ts) : w ∈ lw_tbl := (List.mem_filter.mp h).1
def sk_nw : List Cond := [.methodLinkNest "StuckLines" 11 ⟨"StuckLines$Circuit", "<init>", "()V"⟩ "StuckLines", .fieldLinkNest "StuckLines$Signals" 36 "StuckLines" "SOURCE_IN_VECTORS" "[J" "StuckLines", .castable "java/lang/IllegalStateException" "java/lang/IllegalStateException", .declares ⟨"java/lang/RuntimeException", "<init>", "()V"⟩, .declares ⟨"java/lang/RuntimeException", "<init>", "(Ljava/lang/String;)V"⟩, .declares ⟨"java/lang/Exception", "<init>", "()V"⟩, .declares ⟨"java/lang/Exception", "<init>", "(Ljava/lang/String;)V"⟩, .declares ⟨"java/lang/Throwable", "<init>", "()V"⟩, .declares ⟨"java/lang/Throwable", "<init>", "(Ljava/lang/String;)V"⟩, .castable "java/lang/IllegalArgumentException" "java/lang/IllegalArgumentException", .castable "java/lang/IndexOutOfBoundsException" "java/lang/IndexOutOfBoundsException"]
theorem sk_nw_tbl : ∀ w ∈ sk_nw, w ∈ lw_tbl := by
  intro w h
  refine List.mem_append_right _ ?_
  unfold sk_nw at h
  rcases List.mem_cons.mp h with rfl | h
  · exact List.mem_of_getElem? (i := 25) (by decide +kernel)
  rcases List.mem_cons.mp h with rfl | h
  · exact List.mem_of_getElem? (i := 280) (by decide +kernel)
  rcases List.mem_cons.mp h with rfl | h
  · exact List.mem_of_getElem? (i := 365) (by decide +kernel)
  rcases List.mem_cons.mp h with rfl | h
  · exact List.mem_of_getElem? (i := 366) (by decide +kernel)
  rcases List.mem_cons.mp h with rfl | h
  · exact List.mem_of_getElem? (i := 367) (by decide +kernel)
  rcases List.mem_cons.mp h with rfl | h
  · exact List.mem_of_getElem? (i := 368) (by decide +kernel)
  rcases List.mem_cons.mp h with rfl | h
  · exact List.mem_of_getElem? (i := 369) (by decide +kernel)
  rcases List.mem_cons.mp h with rfl | h
  · exact List.mem_of_getElem? (i := 370) (by decide +kernel)
  rcases List.mem_cons.mp h with rfl | h
  · exact List.mem_of_getElem? (i := 371) (by decide +kernel)
  rcases List.mem_cons.mp h with rfl | h
  · exact List.mem_of_getElem? (i := 450) (by decide +kernel)
  rcases List.mem_cons.mp h with rfl | h
  · exact List.mem_of_getElem? (i := 471) (by decide +kernel)
  · cases h
def sk_str : List (Nat × String) := [(70, "no room for a source"), (81, "no such kind"), (84, "a pin is missing"), (225, "no such line"), (93, "no room for a gate"), (106, "an output already, or no room for one"), (116, "not a flip-flop"), (138, "nothing to count"), (231, "no such vector"), (233, "no such fault"), (181, "nothing to tell of a fault"), (196, "not a sum of sources"), (198, "a source is open and 1"), (210, "no such response"), (215, "the log is full")]
def sk_siv (j : Nat) : Int64 := ([-6148914691236517206, -3689348814741910324, -1085102592571150096, -71777214294589696, -281470681808896, -4294967296] : List Int64).getD j 0
def sk_fty (T : u_T) : Nat → FieldType := fun k => (parseFieldDescriptor (T k).2.2.1).getD .int
def sk_dfv (kd : Nat) : Value := match kd with | 0 => .int 0 | 1 => .long 0 | _ => .null
def sk_clOk (ci : Nat) (q : vw_C) : Bool := (List.range q.2.2).all (fun k => (parseFieldDescriptor (q.2.1 k).2.2.1).isSome) && (List.range q.2.2).all (fun a => (List.range q.2.2).all (fun b => decide (a = b) || decide ((q.2.1 a).2.1 ≠ (q.2.1 b).2.1))) && (List.range q.2.2).all (fun k => decide (defaultValue (sk_fty q.2.1 k) = sk_dfv (sk_kd ci k))) && (u_ws q.1 q.2.1 q.2.2).all (fun w => decide (w ∈ tables_1) && goodWord w)
theorem sk_ok0 : sk_clOk 0 ("StuckLines", sk_T0, 6) = true := by decide +kernel
theorem sk_ok1 : sk_clOk 1 ("StuckLines$Circuit", sk_T1, 15) = true := by decide +kernel
theorem sk_ok2 : sk_clOk 2 ("StuckLines$Signals", sk_T2, 7) = true := by decide +kernel
theorem sk_ok3 : sk_clOk 3 ("StuckLines$Responses", sk_T3, 5) = true := by decide +kernel
theorem sk_ok4 : sk_clOk 4 ("StuckLines$Cubes", sk_T4, 3) = true := by decide +kernel
theorem sk_ok5 : sk_clOk 5 ("StuckLines$PackedSet", sk_T5, 6) = true := by decide +kernel
theorem sk_ok6 : sk_clOk 6 ("StuckLines$SeenLog", sk_T6, 4) = true := by decide +kernel
theorem sk_ok7 : sk_clOk 7 ("StuckLinesModel", sk_T7, 29) = true := by decide +kernel
theorem sk_clAll {ci : Nat} {q : vw_C} (h : sk_cl[ci]? = some q) : sk_clOk ci q = true := by
  match ci, h with
  | 0, h => cases h; exact sk_ok0
  | 1, h => cases h; exact sk_ok1
  | 2, h => cases h; exact sk_ok2
  | 3, h => cases h; exact sk_ok3
  | 4, h => cases h; exact sk_ok4
  | 5, h => cases h; exact sk_ok5
  | 6, h => cases h; exact sk_ok6
  | 7, h => cases h; exact sk_ok7
  | (n + 8), h => simp [sk_cl] at h
theorem sk_lays {ci : Nat} {C : String} {T : u_T} {N : Nat} (h : sk_cl[ci]? = some (C, T, N)) : ∀ w ∈ u_ws C T N, w ∈ sk_ts := by
  intro w hw
  have h1 := sk_clAll h
  simp only [sk_clOk, Bool.and_eq_true] at h1
  have h2 := List.all_eq_true.mp h1.2 w hw
  simp only [Bool.and_eq_true, decide_eq_true_eq] at h2
  exact sk_in h2.1 h2.2
theorem sk_ftyOk {ci : Nat} {C : String} {T : u_T} {N : Nat} (h : sk_cl[ci]? = some (C, T, N)) : ∀ k, k < N → parseFieldDescriptor (T k).2.2.1 = some (sk_fty T k) := by
  intro k hk
  have h1 := sk_clAll h
  simp only [sk_clOk, Bool.and_eq_true] at h1
  have h2 := List.all_eq_true.mp h1.1.1.1 k (List.mem_range.mpr hk)
  obtain ⟨v, hv⟩ := Option.isSome_iff_exists.mp h2
  simp only [sk_fty]
  rw [hv]; rfl
theorem sk_names {ci : Nat} {C : String} {T : u_T} {N : Nat} (h : sk_cl[ci]? = some (C, T, N)) : ∀ a, a < N → ∀ b, b < N → a ≠ b → (T a).2.1 ≠ (T b).2.1 := by
  intro a ha b hb hab
  have h1 := sk_clAll h
  simp only [sk_clOk, Bool.and_eq_true] at h1
  have h2 := List.all_eq_true.mp (List.all_eq_true.mp h1.1.1.2 a (List.mem_range.mpr ha)) b (List.mem_range.mpr hb)
  simp only [Bool.or_eq_true, decide_eq_true_eq] at h2
  exact h2.resolve_left hab
theorem sk_dflt {ci : Nat} {C : String} {T : u_T} {N : Nat} (h : sk_cl[ci]? = some (C, T, N)) {j : Nat} (hj : j < N) : defaultValue (sk_fty T j) = sk_dfv (sk_kd ci j) := by
  have h1 := sk_clAll h
  simp only [sk_clOk, Bool.and_eq_true] at h1
  have h2 := List.all_eq_true.mp h1.1.2 j (List.mem_range.mpr hj)
  exact of_decide_eq_true h2
end
section
/-! the walk in small: frames over cells by their places -/
abbrev sk_I : Type := Nat → Nat → Int32
abbrev sk_J : Type := Nat → Nat → Int64
abbrev sk_R : Type := Nat → Nat → Option Nat
abbrev sk_G : Type := Bool × List (Nat × Nat × Nat) × sk_R
abbrev sk_O : Type := Option Value ⊕ String
abbrev sk_Q : Type := sk_O → sk_G → sk_I → sk_J → Prop
abbrev sk_M : Type := String × MethodName × ByteArray × Nat × Option FieldType × List (Nat × Nat × Nat × Nat) × Nat × Nat
abbrev sk_own (M : sk_M) : String := M.1
abbrev sk_y (M : sk_M) : MethodName := M.2.1
abbrev sk_cc (M : sk_M) : ByteArray := M.2.2.1
abbrev sk_nl (M : sk_M) : Nat := M.2.2.2.1
abbrev sk_ret (M : sk_M) : Option FieldType := M.2.2.2.2.1
abbrev sk_tab (M : sk_M) : List (Nat × Nat × Nat × Nat) := M.2.2.2.2.2.1
abbrev sk_fr (M : sk_M) : Nat := M.2.2.2.2.2.2.1
abbrev sk_lo (M : sk_M) : Nat := M.2.2.2.2.2.2.2
abbrev sk_rm (M : sk_M) (mc ms : Nat) : Room := { frames := sk_fr M, cells := mc, slots := ms, locals := sk_lo M }
abbrev sk_T : Type := Launch × Nat × va_G × (Nat → ClassId) × (Nat → Nat) × Nat × (Nat → Int32) × (Nat → Nat)
abbrev sk_l (Γ : sk_T) : Launch := Γ.1
abbrev sk_b (Γ : sk_T) : Nat := Γ.2.1
abbrev sk_D (Γ : sk_T) : va_G := Γ.2.2.1
abbrev sk_id (Γ : sk_T) : Nat → ClassId := Γ.2.2.2.1
abbrev sk_ad (Γ : sk_T) : Nat → Nat := Γ.2.2.2.2.1
abbrev sk_len (Γ : sk_T) : Nat := Γ.2.2.2.2.2.1
abbrev sk_xs (Γ : sk_T) : Nat → Int32 := Γ.2.2.2.2.2.2.1
abbrev sk_sa (Γ : sk_T) : Nat → Nat := Γ.2.2.2.2.2.2.2
def sk_A (Γ : sk_T) : Nat → Prop := fun q => sk_b Γ ≤ q
/-- the script's place, and that of the static table -/
def sk_scr : Nat := 1000000
def sk_sta : Nat := 1000001
def sk_tr (Γ : sk_T) (v : Value) : Value := match v with
  | .ref k => .ref (sk_ad Γ k)
  | w => w
def sk_trL (Γ : sk_T) (L : List (Nat × Value)) : List (Nat × Value) := L.map fun q => (q.1, sk_tr Γ q.2)
def sk_fv (Γ : sk_T) (kd : Nat) (R : sk_R) (I : sk_I) (J : sk_J) (q j : Nat) : Value := match kd with
  | 0 => .int (I q j)
  | 1 => .long (J q j)
  | _ => match R q j with
    | none => .null
    | some r => .ref (sk_ad Γ r)
def sk_cell (Γ : sk_T) (R : sk_R) (I : sk_I) (J : sk_J) (q : Nat) (sp : Nat × Nat × Nat) : va_E := match sp.1 with
  | 0 => .inr (sp.2.1, (List.range sp.2.2).map (fun j => sk_fv Γ (sk_kd sp.2.1 j) R I J q j))
  | 1 => .inl (sk_id Γ 0, sp.2.1, .inl (I q))
  | 2 => .inl (sk_id Γ 1, sp.2.1, .inl (I q))
  | _ => .inl (sk_id Γ 2, sp.2.1, .inr (.inl (J q)))
def sk_ws (Γ : sk_T) (g : sk_G) (I : sk_I) (J : sk_J) : va_W := g.2.1.mapIdx (fun q sp => (sk_ad Γ q, sk_cell Γ g.2.2 I J q sp))
abbrev sk_tys (Γ : sk_T) : List (ClassId × FieldType) := [(sk_id Γ 0, .int), (sk_id Γ 1, .boolean), (sk_id Γ 2, .long)]
/-- the three exceptions, apart -/
def sk_nc (E F : String) : Bool := decide (E ≠ F) && decide (E ∈ ["java/lang/IllegalStateException", "java/lang/IllegalArgumentException", "java/lang/IndexOutOfBoundsException"]) && decide (F ∈ ["java/lang/IllegalStateException", "java/lang/IllegalArgumentException", "java/lang/IndexOutOfBoundsException"])
def sk_isN (w : Cond) : Bool := match w with
  | .fieldLinkNest _ _ _ _ _ _ => true
  | .methodLinkNest _ _ _ _ => true
  | .declares _ => true
  | .castable _ _ => true
  | _ => false
theorem sk_nw_ok : ∀ w ∈ sk_nw, sk_isN w = true := by decide +kernel
/-- a static of the machine's own, of which only its place is asked -/
def sk_L (C n d : String) (A : Nat → Prop) (U : State) (H : Heap) : Prop := ∃ (c : ClassId) (k : Class) (i : Nat) (f : Field) (a : Nat) (cell : Cell), U.vm.findClass C = some c ∧ U.fieldFound? C n d = some (c, k, i, f) ∧ f.isStatic = true ∧ k.statics = some a ∧ H[a]? = some cell ∧ cell.vm.isStatics = true ∧ cell.cls = c ∧ f.slot < cell.slots.size ∧ k.staticTypes[f.slot]? = some f.type ∧ ¬ A a
theorem sk_L.moved {C n d : String} {A : Nat → Prop} {u U : State} {H : Heap} (hvm : u.vm.Alike U.vm) (h : sk_L C n d A u H) : sk_L C n d A U H := by
  obtain ⟨c, k, i, f, a, cell, h1, h2, h3, h4, h5, h6, h7, h8, h9, h10⟩ := h
  obtain ⟨k', hi', he⟩ := State.fieldFound?_setVm hvm h2
  exact ⟨c, k', i, f, a, cell, by rw [hvm.findClass]; exact h1, hi', h3, by rw [he]; exact h4, h5, h6, h7, h8, by rw [he]; exact h9, h10⟩
theorem sk_L.kept {C n d : String} {A : Nat → Prop} {U : State} {H H1 : Heap} (h : sk_L C n d A U H) (hq : ∀ a : Nat, a < H.size → ¬ A a → H1[a]? = H[a]?) : sk_L C n d A U H1 := by
  obtain ⟨c, k, i, f, a, cell, h1, h2, h3, h4, h5, h6, h7, h8, h9, h10⟩ := h
  exact ⟨c, k, i, f, a, cell, h1, h2, h3, h4, by rw [hq a (Array.getElem?_eq_some_iff.mp h5).1 h10]; exact h5, h6, h7, h8, h9, h10⟩
theorem sk_L.word {C n d : String} {A : Nat → Prop} {s : State} {args : Array Value} (h : sk_L C n d A s s.heap) : (Cond.laysStatic C n d).before args s = true := by
  obtain ⟨c, k, i, f, a, cell, h1, h2, h3, h4, h5, h6, h7, h8, h9, -⟩ := h
  show (Cond.laysStatic C n d).holds args s none s [] = true
  exact Cond.laysStatic_of h1 h2 h3 h4 h5 h6 h7 h8 h9
theorem sk_L.of {args : Array Value} {s : State} {C n d : String} {A : Nat → Prop} (hl : (Cond.laysStatic C n d).before args s = true) (hA : ∀ a : Nat, a < s.heap.size → ¬ A a) : sk_L C n d A s s.heap := by
  obtain ⟨c, k, i, f, a, cell, h1, h2, h3, h4, h5, h6, h7, h8, h9⟩ := Cond.laysStatic_spec hl
  exact ⟨c, k, i, f, a, cell, h1, h2, h3, h4, h5, h6, h7, h8, h9, hA a (Array.getElem?_eq_some_iff.mp h5).1⟩
theorem sk_isRef {C n d : String} {A : Nat → Prop} {s : State} {args : Array Value} (h : va_Zq C n d A s s.heap) : (Cond.isRef (.static C n d)).before args s = true := by
  have key : ∀ v : Value, va_Z C n d v A s s.heap → v.isRef = true → (Cond.isRef (.static C n d)).before args s = true := by
    intro v hz hv
    obtain ⟨cf, kf, fi, f, a, cell, h1, h2, h3, h4, h5, h6, h7, -⟩ := hz
    have he : (Term.static C n d).eval args s none [] s = some v := by
      simp [Term.eval, State.fieldNamed?, h1, h2, h4, h5, h6, h7]
    simp only [Cond.before, Cond.holds, Cond.value, he]
    cases v <;> simp_all [Value.isRef]
  rcases h with h | ⟨t, h⟩
  · exact key _ h rfl
  · exact key _ h rfl
def sk_fix (Γ : sk_T) (U : State) : Prop :=
  va_K (sk_D Γ) sk_cl (sk_tys Γ) U ∧ (∀ w ∈ sk_nw, va_Nw w U) ∧
  va_Z "StuckLines" "SOURCE_IN_VECTORS" "[J" (.ref (sk_ad Γ sk_sta)) (sk_A Γ) U U.heap ∧ va_T .long (sk_ad Γ sk_sta) 6 (fun j => .long (sk_siv j)) (sk_A Γ) U U.heap ∧
  (va_Zq Bundle.tN "UNASSIGNED_STACK" Bundle.steD (sk_A Γ) U U.heap ∧ sk_L Bundle.tN "UNASSIGNED_STACK" Bundle.steD (sk_A Γ) U U.heap) ∧ (va_Zq Bundle.tN "SUPPRESSED_SENTINEL" Bundle.listD (sk_A Γ) U U.heap ∧ sk_L Bundle.tN "SUPPRESSED_SENTINEL" Bundle.listD (sk_A Γ) U U.heap) ∧
  (∀ (i : Nat) (q : Nat × String), sk_str[i]? = some q → vk_R "StuckLines" q.1 q.2 (sk_sa Γ i) U) ∧
  va_X (sk_ad Γ sk_scr) (sk_len Γ) (sk_xs Γ) U U.heap ∧ sk_ad Γ sk_scr < sk_b Γ ∧ (∀ k, k < 1000000 → sk_ad Γ k = sk_b Γ + k) ∧ (sk_l Γ).stackTraces = false ∧ (∀ (E F : String), sk_nc E F = true → va_Nc E F U)
def sk_hp (Γ : sk_T) (g : sk_G) (I : sk_I) (J : sk_J) (H : Heap) : Prop :=
  va_P (sk_D Γ) sk_cl (sk_ws Γ g I J) H ∧ sk_b Γ ≤ H.size ∧ (g.1 = true → H.size = sk_b Γ + g.2.1.length) ∧ g.2.1.length < 1000
def sk_world (Γ : sk_T) (g : sk_G) (I : sk_I) (J : sk_J) (U : State) : Prop := sk_hp Γ g I J U.heap ∧ sk_fix Γ U
def sk_Qr (Γ : sk_T) (Q : sk_Q) : Array Value → State → Outcome → State → Prop := fun _ st oc t =>
  ∃ (r : Option Value) (g : sk_G) (I : sk_I) (J : sk_J), oc = .returned (r.map (sk_tr Γ)) ∧ Q (.inl r) g I J ∧ sk_hp Γ g I J t.heap ∧ va_F (sk_A Γ) st t
/-- what a method has come to: returned, or thrown -/
def sk_End (Γ : sk_T) (Q : sk_Q) (mc ms : Nat) : Array Value → State → Outcome → State → Prop := fun a st o t =>
  (sk_Qr Γ Q a st o t ∧ ∃ L, FrameEnd st o t L mc ms ∧ ∀ z ∈ L, sk_A Γ z.base) ∨
  (∃ (q : Addr) (E : String) (ce : Cell) (g : sk_G) (I : sk_I) (J : sk_J) (L : List Loc), o = .threw q ∧ Q (.inr E) g I J ∧ sk_hp Γ g I J t.heap ∧ va_F (sk_A Γ) st t ∧ t.heap[q]? = some ce ∧ ce.vm = .none ∧ st.vm.findClass E = some ce.cls ∧ st.WarmedH t.vm ∧
    st.sameButNew ({ t with vm := st.vm } : State) L mc ms ∧ ∀ z ∈ L, sk_A Γ z.base)
def sk_Fin (Γ : sk_T) (Q : sk_Q) (mc ms : Nat) (below : List Frame) (a : Array Value) (s : State) : State → Prop := fun t => ∃ o, t.status = .running ∧ Ended t below o ∧ sk_End Γ Q mc ms a s o t
def sk_cx (Γ : sk_T) (M : sk_M) (p : Program) (s : State) (m : MethodId) (args : Array Value) (meth : Method) (c : Code) : Prop :=
  p.tables.exec = Jvm.exec ∧ c.code = sk_cc M ∧ c.maxLocals = sk_nl M ∧ meth.sig.returnType = sk_ret M ∧ meth.locks = false ∧ s.vm.findClass (sk_own M) = some m.cls ∧
  (∀ w ∈ sk_ts, w.before args s = true) ∧ sk_fix Γ s ∧ c.exceptionTable.toList = tableOf (sk_tab M) ∧ meth.name = (sk_y M).name ∧ sk_b Γ ≤ s.heap.size
/-- the machine at pc of method M, locals L, stack S, over cells: it comes to Q -/
def sk_W (Γ : sk_T) (M : sk_M) (mc ms : Nat) (pc : Nat) (L : List (Nat × Value)) (S : List Value) (g : sk_G) (I : sk_I) (J : sk_J) (kc kn : Nat) (Q : sk_Q) : Prop :=
  ∀ (p : Program) (e : Env) (s : State) (m : MethodId) (args : Array Value) (below : List Frame) (meth : Method) (c : Code) (H : Heap) (locs : List Loc) (ls : Array Slot),
    sk_cx Γ M p s m args meth c → sk_hp Γ g I J H → va_S (sk_A Γ) s.heap H locs → lv_has ls (sk_nl M) (sk_trL Γ L) →
    W p (sk_l Γ) e (sk_rm M mc ms) s m args below meth c H locs kc kn (sk_Fin Γ Q mc ms below args s) (F0 m pc ls (S.map (sk_tr Γ)))
/-- .. and with an exception of class E over it -/
def sk_X (Γ : sk_T) (M : sk_M) (mc ms : Nat) (pc : Nat) (L : List (Nat × Value)) (E : String) (g : sk_G) (I : sk_I) (J : sk_J) (kc kn : Nat) (Q : sk_Q) : Prop :=
  ∀ (p : Program) (e : Env) (s : State) (m : MethodId) (args : Array Value) (below : List Frame) (meth : Method) (c : Code) (T : State) (locs : List Loc) (ls : Array Slot) (S : List Value) (q : Addr) (ce : Cell),
    sk_cx Γ M p s m args meth c → sk_hp Γ g I J T.heap → va_S (sk_A Γ) s.heap T.heap locs → lv_has ls (sk_nl M) (sk_trL Γ L) → T.heap[q]? = some ce → ce.vm = .none → s.vm.findClass E = some ce.cls →
    Stand p (sk_l Γ) e (sk_rm M mc ms) s m args below meth c T locs kc kn → ∃ t, Steps p.tables e below ((T.setTop (F0 m pc ls S)).pushFrame (.throwing q)) t ∧ sk_Fin Γ Q mc ms below args s t
def sk_head (M : sk_M) : Cond := if sk_tab M = [] then .code (sk_y M) (sk_cc M) (sk_nl M) (sk_ret M) else .codeWith (sk_y M) (sk_cc M) (sk_nl M) (sk_ret M) (sk_tab M)
/-- a method's contract -/
def sk_S (Γ : sk_T) (M : sk_M) (mc ms : Nat) (as : List Value) (g : sk_G) (I : sk_I) (J : sk_J) (Q : sk_Q) : Prop :=
  MetFree (sk_l Γ) (sk_y M) (headSpec (sk_head M :: sk_ts) (sk_rm M mc ms)) (va_Pc (as.map (sk_tr Γ)) (sk_world Γ g I J)) (fun _ _ _ _ _ => True) (sk_End Γ Q mc ms)
theorem sk_tr_cat (Γ : sk_T) (v : Value) : (sk_tr Γ v).category = v.category := by cases v <;> rfl
theorem sk_cast {a b : String} {s U : State} (hvm : s.vm.Alike U.vm) (h : va_Nw (.castable a b) s) : va_Nw (.castable a b) U := by
  unfold va_Nw at h ⊢
  simp only [Cond.before, Cond.holds, Cond.value, hvm.findClass, hvm.assignable] at h ⊢
  exact h
theorem sk_N {w : Cond} (hw : sk_isN w = true) {s U : State} (hW : s.WarmedH U.vm) (h : va_Nw w s) : va_Nw w U := by
  cases w <;> first | exact va_Nw.warmF hW h | exact va_Nw.warmM hW h | exact va_Nw.warmD hW h | exact sk_cast hW.alike h | cases hw
theorem sk_Nc {E F : String} {s U : State} (hvm : s.vm.Alike U.vm) (h : va_Nc E F s) : va_Nc E F U := by
  obtain ⟨c, t, h1, h2, h3⟩ := h
  exact ⟨c, t, by rw [hvm.findClass]; exact h1, by rw [hvm.findClass]; exact h2, by rw [hvm.assignable]; exact h3⟩
theorem sk_move {Γ : sk_T} {s U : State} (h : sk_fix Γ s) (hk : ∀ q : Nat, q < s.heap.size → ¬ sk_A Γ q → U.heap[q]? = s.heap[q]?) (hW : s.WarmedH U.vm) : sk_fix Γ U := by
  obtain ⟨h1, h2, h3, h4, h5, h6, h7, h8, h9, h10, h11, h12⟩ := h
  refine ⟨va_K.moved hW.alike h1, fun w hw => sk_N (sk_nw_ok w hw) hW (h2 w hw), va_Z.moved hW.alike (h3.kept hk), va_T.moved hW.alike (h4.kept hk), ⟨va_Zq.moved hW.alike (h5.1.kept hk), sk_L.moved hW.alike (h5.2.kept hk)⟩, ⟨va_Zq.moved hW.alike (h6.1.kept hk), sk_L.moved hW.alike (h6.2.kept hk)⟩, fun i q hq => vk_R.warm hW (h7 i q hq), ?_, h9, h10, h11, fun E F hE => sk_Nc hW.alike (h12 E F hE)⟩
  obtain ⟨scr, q1, q2⟩ := id h8
  exact va_X.moved hW.alike (h8.kept (hk _ (Array.getElem?_eq_some_iff.mp q1).1 (fun z => by unfold sk_A at z; omega)))
theorem sk_wsAt (Γ : sk_T) (g : sk_G) (I : sk_I) (J : sk_J) {q : Nat} {sp : Nat × Nat × Nat} (h : g.2.1[q]? = some sp) : (sk_ws Γ g I J)[q]? = some (sk_ad Γ q, sk_cell Γ g.2.2 I J q sp) := by
  simp [sk_ws, List.getElem?_mapIdx, h]
theorem sk_apart {Γ : sk_T} {g : sk_G} (I : sk_I) (J : sk_J) (hl : g.2.1.length < 1000) (ha : ∀ k, k < 1000000 → sk_ad Γ k = sk_b Γ + k) : va_D (sk_A Γ) (sk_ws Γ g I J) := by
  have key : ∀ (k : Nat) (q : Nat × va_E), (sk_ws Γ g I J)[k]? = some q → k < 1000 ∧ q.1 = sk_b Γ + k := by
    intro k q hk
    have h1 : k < (sk_ws Γ g I J).length := (List.getElem?_eq_some_iff.mp hk).1
    have h2 : k < g.2.1.length := by simpa [sk_ws] using h1
    have h3 : (sk_ws Γ g I J)[k]? = some (sk_ad Γ k, sk_cell Γ g.2.2 I J k g.2.1[k]) := sk_wsAt Γ g I J (List.getElem?_eq_getElem h2)
    rw [h3] at hk
    cases hk
    exact ⟨by omega, ha k (by omega)⟩
  refine ⟨fun i j x y hi hj hxy => ?_, fun k q hk => ?_⟩
  · have h1 := (key i x hi).2
    have h2 := (key j y hj).2
    omega
  · have h1 := (key k q hk).2
    show sk_b Γ ≤ q.1
    omega
theorem sk_world_of {Γ : sk_T} {g : sk_G} {I : sk_I} {J : sk_J} {s U : State} {H : Heap} {locs : List Loc} (hF : sk_fix Γ s) (hH : sk_hp Γ g I J H) (hS : va_S (sk_A Γ) s.heap H locs) (hU : U.heap = H) (hW : s.WarmedH U.vm) : sk_world Γ g I J U :=
  ⟨by rw [hU]; exact hH, sk_move hF (fun q h1 h2 => by rw [hU]; exact hS.2.1 q h1 h2) hW⟩
theorem sk_blind (Γ : sk_T) (as : List Value) (g : sk_G) (I : sk_I) (J : sk_J) : FrameBlind (va_Pc as (sk_world Γ g I J)) := by
  intro a U f mk h
  exact ⟨h.1, h.2.1, sk_move h.2.2 (fun _ _ _ => rfl) (State.WarmedH.refl U)⟩
theorem sk_trL_at {Γ : sk_T} {L : List (Nat × Value)} {k i : Nat} {v : Value} (h : L[k]? = some (i, v)) : (sk_trL Γ L)[k]? = some (i, sk_tr Γ v) := by
  simp [sk_trL, h]
theorem sk_trL_f1 (Γ : sk_T) (L : List (Nat × Value)) (i : Nat) : (sk_trL Γ L).filter (fun q => !(q.1 == i) && !(q.1 + 1 == i && q.2.category == 2)) = sk_trL Γ (L.filter (fun q => !(q.1 == i) && !(q.1 + 1 == i && q.2.category == 2))) := by
  simp only [sk_trL, List.filter_map]
  congr 1
  apply List.filter_congr
  intro x _
  simp [Function.comp, sk_tr_cat]
theorem sk_trL_f2 (Γ : sk_T) (L : List (Nat × Value)) (i : Nat) : (sk_trL Γ L).filter (fun q => !(q.1 == i) && (!(q.1 == i + 1) && !(q.1 + 1 == i && q.2.category == 2))) = sk_trL Γ (L.filter (fun q => !(q.1 == i) && (!(q.1 == i + 1) && !(q.1 + 1 == i && q.2.category == 2)))) := by
  simp only [sk_trL, List.filter_map]
  congr 1
  apply List.filter_congr
  intro x _
  simp [Function.comp, sk_tr_cat]
theorem sk_args (Γ : sk_T) : ∀ (vs : List Value) (i : Nat), lv_args i (vs.map (sk_tr Γ)) = sk_trL Γ (lv_args i vs)
  | [], _ => rfl
  | v :: vs, i => by
    have h := sk_args Γ vs (if v.category = 2 then i + 2 else i + 1)
    simp only [List.map_cons, lv_args, sk_tr_cat, h]
    rfl
theorem sk_sl (Γ : sk_T) (vs : List Value) : (lg_sl (vs.map (sk_tr Γ))).length = (lg_sl vs).length := by
  induction vs with
  | nil => rfl
  | cons v vs ih =>
    simp only [lg_sl, List.map_cons, List.flatMap_cons, List.length_append, sk_tr_cat] at ih ⊢
    rw [ih]
    split <;> rfl
theorem sk_pick (Γ : sk_T) (L : List (Nat × Value)) (ks : List Nat) : lv_pick (sk_trL Γ L) ks = sk_trL Γ (lv_pick L ks) := by
  induction ks with
  | nil => rfl
  | cons a t ih =>
    simp only [lv_pick, sk_trL, List.filterMap_cons, List.getElem?_map] at ih ⊢
    cases h : L[a]? with
    | none => simpa [h] using ih
    | some x => simpa [h] using ih
end
section
section SKR
variable {Γ : sk_T} {M : sk_M} {mc ms pc : Nat} {L : List (Nat × Value)} {S : List Value} {g : sk_G} {I : sk_I} {J : sk_J} {kc kn : Nat} {Q : sk_Q}
theorem sk_iconst {i : Int} {v : Int32} (d : decode (sk_cc M) pc = .ok (.iconst i, 1)) (hv : Int32.ofInt i = v) (h : sk_W Γ M mc ms (pc + 1) L (.int v :: S) g I J kc kn Q) : sk_W Γ M mc ms pc L S g I J kc kn Q :=
  fun p e s m args below meth c H locs ls hC hH hS hl => lv_iconst hC.1 hC.2.1 d hv (h p e s m args below meth c H locs ls hC hH hS hl)
theorem sk_bipush {i : Int} {v : Int32} (d : decode (sk_cc M) pc = .ok (.bipush i, 2)) (hv : (Int8.ofInt i).toInt32 = v) (h : sk_W Γ M mc ms (pc + 2) L (.int v :: S) g I J kc kn Q) : sk_W Γ M mc ms pc L S g I J kc kn Q :=
  fun p e s m args below meth c H locs ls hC hH hS hl => lv_bipush hC.1 hC.2.1 d hv (h p e s m args below meth c H locs ls hC hH hS hl)
theorem sk_sipush {i : Int} {v : Int32} (d : decode (sk_cc M) pc = .ok (.sipush i, 3)) (hv : (Int16.ofInt i).toInt32 = v) (h : sk_W Γ M mc ms (pc + 3) L (.int v :: S) g I J kc kn Q) : sk_W Γ M mc ms pc L S g I J kc kn Q :=
  fun p e s m args below meth c H locs ls hC hH hS hl => lv_sipush hC.1 hC.2.1 d hv (h p e s m args below meth c H locs ls hC hH hS hl)
theorem sk_lconst {i : Fin 2} {v : Int64} (d : decode (sk_cc M) pc = .ok (.lconst i, 1)) (hv : Int64.ofNat (i : Nat) = v) (h : sk_W Γ M mc ms (pc + 1) L (.long v :: S) g I J kc kn Q) : sk_W Γ M mc ms pc L S g I J kc kn Q :=
  fun p e s m args below meth c H locs ls hC hH hS hl => lv_lconst hC.1 hC.2.1 d hv (h p e s m args below meth c H locs ls hC hH hS hl)
theorem sk_ldc {i : Nat} {v : Int32} (d : decode (sk_cc M) pc = .ok (.ldc i, 2)) (hv : Cond.constant (sk_own M) i v ∈ sk_ts) (h : sk_W Γ M mc ms (pc + 2) L (.int v :: S) g I J kc kn Q) : sk_W Γ M mc ms pc L S g I J kc kn Q :=
  fun p e s m args below meth c H locs ls hC hH hS hl => lv_ldc hC.1 hC.2.1 hC.2.2.2.2.2.1 (hC.2.2.2.2.2.2.1 _ hv) d (h p e s m args below meth c H locs ls hC hH hS hl)
theorem sk_ldc2 {i : Nat} {v : Int64} (d : decode (sk_cc M) pc = .ok (.ldc2_w i, 3)) (hv : Cond.constantLong (sk_own M) i v ∈ sk_ts) (h : sk_W Γ M mc ms (pc + 3) L (.long v :: S) g I J kc kn Q) : sk_W Γ M mc ms pc L S g I J kc kn Q :=
  fun p e s m args below meth c H locs ls hC hH hS hl => lv_ldc2 hC.1 hC.2.1 hC.2.2.2.2.2.1 (hC.2.2.2.2.2.2.1 _ hv) d (h p e s m args below meth c H locs ls hC hH hS hl)
theorem sk_iload_n {f : Fin 4} {i j : Nat} {x : Int32} (d : decode (sk_cc M) pc = .ok (.iload_n f, 1)) (hi : (f : Nat) = i) (hk : L[j]? = some (i, .int x)) (h : sk_W Γ M mc ms (pc + 1) L (.int x :: S) g I J kc kn Q) : sk_W Γ M mc ms pc L S g I J kc kn Q :=
  fun p e s m args below meth c H locs ls hC hH hS hl => lv_iload_n hC.1 hC.2.1 d hi (lv_at hl j (sk_trL_at hk)) (h p e s m args below meth c H locs ls hC hH hS hl)
theorem sk_iload {i j : Nat} {x : Int32} (d : decode (sk_cc M) pc = .ok (.iload i, 2)) (hk : L[j]? = some (i, .int x)) (h : sk_W Γ M mc ms (pc + 2) L (.int x :: S) g I J kc kn Q) : sk_W Γ M mc ms pc L S g I J kc kn Q :=
  fun p e s m args below meth c H locs ls hC hH hS hl => lv_iload hC.1 hC.2.1 d (lv_at hl j (sk_trL_at hk)) (h p e s m args below meth c H locs ls hC hH hS hl)
theorem sk_istore_n {f : Fin 4} {i : Nat} {x : Int32} {L' : List (Nat × Value)} (d : decode (sk_cc M) pc = .ok (.istore_n f, 1)) (hi : (f : Nat) = i) (hn : i < sk_nl M) (hL : (i, Value.int x) :: L.filter (fun q => !(q.1 == i) && !(q.1 + 1 == i && q.2.category == 2)) = L') (h : sk_W Γ M mc ms (pc + 1) L' S g I J kc kn Q) : sk_W Γ M mc ms pc L (.int x :: S) g I J kc kn Q :=
  fun p e s m args below meth c H locs ls hC hH hS hl => lv_istore_n hC.1 hC.2.1 d hi hl hn (by rw [sk_trL_f1, ← hL]; rfl) (fun ls' hl' => h p e s m args below meth c H locs ls' hC hH hS hl')
theorem sk_istore {i : Nat} {x : Int32} {L' : List (Nat × Value)} (d : decode (sk_cc M) pc = .ok (.istore i, 2)) (hn : i < sk_nl M) (hL : (i, Value.int x) :: L.filter (fun q => !(q.1 == i) && !(q.1 + 1 == i && q.2.category == 2)) = L') (h : sk_W Γ M mc ms (pc + 2) L' S g I J kc kn Q) : sk_W Γ M mc ms pc L (.int x :: S) g I J kc kn Q :=
  fun p e s m args below meth c H locs ls hC hH hS hl => lv_istore hC.1 hC.2.1 d hl hn (by rw [sk_trL_f1, ← hL]; rfl) (fun ls' hl' => h p e s m args below meth c H locs ls' hC hH hS hl')
theorem sk_lload_n {f : Fin 4} {i j : Nat} {x : Int64} (d : decode (sk_cc M) pc = .ok (.lload_n f, 1)) (hi : (f : Nat) = i) (hk : L[j]? = some (i, .long x)) (h : sk_W Γ M mc ms (pc + 1) L (.long x :: S) g I J kc kn Q) : sk_W Γ M mc ms pc L S g I J kc kn Q :=
  fun p e s m args below meth c H locs ls hC hH hS hl => lv_lload_n hC.1 hC.2.1 d hi (lv_at hl j (sk_trL_at hk)) (h p e s m args below meth c H locs ls hC hH hS hl)
theorem sk_lload {i j : Nat} {x : Int64} (d : decode (sk_cc M) pc = .ok (.lload i, 2)) (hk : L[j]? = some (i, .long x)) (h : sk_W Γ M mc ms (pc + 2) L (.long x :: S) g I J kc kn Q) : sk_W Γ M mc ms pc L S g I J kc kn Q :=
  fun p e s m args below meth c H locs ls hC hH hS hl => lv_lload hC.1 hC.2.1 d (lv_at hl j (sk_trL_at hk)) (h p e s m args below meth c H locs ls hC hH hS hl)
theorem sk_lstore_n {f : Fin 4} {i : Nat} {x : Int64} {L' : List (Nat × Value)} (d : decode (sk_cc M) pc = .ok (.lstore_n f, 1)) (hi : (f : Nat) = i) (hn : i + 1 < sk_nl M) (hL : (i, Value.long x) :: L.filter (fun q => !(q.1 == i) && (!(q.1 == i + 1) && !(q.1 + 1 == i && q.2.category == 2))) = L') (h : sk_W Γ M mc ms (pc + 1) L' S g I J kc kn Q) : sk_W Γ M mc ms pc L (.long x :: S) g I J kc kn Q :=
  fun p e s m args below meth c H locs ls hC hH hS hl => lv_lstore_n hC.1 hC.2.1 d hi hl hn (by rw [sk_trL_f2, ← hL]; rfl) (fun ls' hl' => h p e s m args below meth c H locs ls' hC hH hS hl')
theorem sk_lstore {i : Nat} {x : Int64} {L' : List (Nat × Value)} (d : decode (sk_cc M) pc = .ok (.lstore i, 2)) (hn : i + 1 < sk_nl M) (hL : (i, Value.long x) :: L.filter (fun q => !(q.1 == i) && (!(q.1 == i + 1) && !(q.1 + 1 == i && q.2.category == 2))) = L') (h : sk_W Γ M mc ms (pc + 2) L' S g I J kc kn Q) : sk_W Γ M mc ms pc L (.long x :: S) g I J kc kn Q :=
  fun p e s m args below meth c H locs ls hC hH hS hl => lv_lstore hC.1 hC.2.1 d hl hn (by rw [sk_trL_f2, ← hL]; rfl) (fun ls' hl' => h p e s m args below meth c H locs ls' hC hH hS hl')
theorem sk_aload_n {f : Fin 4} {i j : Nat} {x : Nat} (d : decode (sk_cc M) pc = .ok (.aload_n f, 1)) (hi : (f : Nat) = i) (hk : L[j]? = some (i, .ref x)) (h : sk_W Γ M mc ms (pc + 1) L (.ref x :: S) g I J kc kn Q) : sk_W Γ M mc ms pc L S g I J kc kn Q :=
  fun p e s m args below meth c H locs ls hC hH hS hl => lv_aload_n hC.1 hC.2.1 d hi (lv_at hl j (sk_trL_at hk)) (h p e s m args below meth c H locs ls hC hH hS hl)
theorem sk_aload {i j : Nat} {x : Nat} (d : decode (sk_cc M) pc = .ok (.aload i, 2)) (hk : L[j]? = some (i, .ref x)) (h : sk_W Γ M mc ms (pc + 2) L (.ref x :: S) g I J kc kn Q) : sk_W Γ M mc ms pc L S g I J kc kn Q :=
  fun p e s m args below meth c H locs ls hC hH hS hl => lv_aload hC.1 hC.2.1 d (lv_at hl j (sk_trL_at hk)) (h p e s m args below meth c H locs ls hC hH hS hl)
theorem sk_astore_n {f : Fin 4} {i : Nat} {x : Nat} {L' : List (Nat × Value)} (d : decode (sk_cc M) pc = .ok (.astore_n f, 1)) (hi : (f : Nat) = i) (hn : i < sk_nl M) (hL : (i, Value.ref x) :: L.filter (fun q => !(q.1 == i) && !(q.1 + 1 == i && q.2.category == 2)) = L') (h : sk_W Γ M mc ms (pc + 1) L' S g I J kc kn Q) : sk_W Γ M mc ms pc L (.ref x :: S) g I J kc kn Q :=
  fun p e s m args below meth c H locs ls hC hH hS hl => lv_astore_n hC.1 hC.2.1 d hi hl hn (by rw [sk_trL_f1, ← hL]; rfl) (fun ls' hl' => h p e s m args below meth c H locs ls' hC hH hS hl')
theorem sk_astore {i : Nat} {x : Nat} {L' : List (Nat × Value)} (d : decode (sk_cc M) pc = .ok (.astore i, 2)) (hn : i < sk_nl M) (hL : (i, Value.ref x) :: L.filter (fun q => !(q.1 == i) && !(q.1 + 1 == i && q.2.category == 2)) = L') (h : sk_W Γ M mc ms (pc + 2) L' S g I J kc kn Q) : sk_W Γ M mc ms pc L (.ref x :: S) g I J kc kn Q :=
  fun p e s m args below meth c H locs ls hC hH hS hl => lv_astore hC.1 hC.2.1 d hl hn (by rw [sk_trL_f1, ← hL]; rfl) (fun ls' hl' => h p e s m args below meth c H locs ls' hC hH hS hl')
theorem sk_iinc {i j : Nat} {w : Int} {x v : Int32} {L' : List (Nat × Value)} (d : decode (sk_cc M) pc = .ok (.iinc i w, 3)) (hk : L[j]? = some (i, .int x)) (hv : x + Int32.ofInt w = v) (hn : i < sk_nl M) (hL : (i, Value.int v) :: L.filter (fun q => !(q.1 == i) && !(q.1 + 1 == i && q.2.category == 2)) = L') (h : sk_W Γ M mc ms (pc + 3) L' S g I J kc kn Q) : sk_W Γ M mc ms pc L S g I J kc kn Q :=
  fun p e s m args below meth c H locs ls hC hH hS hl => lv_iinc hC.1 hC.2.1 d hl (sk_trL_at hk) hv hn (by rw [sk_trL_f1, ← hL]; rfl) (fun ls' hl' => h p e s m args below meth c H locs ls' hC hH hS hl')
theorem sk_iadd {x y : Int32} (d : decode (sk_cc M) pc = .ok (.iadd, 1)) (h : sk_W Γ M mc ms (pc + 1) L (.int (x + y) :: S) g I J kc kn Q) : sk_W Γ M mc ms pc L (.int y :: .int x :: S) g I J kc kn Q :=
  fun p e s m args below meth c H locs ls hC hH hS hl => lv_iadd hC.1 hC.2.1 d (h p e s m args below meth c H locs ls hC hH hS hl)
theorem sk_isub {x y : Int32} (d : decode (sk_cc M) pc = .ok (.isub, 1)) (h : sk_W Γ M mc ms (pc + 1) L (.int (x - y) :: S) g I J kc kn Q) : sk_W Γ M mc ms pc L (.int y :: .int x :: S) g I J kc kn Q :=
  fun p e s m args below meth c H locs ls hC hH hS hl => lv_isub hC.1 hC.2.1 d (h p e s m args below meth c H locs ls hC hH hS hl)
theorem sk_imul {x y : Int32} (d : decode (sk_cc M) pc = .ok (.imul, 1)) (h : sk_W Γ M mc ms (pc + 1) L (.int (x * y) :: S) g I J kc kn Q) : sk_W Γ M mc ms pc L (.int y :: .int x :: S) g I J kc kn Q :=
  fun p e s m args below meth c H locs ls hC hH hS hl => lv_imul hC.1 hC.2.1 d (h p e s m args below meth c H locs ls hC hH hS hl)
theorem sk_iand {x y : Int32} (d : decode (sk_cc M) pc = .ok (.iand, 1)) (h : sk_W Γ M mc ms (pc + 1) L (.int (x &&& y) :: S) g I J kc kn Q) : sk_W Γ M mc ms pc L (.int y :: .int x :: S) g I J kc kn Q :=
  fun p e s m args below meth c H locs ls hC hH hS hl => lv_iand hC.1 hC.2.1 d (h p e s m args below meth c H locs ls hC hH hS hl)
theorem sk_ior {x y : Int32} (d : decode (sk_cc M) pc = .ok (.ior, 1)) (h : sk_W Γ M mc ms (pc + 1) L (.int (x ||| y) :: S) g I J kc kn Q) : sk_W Γ M mc ms pc L (.int y :: .int x :: S) g I J kc kn Q :=
  fun p e s m args below meth c H locs ls hC hH hS hl => lv_ior hC.1 hC.2.1 d (h p e s m args below meth c H locs ls hC hH hS hl)
theorem sk_ixor {x y : Int32} (d : decode (sk_cc M) pc = .ok (.ixor, 1)) (h : sk_W Γ M mc ms (pc + 1) L (.int (x ^^^ y) :: S) g I J kc kn Q) : sk_W Γ M mc ms pc L (.int y :: .int x :: S) g I J kc kn Q :=
  fun p e s m args below meth c H locs ls hC hH hS hl => lv_ixor hC.1 hC.2.1 d (h p e s m args below meth c H locs ls hC hH hS hl)
theorem sk_ishl {x y : Int32} (d : decode (sk_cc M) pc = .ok (.ishl, 1)) (h : sk_W Γ M mc ms (pc + 1) L (.int (x <<< (y &&& 31)) :: S) g I J kc kn Q) : sk_W Γ M mc ms pc L (.int y :: .int x :: S) g I J kc kn Q :=
  fun p e s m args below meth c H locs ls hC hH hS hl => lv_ishl hC.1 hC.2.1 d (h p e s m args below meth c H locs ls hC hH hS hl)
theorem sk_ishr {x y : Int32} (d : decode (sk_cc M) pc = .ok (.ishr, 1)) (h : sk_W Γ M mc ms (pc + 1) L (.int (x >>> (y &&& 31)) :: S) g I J kc kn Q) : sk_W Γ M mc ms pc L (.int y :: .int x :: S) g I J kc kn Q :=
  fun p e s m args below meth c H locs ls hC hH hS hl => lv_ishr hC.1 hC.2.1 d (h p e s m args below meth c H locs ls hC hH hS hl)
theorem sk_idiv {x y : Int32} (d : decode (sk_cc M) pc = .ok (.idiv, 1)) (hy : ¬ y = 0) (h : sk_W Γ M mc ms (pc + 1) L (.int (x / y) :: S) g I J kc kn Q) : sk_W Γ M mc ms pc L (.int y :: .int x :: S) g I J kc kn Q :=
  fun p e s m args below meth c H locs ls hC hH hS hl => lv_idiv hC.1 hC.2.1 d hy (h p e s m args below meth c H locs ls hC hH hS hl)
theorem sk_irem {x y : Int32} (d : decode (sk_cc M) pc = .ok (.irem, 1)) (hy : ¬ y = 0) (h : sk_W Γ M mc ms (pc + 1) L (.int (x - x / y * y) :: S) g I J kc kn Q) : sk_W Γ M mc ms pc L (.int y :: .int x :: S) g I J kc kn Q :=
  fun p e s m args below meth c H locs ls hC hH hS hl => lv_irem hC.1 hC.2.1 d hy (h p e s m args below meth c H locs ls hC hH hS hl)
theorem sk_ladd {x y : Int64} (d : decode (sk_cc M) pc = .ok (.ladd, 1)) (h : sk_W Γ M mc ms (pc + 1) L (.long (x + y) :: S) g I J kc kn Q) : sk_W Γ M mc ms pc L (.long y :: .long x :: S) g I J kc kn Q :=
  fun p e s m args below meth c H locs ls hC hH hS hl => lv_ladd hC.1 hC.2.1 d (h p e s m args below meth c H locs ls hC hH hS hl)
theorem sk_land {x y : Int64} (d : decode (sk_cc M) pc = .ok (.land, 1)) (h : sk_W Γ M mc ms (pc + 1) L (.long (x &&& y) :: S) g I J kc kn Q) : sk_W Γ M mc ms pc L (.long y :: .long x :: S) g I J kc kn Q :=
  fun p e s m args below meth c H locs ls hC hH hS hl => lv_land hC.1 hC.2.1 d (h p e s m args below meth c H locs ls hC hH hS hl)
theorem sk_lor {x y : Int64} (d : decode (sk_cc M) pc = .ok (.lor, 1)) (h : sk_W Γ M mc ms (pc + 1) L (.long (x ||| y) :: S) g I J kc kn Q) : sk_W Γ M mc ms pc L (.long y :: .long x :: S) g I J kc kn Q :=
  fun p e s m args below meth c H locs ls hC hH hS hl => lv_lor hC.1 hC.2.1 d (h p e s m args below meth c H locs ls hC hH hS hl)
theorem sk_lxor {x y : Int64} (d : decode (sk_cc M) pc = .ok (.lxor, 1)) (h : sk_W Γ M mc ms (pc + 1) L (.long (x ^^^ y) :: S) g I J kc kn Q) : sk_W Γ M mc ms pc L (.long y :: .long x :: S) g I J kc kn Q :=
  fun p e s m args below meth c H locs ls hC hH hS hl => lv_lxor hC.1 hC.2.1 d (h p e s m args below meth c H locs ls hC hH hS hl)
theorem sk_lshl {x : Int64} {y : Int32} (d : decode (sk_cc M) pc = .ok (.lshl, 1)) (h : sk_W Γ M mc ms (pc + 1) L (.long (x <<< (y.toInt64 &&& 63)) :: S) g I J kc kn Q) : sk_W Γ M mc ms pc L (.int y :: .long x :: S) g I J kc kn Q :=
  fun p e s m args below meth c H locs ls hC hH hS hl => lv_lshl hC.1 hC.2.1 d rfl (h p e s m args below meth c H locs ls hC hH hS hl)
theorem sk_lushr {x : Int64} {y : Int32} (d : decode (sk_cc M) pc = .ok (.lushr, 1)) (h : sk_W Γ M mc ms (pc + 1) L (.long ((x.toUInt64 >>> (y.toInt64.toUInt64 &&& Int64.toUInt64 63)).toInt64) :: S) g I J kc kn Q) : sk_W Γ M mc ms pc L (.int y :: .long x :: S) g I J kc kn Q :=
  fun p e s m args below meth c H locs ls hC hH hS hl => lv_lushr hC.1 hC.2.1 d rfl (h p e s m args below meth c H locs ls hC hH hS hl)
theorem sk_i2l {x : Int32} (d : decode (sk_cc M) pc = .ok (.i2l, 1)) (h : sk_W Γ M mc ms (pc + 1) L (.long x.toInt64 :: S) g I J kc kn Q) : sk_W Γ M mc ms pc L (.int x :: S) g I J kc kn Q :=
  fun p e s m args below meth c H locs ls hC hH hS hl => lv_i2l hC.1 hC.2.1 d rfl (h p e s m args below meth c H locs ls hC hH hS hl)
theorem sk_l2i {x : Int64} (d : decode (sk_cc M) pc = .ok (.l2i, 1)) (h : sk_W Γ M mc ms (pc + 1) L (.int x.toInt32 :: S) g I J kc kn Q) : sk_W Γ M mc ms pc L (.long x :: S) g I J kc kn Q :=
  fun p e s m args below meth c H locs ls hC hH hS hl => lv_l2i hC.1 hC.2.1 d rfl (h p e s m args below meth c H locs ls hC hH hS hl)
theorem sk_lcmp {x y : Int64} (d : decode (sk_cc M) pc = .ok (.lcmp, 1)) (h : sk_W Γ M mc ms (pc + 1) L (.int (lg_cmp x y) :: S) g I J kc kn Q) : sk_W Γ M mc ms pc L (.long y :: .long x :: S) g I J kc kn Q :=
  fun p e s m args below meth c H locs ls hC hH hS hl => W.lcmp hC.1 hC.2.1 d (h p e s m args below meth c H locs ls hC hH hS hl)
theorem sk_dup {v : Value} (d : decode (sk_cc M) pc = .ok (.dup, 1)) (hv : v.category = 1) (h : sk_W Γ M mc ms (pc + 1) L (v :: v :: S) g I J kc kn Q) : sk_W Γ M mc ms pc L (v :: S) g I J kc kn Q :=
  fun p e s m args below meth c H locs ls hC hH hS hl => lv_dup hC.1 hC.2.1 d ((sk_tr_cat Γ v).trans hv) (h p e s m args below meth c H locs ls hC hH hS hl)
theorem sk_pop {v : Value} (d : decode (sk_cc M) pc = .ok (.pop, 1)) (hv : v.category = 1) (h : sk_W Γ M mc ms (pc + 1) L S g I J kc kn Q) : sk_W Γ M mc ms pc L (v :: S) g I J kc kn Q :=
  fun p e s m args below meth c H locs ls hC hH hS hl => lv_pop hC.1 hC.2.1 d ((sk_tr_cat Γ v).trans hv) (h p e s m args below meth c H locs ls hC hH hS hl)
theorem sk_dup_x1 {v w : Value} (d : decode (sk_cc M) pc = .ok (.dup_x1, 1)) (hv : v.category = 1) (hw : w.category = 1) (h : sk_W Γ M mc ms (pc + 1) L (v :: w :: v :: S) g I J kc kn Q) : sk_W Γ M mc ms pc L (v :: w :: S) g I J kc kn Q :=
  fun p e s m args below meth c H locs ls hC hH hS hl => lv_dup_x1 hC.1 hC.2.1 d ((sk_tr_cat Γ v).trans hv) ((sk_tr_cat Γ w).trans hw) (h p e s m args below meth c H locs ls hC hH hS hl)
theorem sk_dup2 {v w : Value} (d : decode (sk_cc M) pc = .ok (.dup2, 1)) (hv : v.category = 1) (hw : w.category = 1) (h : sk_W Γ M mc ms (pc + 1) L (v :: w :: v :: w :: S) g I J kc kn Q) : sk_W Γ M mc ms pc L (v :: w :: S) g I J kc kn Q :=
  fun p e s m args below meth c H locs ls hC hH hS hl => lv_dup2_11 hC.1 hC.2.1 d ((sk_tr_cat Γ v).trans hv) ((sk_tr_cat Γ w).trans hw) (h p e s m args below meth c H locs ls hC hH hS hl)
theorem sk_if_eq {x : Int32} {off : Int} {tgt : Nat} (d : decode (sk_cc M) pc = .ok (.ifCond .eq off, 3)) (ht : (pc : Int) + off = (tgt : Int)) (kt : x = 0 → sk_W Γ M mc ms tgt L S g I J kc kn Q) (kf : ¬ x = 0 → sk_W Γ M mc ms (pc + 3) L S g I J kc kn Q) : sk_W Γ M mc ms pc L (.int x :: S) g I J kc kn Q :=
  fun p e s m args below meth c H locs ls hC hH hS hl => lv_if_eq hC.1 hC.2.1 d ht (fun q => kt q p e s m args below meth c H locs ls hC hH hS hl) (fun q => kf q p e s m args below meth c H locs ls hC hH hS hl)
theorem sk_icmp_eq {x y : Int32} {off : Int} {tgt : Nat} (d : decode (sk_cc M) pc = .ok (.if_icmp .eq off, 3)) (ht : (pc : Int) + off = (tgt : Int)) (kt : x = y → sk_W Γ M mc ms tgt L S g I J kc kn Q) (kf : ¬ x = y → sk_W Γ M mc ms (pc + 3) L S g I J kc kn Q) : sk_W Γ M mc ms pc L (.int y :: .int x :: S) g I J kc kn Q :=
  fun p e s m args below meth c H locs ls hC hH hS hl => lv_icmp_eq hC.1 hC.2.1 d ht (fun q => kt q p e s m args below meth c H locs ls hC hH hS hl) (fun q => kf q p e s m args below meth c H locs ls hC hH hS hl)
theorem sk_if_ne {x : Int32} {off : Int} {tgt : Nat} (d : decode (sk_cc M) pc = .ok (.ifCond .ne off, 3)) (ht : (pc : Int) + off = (tgt : Int)) (kt : ¬ x = 0 → sk_W Γ M mc ms tgt L S g I J kc kn Q) (kf : x = 0 → sk_W Γ M mc ms (pc + 3) L S g I J kc kn Q) : sk_W Γ M mc ms pc L (.int x :: S) g I J kc kn Q :=
  fun p e s m args below meth c H locs ls hC hH hS hl => lv_if_ne hC.1 hC.2.1 d ht (fun q => kt q p e s m args below meth c H locs ls hC hH hS hl) (fun q => kf q p e s m args below meth c H locs ls hC hH hS hl)
theorem sk_icmp_ne {x y : Int32} {off : Int} {tgt : Nat} (d : decode (sk_cc M) pc = .ok (.if_icmp .ne off, 3)) (ht : (pc : Int) + off = (tgt : Int)) (kt : ¬ x = y → sk_W Γ M mc ms tgt L S g I J kc kn Q) (kf : x = y → sk_W Γ M mc ms (pc + 3) L S g I J kc kn Q) : sk_W Γ M mc ms pc L (.int y :: .int x :: S) g I J kc kn Q :=
  fun p e s m args below meth c H locs ls hC hH hS hl => lv_icmp_ne hC.1 hC.2.1 d ht (fun q => kt q p e s m args below meth c H locs ls hC hH hS hl) (fun q => kf q p e s m args below meth c H locs ls hC hH hS hl)
theorem sk_if_lt {x : Int32} {off : Int} {tgt : Nat} (d : decode (sk_cc M) pc = .ok (.ifCond .lt off, 3)) (ht : (pc : Int) + off = (tgt : Int)) (kt : x < 0 → sk_W Γ M mc ms tgt L S g I J kc kn Q) (kf : ¬ x < 0 → sk_W Γ M mc ms (pc + 3) L S g I J kc kn Q) : sk_W Γ M mc ms pc L (.int x :: S) g I J kc kn Q :=
  fun p e s m args below meth c H locs ls hC hH hS hl => lv_if_lt hC.1 hC.2.1 d ht (fun q => kt q p e s m args below meth c H locs ls hC hH hS hl) (fun q => kf q p e s m args below meth c H locs ls hC hH hS hl)
theorem sk_icmp_lt {x y : Int32} {off : Int} {tgt : Nat} (d : decode (sk_cc M) pc = .ok (.if_icmp .lt off, 3)) (ht : (pc : Int) + off = (tgt : Int)) (kt : x < y → sk_W Γ M mc ms tgt L S g I J kc kn Q) (kf : ¬ x < y → sk_W Γ M mc ms (pc + 3) L S g I J kc kn Q) : sk_W Γ M mc ms pc L (.int y :: .int x :: S) g I J kc kn Q :=
  fun p e s m args below meth c H locs ls hC hH hS hl => lv_icmp_lt hC.1 hC.2.1 d ht (fun q => kt q p e s m args below meth c H locs ls hC hH hS hl) (fun q => kf q p e s m args below meth c H locs ls hC hH hS hl)
theorem sk_if_ge {x : Int32} {off : Int} {tgt : Nat} (d : decode (sk_cc M) pc = .ok (.ifCond .ge off, 3)) (ht : (pc : Int) + off = (tgt : Int)) (kt : 0 ≤ x → sk_W Γ M mc ms tgt L S g I J kc kn Q) (kf : ¬ 0 ≤ x → sk_W Γ M mc ms (pc + 3) L S g I J kc kn Q) : sk_W Γ M mc ms pc L (.int x :: S) g I J kc kn Q :=
  fun p e s m args below meth c H locs ls hC hH hS hl => lv_if_ge hC.1 hC.2.1 d ht (fun q => kt q p e s m args below meth c H locs ls hC hH hS hl) (fun q => kf q p e s m args below meth c H locs ls hC hH hS hl)
theorem sk_icmp_ge {x y : Int32} {off : Int} {tgt : Nat} (d : decode (sk_cc M) pc = .ok (.if_icmp .ge off, 3)) (ht : (pc : Int) + off = (tgt : Int)) (kt : y ≤ x → sk_W Γ M mc ms tgt L S g I J kc kn Q) (kf : ¬ y ≤ x → sk_W Γ M mc ms (pc + 3) L S g I J kc kn Q) : sk_W Γ M mc ms pc L (.int y :: .int x :: S) g I J kc kn Q :=
  fun p e s m args below meth c H locs ls hC hH hS hl => lv_icmp_ge hC.1 hC.2.1 d ht (fun q => kt q p e s m args below meth c H locs ls hC hH hS hl) (fun q => kf q p e s m args below meth c H locs ls hC hH hS hl)
theorem sk_if_gt {x : Int32} {off : Int} {tgt : Nat} (d : decode (sk_cc M) pc = .ok (.ifCond .gt off, 3)) (ht : (pc : Int) + off = (tgt : Int)) (kt : 0 < x → sk_W Γ M mc ms tgt L S g I J kc kn Q) (kf : ¬ 0 < x → sk_W Γ M mc ms (pc + 3) L S g I J kc kn Q) : sk_W Γ M mc ms pc L (.int x :: S) g I J kc kn Q :=
  fun p e s m args below meth c H locs ls hC hH hS hl => lv_if_gt hC.1 hC.2.1 d ht (fun q => kt q p e s m args below meth c H locs ls hC hH hS hl) (fun q => kf q p e s m args below meth c H locs ls hC hH hS hl)
theorem sk_icmp_gt {x y : Int32} {off : Int} {tgt : Nat} (d : decode (sk_cc M) pc = .ok (.if_icmp .gt off, 3)) (ht : (pc : Int) + off = (tgt : Int)) (kt : y < x → sk_W Γ M mc ms tgt L S g I J kc kn Q) (kf : ¬ y < x → sk_W Γ M mc ms (pc + 3) L S g I J kc kn Q) : sk_W Γ M mc ms pc L (.int y :: .int x :: S) g I J kc kn Q :=
  fun p e s m args below meth c H locs ls hC hH hS hl => lv_icmp_gt hC.1 hC.2.1 d ht (fun q => kt q p e s m args below meth c H locs ls hC hH hS hl) (fun q => kf q p e s m args below meth c H locs ls hC hH hS hl)
theorem sk_if_le {x : Int32} {off : Int} {tgt : Nat} (d : decode (sk_cc M) pc = .ok (.ifCond .le off, 3)) (ht : (pc : Int) + off = (tgt : Int)) (kt : x ≤ 0 → sk_W Γ M mc ms tgt L S g I J kc kn Q) (kf : ¬ x ≤ 0 → sk_W Γ M mc ms (pc + 3) L S g I J kc kn Q) : sk_W Γ M mc ms pc L (.int x :: S) g I J kc kn Q :=
  fun p e s m args below meth c H locs ls hC hH hS hl => lv_if_le hC.1 hC.2.1 d ht (fun q => kt q p e s m args below meth c H locs ls hC hH hS hl) (fun q => kf q p e s m args below meth c H locs ls hC hH hS hl)
theorem sk_icmp_le {x y : Int32} {off : Int} {tgt : Nat} (d : decode (sk_cc M) pc = .ok (.if_icmp .le off, 3)) (ht : (pc : Int) + off = (tgt : Int)) (kt : x ≤ y → sk_W Γ M mc ms tgt L S g I J kc kn Q) (kf : ¬ x ≤ y → sk_W Γ M mc ms (pc + 3) L S g I J kc kn Q) : sk_W Γ M mc ms pc L (.int y :: .int x :: S) g I J kc kn Q :=
  fun p e s m args below meth c H locs ls hC hH hS hl => lv_icmp_le hC.1 hC.2.1 d ht (fun q => kt q p e s m args below meth c H locs ls hC hH hS hl) (fun q => kf q p e s m args below meth c H locs ls hC hH hS hl)
theorem sk_goto {off : Int} {tgt : Nat} (d : decode (sk_cc M) pc = .ok (.goto off, 3)) (ht : (pc : Int) + off = (tgt : Int)) (h : sk_W Γ M mc ms tgt L S g I J kc kn Q) : sk_W Γ M mc ms pc L S g I J kc kn Q :=
  fun p e s m args below meth c H locs ls hC hH hS hl => lv_goto hC.1 hC.2.1 d ht (h p e s m args below meth c H locs ls hC hH hS hl)
theorem sk_tableOut {dflt lo hi : Int} {offs : Array Int} {len : Nat} {x : Int32} {tgt : Nat} (d : decode (sk_cc M) pc = .ok (.tableswitch dflt lo hi offs, len)) (hx : x.toInt < lo ∨ hi < x.toInt) (ht : (pc : Int) + dflt = (tgt : Int)) (h : sk_W Γ M mc ms tgt L S g I J kc kn Q) : sk_W Γ M mc ms pc L (.int x :: S) g I J kc kn Q :=
  fun p e s m args below meth c H locs ls hC hH hS hl => lv_tableOut hC.1 hC.2.1 d hx ht (h p e s m args below meth c H locs ls hC hH hS hl)
theorem sk_tableIn {dflt lo hi : Int} {offs : Array Int} {len : Nat} {x : Int32} {off : Int} {tgt : Nat} (d : decode (sk_cc M) pc = .ok (.tableswitch dflt lo hi offs, len)) (h1 : ¬ x.toInt < lo) (h2 : ¬ hi < x.toInt) (ho : offs[(x.toInt - lo).toNat]? = some off) (ht : (pc : Int) + off = (tgt : Int)) (h : sk_W Γ M mc ms tgt L S g I J kc kn Q) : sk_W Γ M mc ms pc L (.int x :: S) g I J kc kn Q :=
  fun p e s m args below meth c H locs ls hC hH hS hl => lv_tableIn hC.1 hC.2.1 d h1 h2 ho ht (h p e s m args below meth c H locs ls hC hH hS hl)
theorem sk_loc {L' : List (Nat × Value)} (ks : List Nat) (hL : lv_pick L ks = L') (h : sk_W Γ M mc ms pc L' S g I J kc kn Q) : sk_W Γ M mc ms pc L S g I J kc kn Q :=
  fun p e s m args below meth c H locs ls hC hH hS hl => h p e s m args below meth c H locs ls hC hH hS (lv_sub hl ks (by rw [← hL]; exact sk_pick Γ L ks))
end SKR
end
section
/-! rules over the heap -/
def sk_fl (own : String) (idx : Nat) (T : u_T) (j : Nat) : Prop := Cond.fieldLink own idx (T j).1 (T j).2.1 (T j).2.2.1 ∈ sk_ts ∨ ∃ host : String, Cond.fieldLinkNest own idx (T j).1 (T j).2.1 (T j).2.2.1 host ∈ sk_nw
/-- a row of a cell's numbers anew -/
def sk_set {α : Type} (I : Nat → α) (q : Nat) (f : α) : Nat → α := fun a => if a = q then f else I a
theorem sk_set_eq {α : Type} (I : Nat → α) (q : Nat) (f : α) : sk_set I q f q = f := if_pos rfl
theorem sk_set_ne {α : Type} (I : Nat → α) {q a : Nat} (f : α) (h : a ≠ q) : sk_set I q f a = I a := if_neg h
theorem sk_set_set {α : Type} (I : Nat → α) (q : Nat) (f f' : α) : sk_set (sk_set I q f) q f' = sk_set I q f' := by
  funext a
  by_cases h : a = q
  · subst h; rw [sk_set_eq, sk_set_eq]
  · rw [sk_set_ne _ _ h, sk_set_ne _ _ h, sk_set_ne _ _ h]
theorem sk_set_self {α : Type} (I : Nat → α) (q : Nat) : sk_set I q (I q) = I := by
  funext a
  by_cases h : a = q
  · subst h; rw [sk_set_eq]
  · rw [sk_set_ne _ _ h]
theorem sk_cell_off (Γ : sk_T) {R R' : sk_R} {I I' : sk_I} {J J' : sk_J} {q : Nat} (hR : R' q = R q) (hI : I' q = I q) (hJ : J' q = J q) (sp : Nat × Nat × Nat) : sk_cell Γ R' I' J' q sp = sk_cell Γ R I J q sp := by
  obtain ⟨t, a, b⟩ := sp
  have hf : ∀ kd j, sk_fv Γ kd R' I' J' q j = sk_fv Γ kd R I J q j := by
    intro kd j
    simp only [sk_fv, hR, hI, hJ]
  match t with
  | 0 => simp only [sk_cell, hf]
  | 1 => simp only [sk_cell, hI]
  | 2 => simp only [sk_cell, hI]
  | (n + 3) => simp only [sk_cell, hJ]
theorem sk_ws_set (Γ : sk_T) {g g' : sk_G} {I I' : sk_I} {J J' : sk_J} {q : Nat} {e : va_E} {sp : Nat × Nat × Nat} (hs : g'.2.1 = g.2.1) (hq : g.2.1[q]? = some sp) (he : sk_cell Γ g'.2.2 I' J' q sp = e)
    (hR : ∀ a, a ≠ q → g'.2.2 a = g.2.2 a) (hI : ∀ a, a ≠ q → I' a = I a) (hJ : ∀ a, a ≠ q → J' a = J a) : (sk_ws Γ g I J).set q (sk_ad Γ q, e) = sk_ws Γ g' I' J' := by
  apply List.ext_getElem?
  intro i
  have hl : q < (sk_ws Γ g I J).length := by
    have := (List.getElem?_eq_some_iff.mp hq).1
    simpa [sk_ws] using this
  by_cases h : i = q
  · subst h
    rw [List.getElem?_set_self hl, sk_wsAt Γ g' I' J' (q := i) (sp := sp) (by rw [hs]; exact hq), he]
  · rw [List.getElem?_set_ne (Ne.symm h)]
    simp only [sk_ws, List.getElem?_mapIdx, hs]
    cases hx : g.2.1[i]? with
    | none => rfl
    | some x => simp only [Option.map_some, sk_cell_off Γ (hR i h) (hI i h) (hJ i h)]
theorem sk_ws_push (Γ : sk_T) (g : sk_G) (I : sk_I) (J : sk_J) (sp : Nat × Nat × Nat) (b : Bool) : sk_ws Γ (b, g.2.1 ++ [sp], g.2.2) I J = sk_ws Γ g I J ++ [(sk_ad Γ g.2.1.length, sk_cell Γ g.2.2 I J g.2.1.length sp)] := by
  simp [sk_ws, List.mapIdx_concat]
section SKH
variable {Γ : sk_T} {M : sk_M} {mc ms pc : Nat} {L : List (Nat × Value)} {S : List Value} {g : sk_G} {I : sk_I} {J : sk_J} {kc kn : Nat} {Q : sk_Q}
theorem sk_getf {q ci N j idx : Nat} {C : String} {T : u_T} {v : Value} (d : decode (sk_cc M) pc = .ok (.getfield idx, 3)) (ho : g.2.1[q]? = some (0, ci, N)) (hc : sk_cl[ci]? = some (C, T, N)) (hj : j < N) (hf : sk_fl (sk_own M) idx T j)
    (hv : sk_fv Γ (sk_kd ci j) g.2.2 I J q j = sk_tr Γ v) (h : sk_W Γ M mc ms (pc + 3) L (v :: S) g I J kc kn Q) : sk_W Γ M mc ms pc L (.ref q :: S) g I J kc kn Q := by
  intro p e s m args below meth c H locs ls hC hH hS hl
  have he : (sk_ws Γ g I J)[q]? = some (sk_ad Γ q, .inr (ci, (List.range N).map (fun j => sk_fv Γ (sk_kd ci j) g.2.2 I J q j))) := sk_wsAt Γ g I J ho
  have hw : ((List.range N).map (fun j => sk_fv Γ (sk_kd ci j) g.2.2 I J q j))[j]? = some (sk_tr Γ v) := by
    rw [← hv]; simp [hj]
  rcases hf with hf | ⟨host, hf⟩
  · exact va_get (C := C) (T := T) (N := N) hC.1 hC.2.1 hC.2.2.2.2.2.2.1 (sk_lays hc) hC.2.2.2.2.2.1 hC.2.2.2.2.2.2.2.1.1 hH.1 q he hc j hj (hC.2.2.2.2.2.2.1 _ hf) (fun _ h9 => h9) hw d (h p e s m args below meth c H locs ls hC hH hS hl)
  · exact va_getN (C := C) (T := T) (N := N) hC.1 hC.2.1 hC.2.2.2.2.2.2.1 (sk_lays hc) hC.2.2.2.2.2.1 hC.2.2.2.2.2.2.2.1.1 hH.1 q he hc j hj (va_Nw.use rfl (hC.2.2.2.2.2.2.2.1.2.1 _ hf)) (fun _ h9 => h9) hw d (h p e s m args below meth c H locs ls hC hH hS hl)
theorem sk_getI {q ci N j idx : Nat} {C : String} {T : u_T} (d : decode (sk_cc M) pc = .ok (.getfield idx, 3)) (ho : g.2.1[q]? = some (0, ci, N)) (hc : sk_cl[ci]? = some (C, T, N)) (hj : j < N) (hf : sk_fl (sk_own M) idx T j)
    (hk : sk_kd ci j = 0) (h : sk_W Γ M mc ms (pc + 3) L (.int (I q j) :: S) g I J kc kn Q) : sk_W Γ M mc ms pc L (.ref q :: S) g I J kc kn Q := sk_getf d ho hc hj hf (by rw [hk]; rfl) h
theorem sk_getJ {q ci N j idx : Nat} {C : String} {T : u_T} (d : decode (sk_cc M) pc = .ok (.getfield idx, 3)) (ho : g.2.1[q]? = some (0, ci, N)) (hc : sk_cl[ci]? = some (C, T, N)) (hj : j < N) (hf : sk_fl (sk_own M) idx T j)
    (hk : sk_kd ci j = 1) (h : sk_W Γ M mc ms (pc + 3) L (.long (J q j) :: S) g I J kc kn Q) : sk_W Γ M mc ms pc L (.ref q :: S) g I J kc kn Q := sk_getf d ho hc hj hf (by rw [hk]; rfl) h
theorem sk_getR {q ci N j idx r : Nat} {C : String} {T : u_T} (d : decode (sk_cc M) pc = .ok (.getfield idx, 3)) (ho : g.2.1[q]? = some (0, ci, N)) (hc : sk_cl[ci]? = some (C, T, N)) (hj : j < N) (hf : sk_fl (sk_own M) idx T j)
    (hk : sk_kd ci j = 2) (hr : g.2.2 q j = some r) (h : sk_W Γ M mc ms (pc + 3) L (.ref r :: S) g I J kc kn Q) : sk_W Γ M mc ms pc L (.ref q :: S) g I J kc kn Q := sk_getf d ho hc hj hf (by rw [hk]; simp [sk_fv, hr, sk_tr]) h
theorem sk_stored {g' : sk_G} {I' : sk_I} {J' : sk_J} {H H' : Heap} {s : State} {locs : List Loc} {q j : Nat} {sp : Nat × Nat × Nat} (hF : sk_fix Γ s) (hH : sk_hp Γ g I J H) (hS : va_S (sk_A Γ) s.heap H locs) (hq : g.2.1[q]? = some sp) (hat : va_at (sk_D Γ) sk_cl (sk_ad Γ q, sk_cell Γ g'.2.2 I' J' q sp) H')
    (e2 : H'.size = H.size) (e3 : ∀ x : Nat, x ≠ sk_ad Γ q → H'[x]? = H[x]?) (hg1 : g'.1 = g.1) (hg2 : g'.2.1 = g.2.1) (hR : ∀ a, a ≠ q → g'.2.2 a = g.2.2 a) (hI : ∀ a, a ≠ q → I' a = I a) (hJ : ∀ a, a ≠ q → J' a = J a) :
    sk_hp Γ g' I' J' H' ∧ va_S (sk_A Γ) s.heap H' (locs ++ [⟨sk_ad Γ q, j⟩]) := by
  have hD := sk_apart (Γ := Γ) (g := g) I J hH.2.2.2 hF.2.2.2.2.2.2.2.2.2.1
  have he := sk_wsAt Γ g I J hq
  have hset := sk_ws_set Γ (g := g) (g' := g') (I := I) (I' := I') (J := J) (J' := J') hg2 hq rfl hR hI hJ
  have hP := hH.1.set hD he hat e3
  rw [hset] at hP
  exact ⟨⟨hP, by rw [e2]; exact hH.2.1, by rw [e2, hg1, hg2]; exact hH.2.2.1, by rw [hg2]; exact hH.2.2.2⟩, hS.put e2 e3 (hD.2 q _ he)⟩
theorem sk_putf {q ci N j idx : Nat} {C : String} {T : u_T} {v : Value} {ty : FieldType} {g' : sk_G} {I' : sk_I} {J' : sk_J} (d : decode (sk_cc M) pc = .ok (.putfield idx, 3)) (ho : g.2.1[q]? = some (0, ci, N)) (hc : sk_cl[ci]? = some (C, T, N)) (hj : j < N)
    (hf : Cond.fieldLink (sk_own M) idx (T j).1 (T j).2.1 (T j).2.2.1 ∈ sk_ts) (hfin : (T j).2.2.2 = false ∨ ((T j).2.2.2 = true ∧ (sk_y M).name = "<init>" ∧ (T j).1 = sk_own M)) (hd : parseFieldDescriptor (T j).2.2.1 = some ty) (hn : narrow ty (sk_tr Γ v) = sk_tr Γ v) (hfit : fits ty (sk_tr Γ v) = true)
    (hg1 : g'.1 = g.1) (hg2 : g'.2.1 = g.2.1) (hcell : ∀ i, i < N → sk_fv Γ (sk_kd ci i) g'.2.2 I' J' q i = if i = j then sk_tr Γ v else sk_fv Γ (sk_kd ci i) g.2.2 I J q i) (hR : ∀ a, a ≠ q → g'.2.2 a = g.2.2 a) (hI : ∀ a, a ≠ q → I' a = I a) (hJ : ∀ a, a ≠ q → J' a = J a)
    (h : sk_W Γ M mc ms (pc + 3) L S g' I' J' kc kn Q) : sk_W Γ M mc ms pc L (v :: .ref q :: S) g I J kc kn Q := by
  intro p e s m args below meth c H locs ls hC hH hS hl
  have hts := hC.2.2.2.2.2.2.1
  have hK := hC.2.2.2.2.2.2.2.1.1
  have he : (sk_ws Γ g I J)[q]? = some (sk_ad Γ q, .inr (ci, (List.range N).map (fun j => sk_fv Γ (sk_kd ci j) g.2.2 I J q j))) := sk_wsAt Γ g I J ho
  have hap := va_apart (own := sk_own M) hts (sk_lays hc) (sk_fty T) (sk_ftyOk hc) (sk_names hc) hK hc
  obtain ⟨r, h1, cell, q1, q2, q3, q4⟩ := hH.1 q _ he
  have hr : r = (C, T, N) := Option.some.inj (h1.symm.trans hc)
  subst hr
  obtain ⟨hSl, hfc, kC, hkC, hkind⟩ := hK.1 ci _ hc
  obtain ⟨cf, kf, fi, f, hi, hsl⟩ := hSl j hj
  have hst := (u_facts hfc hkC (u_lays hts (sk_lays hc) hj) hi).1
  have hlay := hts _ (sk_lays hc _ (u_in_lay hj))
  unfold u_lay at hlay
  have done : ∀ H' : Heap, H'[sk_ad Γ q]? = some (cell.setSlot f.slot (sk_tr Γ v)) → H'.size = H.size → (∀ x : Nat, x ≠ sk_ad Γ q → H'[x]? = H[x]?) →
      W p (sk_l Γ) e (sk_rm M mc ms) s m args below meth c H' (locs ++ [⟨sk_ad Γ q, f.slot⟩]) kc kn (sk_Fin Γ Q mc ms below args s) (F0 m (pc + 3) ls (S.map (sk_tr Γ))) := by
    intro H' e1 e2 e3
    rw [hsl] at e1
    have hat : va_at (sk_D Γ) sk_cl (sk_ad Γ q, sk_cell Γ g'.2.2 I' J' q (0, ci, N)) H' := by
      refine ⟨_, hc, t_OB.to (V := updV (vp_V ((List.range N).map (fun j => sk_fv Γ (sk_kd ci j) g.2.2 I J q j))) j (sk_tr Γ v)) ⟨_, e1, q2, q3, t_set q4 hap hj _⟩ (fun i hi9 => ?_)⟩
      show updV (vp_V ((List.range N).map (fun j => sk_fv Γ (sk_kd ci j) g.2.2 I J q j))) j (sk_tr Γ v) i = vp_V ((List.range N).map (fun j => sk_fv Γ (sk_kd ci j) g'.2.2 I' J' q j)) i
      have hi8 : i < N := hi9
      by_cases hij : i = j
      · subst hij
        simp [updV, vp_V, hi8, hcell i hi8]
      · simp [updV, vp_V, hi8, hcell i hi8, hij]
    obtain ⟨h5, h6⟩ := sk_stored (j := f.slot) hC.2.2.2.2.2.2.2.1 hH hS ho hat e2 e3 hg1 hg2 hR hI hJ
    exact h p e s m args below meth c H' _ ls hC h5 h6 hl
  rcases hfin with hfin | ⟨hfin, hin, hown⟩
  · rw [if_neg (by rw [hfin]; decide)] at hlay
    exact W.putK hC.1 hC.2.1 (f := f) ⟨hC.2.2.2.2.2.1, hts _ hf, ⟨_, _, _, hi⟩, hst⟩ (by rw [q2]; exact u_store hfc hkC hkind hlay hi hd hn hfit) q1 q3 (by rw [hsl]; exact k2_hasslot (q4 j hj)) rfl rfl d done
  · rw [if_pos hfin] at hlay
    have hcf : m.cls = cf := by
      obtain ⟨_, _, c', _, _, _, -, -, hf', -, -, -, hown2, -⟩ := Cond.laysFinal_spec hlay
      have e1 : c' = cf := by have := hi.symm.trans hf'; simp at this; exact this.1.symm
      rw [hown] at hown2
      rw [← e1]; exact Option.some.inj (hC.2.2.2.2.2.1.symm.trans hown2)
    exact W.putFinK hC.1 hC.2.1 hC.2.2.2.2.2.1 (hts _ hf) hi hst hcf (hC.2.2.2.2.2.2.2.2.2.1.trans hin) (by rw [q2]; exact u_fits hfc hkC hkind (Or.inr hlay) hi hd hn hfit) q1 q3 (by rw [hsl]; exact k2_hasslot (q4 j hj)) rfl rfl d done
/-- an int field -/
theorem sk_putI {q ci N j idx : Nat} {C : String} {T : u_T} {v : Int32} {ty : FieldType} (d : decode (sk_cc M) pc = .ok (.putfield idx, 3)) (ho : g.2.1[q]? = some (0, ci, N)) (hc : sk_cl[ci]? = some (C, T, N)) (hj : j < N)
    (hf : Cond.fieldLink (sk_own M) idx (T j).1 (T j).2.1 (T j).2.2.1 ∈ sk_ts) (hfin : (T j).2.2.2 = false ∨ ((T j).2.2.2 = true ∧ (sk_y M).name = "<init>" ∧ (T j).1 = sk_own M)) (hd : parseFieldDescriptor (T j).2.2.1 = some ty) (hk : sk_kd ci j = 0) (hn : narrow ty (.int v) = .int v) (hfit : fits ty (.int v) = true)
    (h : sk_W Γ M mc ms (pc + 3) L S g (sk_set I q (upd (I q) j v)) J kc kn Q) : sk_W Γ M mc ms pc L (.int v :: .ref q :: S) g I J kc kn Q := by
  refine sk_putf d ho hc hj hf hfin hd hn hfit rfl rfl (fun i hi => ?_) (fun _ _ => rfl) (fun a ha => sk_set_ne _ _ ha) (fun _ _ => rfl) h
  by_cases hij : i = j
  · subst hij
    simp [sk_fv, hk, sk_set, upd, sk_tr]
  · rw [if_neg hij]
    simp only [sk_fv, sk_set_eq]
    rw [show upd (I q) j v i = I q i from if_neg hij]
theorem sk_putJ {q ci N j idx : Nat} {C : String} {T : u_T} {v : Int64} (d : decode (sk_cc M) pc = .ok (.putfield idx, 3)) (ho : g.2.1[q]? = some (0, ci, N)) (hc : sk_cl[ci]? = some (C, T, N)) (hj : j < N)
    (hf : Cond.fieldLink (sk_own M) idx (T j).1 (T j).2.1 (T j).2.2.1 ∈ sk_ts) (hfin : (T j).2.2.2 = false ∨ ((T j).2.2.2 = true ∧ (sk_y M).name = "<init>" ∧ (T j).1 = sk_own M)) (hd : parseFieldDescriptor (T j).2.2.1 = some .long) (hk : sk_kd ci j = 1)
    (h : sk_W Γ M mc ms (pc + 3) L S g I (sk_set J q (vp_updL (J q) j v)) kc kn Q) : sk_W Γ M mc ms pc L (.long v :: .ref q :: S) g I J kc kn Q := by
  refine sk_putf d ho hc hj hf hfin hd rfl rfl rfl rfl (fun i hi => ?_) (fun _ _ => rfl) (fun _ _ => rfl) (fun a ha => sk_set_ne _ _ ha) h
  by_cases hij : i = j
  · subst hij
    simp [sk_fv, hk, sk_set, vp_updL, sk_tr]
  · rw [if_neg hij]
    simp only [sk_fv, sk_set_eq]
    rw [show vp_updL (J q) j v i = J q i from if_neg hij]
def sk_updR (f : Nat → Option Nat) (k : Nat) (x : Option Nat) : Nat → Option Nat := fun j => if j = k then x else f j
theorem sk_putR {q ci N j idx r : Nat} {C : String} {T : u_T} {ty : FieldType} (d : decode (sk_cc M) pc = .ok (.putfield idx, 3)) (ho : g.2.1[q]? = some (0, ci, N)) (hc : sk_cl[ci]? = some (C, T, N)) (hj : j < N)
    (hf : Cond.fieldLink (sk_own M) idx (T j).1 (T j).2.1 (T j).2.2.1 ∈ sk_ts) (hfin : (T j).2.2.2 = false ∨ ((T j).2.2.2 = true ∧ (sk_y M).name = "<init>" ∧ (T j).1 = sk_own M)) (hd : parseFieldDescriptor (T j).2.2.1 = some ty) (hk : sk_kd ci j = 2) (hn : ∀ a : Nat, narrow ty (.ref a) = .ref a) (hfit : ∀ a : Nat, fits ty (.ref a) = true)
    (h : sk_W Γ M mc ms (pc + 3) L S (g.1, g.2.1, sk_set g.2.2 q (sk_updR (g.2.2 q) j (some r))) I J kc kn Q) : sk_W Γ M mc ms pc L (.ref r :: .ref q :: S) g I J kc kn Q := by
  refine sk_putf (g' := (g.1, g.2.1, sk_set g.2.2 q (sk_updR (g.2.2 q) j (some r)))) d ho hc hj hf hfin hd (hn _) (hfit _) rfl rfl (fun i hi => ?_) (fun a ha => sk_set_ne _ _ ha) (fun _ _ => rfl) (fun _ _ => rfl) h
  by_cases hij : i = j
  · subst hij
    simp [sk_fv, hk, sk_set, sk_updR, sk_tr]
  · rw [if_neg hij]
    simp only [sk_fv, sk_set_eq]
    rw [show sk_updR (g.2.2 q) j (some r) i = g.2.2 q i from if_neg hij]
theorem sk_iald {q n z : Nat} {i : Int32} (d : decode (sk_cc M) pc = .ok (.iaload, 1)) (ho : g.2.1[q]? = some (1, n, z)) (hin : vp_in i n) (h : sk_W Γ M mc ms (pc + 1) L (.int (I q i.toNatClampNeg) :: S) g I J kc kn Q) : sk_W Γ M mc ms pc L (.int i :: .ref q :: S) g I J kc kn Q := by
  intro p e s m args below meth c H locs ls hC hH hS hl
  have he : (sk_ws Γ g I J)[q]? = some (sk_ad Γ q, .inl (sk_id Γ 0, n, .inl (I q))) := sk_wsAt Γ g I J ho
  exact va_iald hC.1 hC.2.1 hC.2.2.2.2.2.2.2.1.1 hH.1 q 0 he rfl hin d (h p e s m args below meth c H locs ls hC hH hS hl)
theorem sk_zald {q n z : Nat} {i : Int32} (d : decode (sk_cc M) pc = .ok (.baload, 1)) (ho : g.2.1[q]? = some (2, n, z)) (hin : vp_in i n) (h : sk_W Γ M mc ms (pc + 1) L (.int (I q i.toNatClampNeg) :: S) g I J kc kn Q) : sk_W Γ M mc ms pc L (.int i :: .ref q :: S) g I J kc kn Q := by
  intro p e s m args below meth c H locs ls hC hH hS hl
  have he : (sk_ws Γ g I J)[q]? = some (sk_ad Γ q, .inl (sk_id Γ 1, n, .inl (I q))) := sk_wsAt Γ g I J ho
  exact va_zald hC.1 hC.2.1 hC.2.2.2.2.2.2.2.1.1 hH.1 q 1 he rfl hin d (h p e s m args below meth c H locs ls hC hH hS hl)
theorem sk_lald {q n z : Nat} {i : Int32} (d : decode (sk_cc M) pc = .ok (.laload, 1)) (ho : g.2.1[q]? = some (3, n, z)) (hin : vp_in i n) (h : sk_W Γ M mc ms (pc + 1) L (.long (J q i.toNatClampNeg) :: S) g I J kc kn Q) : sk_W Γ M mc ms pc L (.int i :: .ref q :: S) g I J kc kn Q := by
  intro p e s m args below meth c H locs ls hC hH hS hl
  have he : (sk_ws Γ g I J)[q]? = some (sk_ad Γ q, .inl (sk_id Γ 2, n, .inr (.inl (J q)))) := sk_wsAt Γ g I J ho
  exact va_lald hC.1 hC.2.1 hC.2.2.2.2.2.2.2.1.1 hH.1 q 2 he rfl hin d (h p e s m args below meth c H locs ls hC hH hS hl)
theorem sk_iast {q n z : Nat} {i x : Int32} (d : decode (sk_cc M) pc = .ok (.iastore, 1)) (ho : g.2.1[q]? = some (1, n, z)) (hin : vp_in i n) (h : sk_W Γ M mc ms (pc + 1) L S g (sk_set I q (upd (I q) i.toNatClampNeg x)) J kc kn Q) : sk_W Γ M mc ms pc L (.int x :: .int i :: .ref q :: S) g I J kc kn Q := by
  intro p e s m args below meth c H locs ls hC hH hS hl
  have he : (sk_ws Γ g I J)[q]? = some (sk_ad Γ q, .inl (sk_id Γ 0, n, .inl (I q))) := sk_wsAt Γ g I J ho
  refine W.iast hC.1 hC.2.1 (hH.1 q _ he) ((hC.2.2.2.2.2.2.2.1.1.2 0 _ rfl).1 n (fun j => .int (I q j))) (fun q => by cases q) (by show ¬ (i < 0 ∨ (arrV _ _ _).slots.size ≤ _); rw [arrV_size]; exact hin) rfl rfl d fun H1 e1 z1 oq => ?_
  have hat : va_at (sk_D Γ) sk_cl (sk_ad Γ q, sk_cell Γ g.2.2 (sk_set I q (upd (I q) i.toNatClampNeg x)) J q (1, n, z)) H1 := by
    show H1[sk_ad Γ q]? = some (vp_cell _ (n, .inl (sk_set I q (upd (I q) i.toNatClampNeg x) q)))
    rw [e1, sk_set_eq]
    rw [vp_cell_i, vp_cell_i, arrV_store]
    congr 2
    funext y
    by_cases hq : y = i.toNatClampNeg
    · subst hq
      simp [updV, upd]
    · simp [updV, upd, hq]
  obtain ⟨h5, h6⟩ := sk_stored (g' := g) (J' := J) (j := i.toNatClampNeg) hC.2.2.2.2.2.2.2.1 hH hS ho hat z1 oq rfl rfl (fun _ _ => rfl) (fun a ha => sk_set_ne _ _ ha) (fun _ _ => rfl)
  exact h p e s m args below meth c H1 _ ls hC h5 h6 hl
theorem sk_zast {q n z : Nat} {i x : Int32} (d : decode (sk_cc M) pc = .ok (.bastore, 1)) (ho : g.2.1[q]? = some (2, n, z)) (hin : vp_in i n) (hx : vp_nar .boolean x = x) (h : sk_W Γ M mc ms (pc + 1) L S g (sk_set I q (upd (I q) i.toNatClampNeg x)) J kc kn Q) : sk_W Γ M mc ms pc L (.int x :: .int i :: .ref q :: S) g I J kc kn Q := by
  intro p e s m args below meth c H locs ls hC hH hS hl
  have he : (sk_ws Γ g I J)[q]? = some (sk_ad Γ q, .inl (sk_id Γ 1, n, .inl (I q))) := sk_wsAt Γ g I J ho
  refine W.zast hC.1 hC.2.1 (hH.1 q _ he) ((hC.2.2.2.2.2.2.2.1.1.2 1 _ rfl).1 n (fun j => .int (I q j))) (fun q => by cases q) (by show ¬ (i < 0 ∨ (arrV _ _ _).slots.size ≤ _); rw [arrV_size]; exact hin) rfl rfl d fun H1 e1 z1 oq => ?_
  have hat : va_at (sk_D Γ) sk_cl (sk_ad Γ q, sk_cell Γ g.2.2 (sk_set I q (upd (I q) i.toNatClampNeg x)) J q (2, n, z)) H1 := by
    show H1[sk_ad Γ q]? = some (vp_cell _ (n, .inl (sk_set I q (upd (I q) i.toNatClampNeg x) q)))
    rw [e1, sk_set_eq]
    rw [vp_cell_i, vp_cell_i, arrV_store]
    congr 2
    funext y
    by_cases hq : y = i.toNatClampNeg
    · subst hq
      have hx' : narrow .boolean (.int x) = .int x := by
        have h9 : ∀ v : Value, narrow .boolean (.int x) = v → (∃ y, v = .int y) → v = .int x := by
          intro v hv ⟨y, hy⟩
          unfold vp_nar at hx
          rw [hv, hy] at hx
          rw [hy]; exact congrArg Value.int hx
        exact h9 _ rfl ⟨_, rfl⟩
      simp [updV, upd, hx']
    · simp [updV, upd, hq]
  obtain ⟨h5, h6⟩ := sk_stored (g' := g) (J' := J) (j := i.toNatClampNeg) hC.2.2.2.2.2.2.2.1 hH hS ho hat z1 oq rfl rfl (fun _ _ => rfl) (fun a ha => sk_set_ne _ _ ha) (fun _ _ => rfl)
  exact h p e s m args below meth c H1 _ ls hC h5 h6 hl
theorem sk_last {q n z : Nat} {i : Int32} {x : Int64} (d : decode (sk_cc M) pc = .ok (.lastore, 1)) (ho : g.2.1[q]? = some (3, n, z)) (hin : vp_in i n) (h : sk_W Γ M mc ms (pc + 1) L S g I (sk_set J q (vp_updL (J q) i.toNatClampNeg x)) kc kn Q) : sk_W Γ M mc ms pc L (.long x :: .int i :: .ref q :: S) g I J kc kn Q := by
  intro p e s m args below meth c H locs ls hC hH hS hl
  have he : (sk_ws Γ g I J)[q]? = some (sk_ad Γ q, .inl (sk_id Γ 2, n, .inr (.inl (J q)))) := sk_wsAt Γ g I J ho
  refine W.last hC.1 hC.2.1 (hH.1 q _ he) ((hC.2.2.2.2.2.2.2.1.1.2 2 _ rfl).1 n (fun j => .long (J q j))) (fun q => by cases q) (by show ¬ (i < 0 ∨ (arrV _ _ _).slots.size ≤ _); rw [arrV_size]; exact hin) rfl rfl d fun H1 e1 z1 oq => ?_
  have hat : va_at (sk_D Γ) sk_cl (sk_ad Γ q, sk_cell Γ g.2.2 I (sk_set J q (vp_updL (J q) i.toNatClampNeg x)) q (3, n, z)) H1 := by
    show H1[sk_ad Γ q]? = some (vp_cell _ (n, .inr (.inl (sk_set J q (vp_updL (J q) i.toNatClampNeg x) q))))
    rw [e1, sk_set_eq]
    rw [vp_cell_l, vp_cell_l, arrV_store]
    congr 2
    funext y
    by_cases hq : y = i.toNatClampNeg
    · subst hq
      simp [updV, vp_updL]
    · simp [updV, vp_updL, hq]
  obtain ⟨h5, h6⟩ := sk_stored (g' := g) (I' := I) (j := i.toNatClampNeg) hC.2.2.2.2.2.2.2.1 hH hS ho hat z1 oq rfl rfl (fun _ _ => rfl) (fun _ _ => rfl) (fun a ha => sk_set_ne _ _ ha)
  exact h p e s m args below meth c H1 _ ls hC h5 h6 hl
/-- the script -/
theorem sk_sald {i : Int32} (d : decode (sk_cc M) pc = .ok (.iaload, 1)) (hin : vp_in i (sk_len Γ)) (h : sk_W Γ M mc ms (pc + 1) L (.int (sk_xs Γ i.toNatClampNeg) :: S) g I J kc kn Q) : sk_W Γ M mc ms pc L (.int i :: .ref sk_scr :: S) g I J kc kn Q := by
  intro p e s m args below meth c H locs ls hC hH hS hl
  have hX := hC.2.2.2.2.2.2.2.1.2.2.2.2.2.2.2.1
  have hlt := hC.2.2.2.2.2.2.2.1.2.2.2.2.2.2.2.2.1
  exact va_sld hC.1 hC.2.1 hX (Nat.lt_of_lt_of_le hlt hC.2.2.2.2.2.2.2.2.2.2) (fun z => by unfold sk_A at z; omega) hS hin d (h p e s m args below meth c H locs ls hC hH hS hl)
theorem sk_slen (d : decode (sk_cc M) pc = .ok (.arraylength, 1)) (h : sk_W Γ M mc ms (pc + 1) L (.int (Int32.ofNat (sk_len Γ)) :: S) g I J kc kn Q) : sk_W Γ M mc ms pc L (.ref sk_scr :: S) g I J kc kn Q := by
  intro p e s m args below meth c H locs ls hC hH hS hl
  have hX := hC.2.2.2.2.2.2.2.1.2.2.2.2.2.2.2.1
  have hlt := hC.2.2.2.2.2.2.2.1.2.2.2.2.2.2.2.2.1
  exact va_slen hC.1 hC.2.1 hX (Nat.lt_of_lt_of_le hlt hC.2.2.2.2.2.2.2.2.2.2) (fun z => by unfold sk_A at z; omega) hS d (h p e s m args below meth c H locs ls hC hH hS hl)
/-- the static table -/
theorem sk_gets {idx : Nat} {host : String} (d : decode (sk_cc M) pc = .ok (.getstatic idx, 3)) (hf : Cond.fieldLinkNest (sk_own M) idx "StuckLines" "SOURCE_IN_VECTORS" "[J" host ∈ sk_nw) (h : sk_W Γ M mc ms (pc + 3) L (.ref sk_sta :: S) g I J kc kn Q) : sk_W Γ M mc ms pc L S g I J kc kn Q := by
  intro p e s m args below meth c H locs ls hC hH hS hl
  exact va_getsN hC.1 hC.2.1 hC.2.2.2.2.2.2.2.1.2.2.1 hS hC.2.2.2.2.2.1 (va_Nw.use rfl (hC.2.2.2.2.2.2.2.1.2.1 _ hf)) (fun _ h9 => h9) d (h p e s m args below meth c H locs ls hC hH hS hl)
theorem sk_tald {i : Int32} (d : decode (sk_cc M) pc = .ok (.laload, 1)) (hin : vp_in i 6) (h : sk_W Γ M mc ms (pc + 1) L (.long (sk_siv i.toNatClampNeg) :: S) g I J kc kn Q) : sk_W Γ M mc ms pc L (.int i :: .ref sk_sta :: S) g I J kc kn Q := by
  intro p e s m args below meth c H locs ls hC hH hS hl
  exact va_tl (v := .long (sk_siv i.toNatClampNeg)) hC.1 hC.2.1 hC.2.2.2.2.2.2.2.1.2.2.2.1 hS hin rfl d (h p e s m args below meth c H locs ls hC hH hS hl)
end SKH
end
section
/-! ends, calls, throws -/
section SKC
variable {Γ : sk_T} {M : sk_M} {mc ms pc : Nat} {L : List (Nat × Value)} {S : List Value} {g : sk_G} {I : sk_I} {J : sk_J} {kc kn : Nat} {Q : sk_Q}
theorem sk_retW {p : Program} {e : Env} {R : Room} {s : State} {m : MethodId} {args : Array Value} {below : List Frame} {meth : Method} {c : Code} {H : Heap} {locs : List Loc} {f : JFrame} (k : W p (sk_l Γ) e R s m args below meth c H locs mc ms (MQ below (sk_Qr Γ Q) args s mc ms (sk_A Γ)) f) : W p (sk_l Γ) e R s m args below meth c H locs mc ms (sk_Fin Γ Q mc ms below args s) f := by
  intro T hT X
  obtain ⟨t, a1, o, b1, b2, b3, b4⟩ := k T hT X
  exact ⟨t, a1, o, b1, b2, Or.inl ⟨b3, b4⟩⟩
theorem sk_ireturn {v : Int32} (d : decode (sk_cc M) pc = .ok (.ireturn, 1)) (hr : sk_ret M = some .int) (hk : kc ≤ mc) (hn : kn ≤ ms) (hq : Q (.inl (some (.int v))) g I J) : sk_W Γ M mc ms pc L [.int v] g I J kc kn Q := by
  intro p e s m args below meth c H locs ls hC hH hS hl
  refine W.widen hk hn (sk_retW ?_)
  exact W.iret hC.1 hC.2.1 (hC.2.2.2.1.trans hr) (fun t ht hW => ⟨some (.int v), g, I, J, rfl, hq, by rw [ht]; exact hH, hS.F ht⟩) hS.2.2 d hC.2.2.2.2.1
theorem sk_zreturn {v : Int32} (d : decode (sk_cc M) pc = .ok (.ireturn, 1)) (hr : sk_ret M = some .boolean) (hv : narrow .boolean (.int v) = .int v) (hk : kc ≤ mc) (hn : kn ≤ ms) (hq : Q (.inl (some (.int v))) g I J) : sk_W Γ M mc ms pc L [.int v] g I J kc kn Q := by
  intro p e s m args below meth c H locs ls hC hH hS hl
  refine W.widen hk hn (sk_retW ?_)
  exact W.zret hC.1 hC.2.1 (hC.2.2.2.1.trans hr) hv (fun t ht hW => ⟨some (.int v), g, I, J, rfl, hq, by rw [ht]; exact hH, hS.F ht⟩) hS.2.2 d hC.2.2.2.2.1
theorem sk_lreturn {v : Int64} (d : decode (sk_cc M) pc = .ok (.lreturn, 1)) (hr : sk_ret M = some .long) (hk : kc ≤ mc) (hn : kn ≤ ms) (hq : Q (.inl (some (.long v))) g I J) : sk_W Γ M mc ms pc L [.long v] g I J kc kn Q := by
  intro p e s m args below meth c H locs ls hC hH hS hl
  refine W.widen hk hn (sk_retW ?_)
  exact W.lret hC.1 hC.2.1 (hC.2.2.2.1.trans hr) (fun t ht hW => ⟨some (.long v), g, I, J, rfl, hq, by rw [ht]; exact hH, hS.F ht⟩) hS.2.2 d hC.2.2.2.2.1
theorem sk_vreturn (d : decode (sk_cc M) pc = .ok (.return_, 1)) (hr : sk_ret M = none) (hk : kc ≤ mc) (hn : kn ≤ ms) (hq : Q (.inl none) g I J) : sk_W Γ M mc ms pc L [] g I J kc kn Q := by
  intro p e s m args below meth c H locs ls hC hH hS hl
  refine W.widen hk hn (sk_retW ?_)
  exact W.vret hC.1 hC.2.1 (hC.2.2.2.1.trans hr) (fun t ht hW => ⟨none, g, I, J, rfl, hq, by rw [ht]; exact hH, hS.F ht⟩) hS.2.2 d hC.2.2.2.2.1
/-- a body gives the contract -/
theorem sk_spec {as : List Value} (hy : plainName (sk_y M).cls = true) (hown : (sk_y M).cls = sk_own M) (hn : (lg_sl as).length ≤ sk_nl M) (h : sk_W Γ M mc ms 0 (lv_args 0 as) [] g I J 0 0 Q) : sk_S Γ M mc ms as g I J Q := by
  have his : ∀ (args : Array Value) (s : State) (m : MethodId), (headSpec (sk_head M :: sk_ts) (sk_rm M mc ms)).pre.before args s = true → s.methodNamed? (sk_y M) = some m →
      ∃ meth c, s.vm.method? m = some meth ∧ meth.code = some c ∧ c.code = sk_cc M ∧ c.maxLocals = sk_nl M ∧ meth.sig.returnType = sk_ret M ∧ meth.locks = false ∧ c.exceptionTable.toList = tableOf (sk_tab M) := by
    intro args s m h hn
    have hh := atoms_spec (ws := sk_head M :: sk_ts) h _ List.mem_cons_self
    by_cases ht : sk_tab M = []
    · rw [sk_head, if_pos ht] at hh
      obtain ⟨meth, c, h1, h2, h3, h4, h5, h6, h7, -⟩ := Cond.code_spec hn hh
      exact ⟨meth, c, h1, h2, h3, h4, h5, h6, by rw [ht, Array.isEmpty_iff.mp h7]; rfl⟩
    · rw [sk_head, if_neg ht] at hh
      obtain ⟨m9, meth, c, hn9, h1, h2, h3, h4, h7, h5, h6, -⟩ := Cond.codeWith_spec hh
      cases hn.symm.trans hn9
      exact ⟨meth, c, h1, h2, h3, h4, h5, h6, by rw [← h7, table_eq]⟩
  refine MetFree.of_bodyS (code := sk_cc M) (maxLocals := sk_nl M) (ret := sk_ret M) hy (fun args s m h hn => ?_) ?_
  · obtain ⟨meth, c, h1, h2, h3, h4, h5, h6, -⟩ := his args s m h hn
    exact ⟨meth, c, h1, h2, h3, h4, h5, h6⟩
  · intro p e s m args below meth c s₁ B hml hv _
    obtain ⟨rfl, hw⟩ := hv
    have hts := atoms_spec (ws := sk_head M :: sk_ts) B.pre
    have X0 : Stand p (sk_l Γ) e (sk_rm M mc ms) s m ((as.map (sk_tr Γ)).toArray) below meth c s₁ [] 0 0 := Stand.of_body B
    have htab : c.exceptionTable.toList = tableOf (sk_tab M) := by
      obtain ⟨meth9, c9, h1, h2, -, -, -, -, h7⟩ := his _ s m B.pre B.named
      cases Option.some.inj (h1.symm.trans B.method)
      cases Option.some.inj (h2.symm.trans X0.code)
      exact h7
    have hC : sk_cx Γ M p s m ((as.map (sk_tr Γ)).toArray) meth c := ⟨B.exec, B.bytes, hml, B.returns, B.notSynchronized, hown ▸ findClass_of_methodNamed B.named, fun w h => hts w (List.mem_cons_of_mem _ h), hw.2, htab, (name_of_methodNamed B.named B.method).1, hw.1.2.1⟩
    have hl := lv_entry (as.map (sk_tr Γ)) (n := sk_nl M) (by rw [sk_sl]; exact hn)
    have hh0 : s₁.heap = s.heap := by rw [B.state]; rfl
    have K := h p e s m _ below meth c s.heap [] _ hC hw.1 va_S.rf (by rw [← sk_args]; exact hl)
    obtain ⟨t, a1, o, b1, b2, b3⟩ := K s₁ hh0 X0
    rw [lg_entry_eq]
    exact ⟨t, o, a1, b1, b2, b3⟩
theorem sk_goodIn {ws : List Cond} (h : ∀ w ∈ ws, w ∈ sk_ts) : GoodIn sk_ts ws := fun w hw => ⟨h w hw, good_of_word (sk_good w (h w hw))⟩
theorem sk_pay {s : State} {args : Array Value} (hts : ∀ w ∈ sk_ts, w.before args s = true) {w : Cond} (hw : w ∈ sk_ts) : ∀ (a' : Array Value) (U : State), s.WarmedH U.vm → w.before a' U = true := fun a' U hW => word_at hW (good_of_word (sk_good w hw)) (hts w hw)
/-- into a method and back, by its contract -/
theorem sk_back {M' : sk_M} {mc' ms' : Nat} {as : List Value} {Q' : sk_Q} {p : Program} {e : Env} {R : Room} {s T : State} {m mk : MethodId} {args : Array Value} {below : List Frame} {meth : Method} {c : Code} {locs : List Loc} {f : JFrame} {ig : Instr}
    (X : Stand p (sk_l Γ) e R s m args below meth c T locs kc kn) (hg : f.method = m) (hsize : f.locals.size = c.maxLocals) (hdg : decode c.code f.pc = .ok (ig, 3)) (hW : 2 * f.monitorRoom + (f.stack.map fun v => v.category).sum ≤ 8) (hn : T.methodNamed? (sk_y M') = some mk)
    (hM : sk_S Γ M' mc' ms' as g I J Q') (hws : ∀ w ∈ sk_head M' :: sk_ts, ∀ (a' : Array Value) (U : State), s.WarmedH U.vm → w.before a' U = true) (hini : ∀ (a' : Array Value) (U : State), s.WarmedH U.vm → (Cond.initialized (sk_y M').cls).before a' U = true)
    (hfr : sk_fr M' + 1 ≤ R.frames) (hlo : 8 + (sk_nl M' + 11) + sk_lo M' ≤ R.locals) (hc : kc + mc' ≤ R.cells) (hs : kn + ms' ≤ R.slots) (hw : sk_world Γ g I J T) :
    (∃ (r : Option Value) (g' : sk_G) (I' : sk_I) (J' : sk_J) (T' : State) (L' : List Loc), Stand p (sk_l Γ) e R s m args below meth c T' (locs ++ L') (kc + mc') (kn + ms') ∧ (∀ z ∈ L', sk_A Γ z.base) ∧ sk_hp Γ g' I' J' T'.heap ∧ va_F (sk_A Γ) T T' ∧ Q' (.inl r) g' I' J' ∧
      Steps p.tables e below (doInvoke e (T.setTop f) [] mk (as.map (sk_tr Γ)).toArray).1 (T'.setTop { f with pc := f.pc + 3, stack := (r.map (sk_tr Γ)).toList ++ f.stack })) ∨
    (∃ (q : Addr) (E : String) (ce : Cell) (g' : sk_G) (I' : sk_I) (J' : sk_J) (T' : State) (L' : List Loc), Stand p (sk_l Γ) e R s m args below meth c T' (locs ++ L') (kc + mc') (kn + ms') ∧ (∀ z ∈ L', sk_A Γ z.base) ∧ sk_hp Γ g' I' J' T'.heap ∧ va_F (sk_A Γ) T T' ∧ Q' (.inr E) g' I' J' ∧ T'.heap[q]? = some ce ∧ ce.vm = .none ∧ s.vm.findClass E = some ce.cls ∧
      Steps p.tables e below (doInvoke e (T.setTop f) [] mk (as.map (sk_tr Γ)).toArray).1 ((T'.setTop f).pushFrame (.throwing q))) := by
  generalize ha : (as.map (sk_tr Γ)).toArray = a
  have h1 : (headSpec (sk_head M' :: sk_ts) (sk_rm M' mc' ms')).pre.before a T = true := atoms_intro fun w hw => hws w hw _ _ X.warmed
  have h2 := hws _ List.mem_cons_self a T X.warmed
  have hPc : va_Pc (as.map (sk_tr Γ)) (sk_world Γ g I J) a (T.calling f mk a) := sk_blind Γ _ g I J _ _ _ _ ⟨ha.symm, hw⟩
  obtain ⟨methY, cY, hmY, hcY, hlY⟩ : ∃ methY cY, T.vm.method? mk = some methY ∧ methY.code = some cY ∧ cY.maxLocals = sk_nl M' := by
    by_cases ht : sk_tab M' = []
    · rw [sk_head, if_pos ht] at h2
      obtain ⟨methY, cY, q1, q2, -, q4, -⟩ := Cond.code_spec hn h2
      exact ⟨methY, cY, q1, q2, q4⟩
    · rw [sk_head, if_neg ht] at h2
      obtain ⟨m9, methY, cY, hn9, q1, q2, -, q4, -⟩ := Cond.codeWith_spec h2
      cases Option.some.inj (hn9.symm.trans hn)
      exact ⟨methY, cY, q1, q2, q4⟩
  obtain ⟨kY, hkY, -⟩ := className_of_methodNamed hn
  have hinitY : kY.init = .initialized := Cond.initialized_spec (findClass_of_methodNamed hn) hkY (hini a T X.warmed)
  have h : At T f.method c below := by rw [hg]; exact X.here
  have happ : (headSpec (sk_head M' :: sk_ts) (sk_rm M' mc' ms')).appliesLoose (sk_y M') e.platform (T.calling f mk a) = true :=
    Spec.appliesLoose_calling (g := f) h hdg hn hkY hinitY (X.room_calling (g := f) (R' := sk_rm M' mc' ms') hsize hmY hcY hfr (by rw [hlY]; show _ + _ + sk_lo M' ≤ _; omega) hc hs) h1
  obtain ⟨mid, hmid⟩ := h.above
  have hfrm : (T.setTop f).frames = (.java f :: mid) ++ below := by rw [State.frames_setTop' f h.top, hmid]; rfl
  obtain ⟨o, s₂, hsteps, -, hend, hq⟩ := Steps.callFree hM p X.admits X.cas X.clock (acts := []) hfrm happ hPc trivial
  have hq' : sk_End Γ Q' mc' ms' a (T.calling f mk a) o s₂ := hq
  rw [State.frames_setTop' f h.top] at hend
  obtain ⟨g₀, hg0⟩ := Option.isSome_iff_exists.mp h.top
  obtain ⟨r, hr⟩ := State.topJava?_eq_some.mp hg0
  have hr' : (({ T with heap := s₂.heap, slotsUsed := s₂.slotsUsed } : State).setVm s₂.vm).frames = .java g₀ :: r := hr
  have common : ∀ L9 : List Loc, (T.calling f mk a).WarmedH s₂.vm → (T.calling f mk a).sameButNew ({ s₂ with vm := (T.calling f mk a).vm } : State) L9 mc' ms' →
      Stand p (sk_l Γ) e R s m args below meth c (({ T with heap := s₂.heap, slotsUsed := s₂.slotsUsed } : State).setVm s₂.vm) (locs ++ L9) (kc + mc') (kn + ms') ∧
      s₂ = ({ (T.calling f mk a).setFrames s₂.frames with heap := s₂.heap, slotsUsed := s₂.slotsUsed } : State).setVm s₂.vm := by
    intro L9 hW₂ hsm
    obtain ⟨e2, q2, q3, q4, q5, q6⟩ := hsm
    have hW' : T.WarmedH s₂.vm := hW₂
    have hsame : T.sameButNew ({ T with heap := s₂.heap, slotsUsed := s₂.slotsUsed } : State) L9 mc' ms' := by
      refine ⟨?_, q2, q3, q4, q5, q6⟩
      obtain ⟨t, ht, -⟩ := State.frames_cons hr
      show ({ T with heap := s₂.heap, slotsUsed := s₂.slotsUsed } : State) = { T.setFrames T.frames with heap := s₂.heap, slotsUsed := s₂.slotsUsed }
      rw [State.setFrames_self ht]
    refine ⟨⟨X.admits, X.cas, X.clock, X.frames, X.room, X.hears, X.method, X.code, (X.here.setHeapUsed s₂.heap s₂.slotsUsed).setVm hW'.alike, X.tail, State.WarmedH.trans X.warmed hW', X.limits, X.bytes, X.same.trans (hsame.setVm s.vm)⟩, ?_⟩
    have : s₂ = ({ s₂ with vm := (T.calling f mk a).vm } : State).setVm s₂.vm := rfl
    rw [e2] at this
    exact this
  rcases hq' with ⟨⟨v, g', I', J', rfl, hQ, hH, hF⟩, L9, ⟨-, hW₂, hsm⟩, hL⟩ | ⟨q, E, ce, g', I', J', L9, rfl, hQ, hH, hF, hce, hcv, hcl, hW₂, hsm, hL⟩
  · obtain ⟨XN, e3⟩ := common L9 hW₂ hsm
    obtain ⟨c₂, i₂, len₂, hc₂, hd₂, hf₂⟩ := hend
    have hW' : T.WarmedH s₂.vm := hW₂
    have hcc : c₂ = c := by
      have h1 : s₂.code? f.method = T.code? f.method := by
        rw [State.code?_eq, State.code?_eq, hW'.alike.method?]
      exact Option.some.inj (hc₂.symm.trans (h1.trans h.code))
    subst hcc
    have hlen : len₂ = 3 := by rw [hdg] at hd₂; cases hd₂; rfl
    subst hlen
    have hs₂ : s₂ = (({ T with heap := s₂.heap, slotsUsed := s₂.slotsUsed } : State).setVm s₂.vm).setTop { f with pc := f.pc + 3, stack := (v.map (sk_tr Γ)).toList ++ f.stack } := by
      refine e3.trans ?_
      rw [hf₂, State.calling_eq h.top, State.setFrames_setFrames, State.setTop_of_frames _ hr', hr]
      rfl
    refine Or.inl ⟨v, g', I', J', _, L9, XN, hL, hH, hF, hQ, ?_⟩
    rw [← hs₂]
    exact hsteps
  · obtain ⟨XN, e3⟩ := common L9 hW₂ hsm
    have hf₂ : s₂.frames = .throwing q :: .java f :: T.frames.tail := hend
    have hs₂ : s₂ = ((({ T with heap := s₂.heap, slotsUsed := s₂.slotsUsed } : State).setVm s₂.vm).setTop f).pushFrame (.throwing q) := by
      refine e3.trans ?_
      rw [hf₂, State.calling_eq h.top, State.setFrames_setFrames, State.pushFrame, State.frames_setTop _ hr', State.setTop_of_frames _ hr', State.setFrames_setFrames, hr]
      rfl
    have hcl' : s.vm.findClass E = some ce.cls := by
      have h9 : T.vm.findClass E = some ce.cls := hcl
      rw [X.warmed.alike.findClass] at h9
      exact h9
    refine Or.inr ⟨q, E, ce, g', I', J', _, L9, XN, hL, hH, hF, hQ, hce, hcv, hcl', ?_⟩
    rw [← hs₂]
    exact hsteps
end SKC
end
section
/-! calls -/
section SKD
variable {Γ : sk_T} {M : sk_M} {mc ms pc : Nat} {L : List (Nat × Value)} {S : List Value} {g : sk_G} {I : sk_I} {J : sk_J} {kc kn : Nat} {Q : sk_Q}
theorem sk_sumCat (Γ : sk_T) (S : List Value) : ((S.map (sk_tr Γ)).map fun v => v.category).sum = (S.map fun v => v.category).sum := by
  rw [List.map_map]
  congr 1
  apply List.map_congr_left
  intro v _
  exact sk_tr_cat Γ v
/-- the words of a callee hold wherever the caller's do -/
theorem sk_wsOf {M' : sk_M} {s : State} {args : Array Value} (hts : ∀ w ∈ sk_ts, w.before args s = true) (hh : sk_head M' ∈ sk_ts) : ∀ w ∈ sk_head M' :: sk_ts, ∀ (a' : Array Value) (U : State), s.WarmedH U.vm → w.before a' U = true := by
  intro w hw
  rcases List.mem_cons.mp hw with rfl | hw
  · exact sk_pay hts hh
  · exact sk_pay hts hw
/-- what comes behind a call -/
theorem sk_after {M' : sk_M} {mc' ms' : Nat} {as : List Value} {Q' : sk_Q} {p : Program} {e : Env} {s T T₁ : State} {m mk : MethodId} {args : Array Value} {below : List Frame} {meth : Method} {c : Code} {locs : List Loc} {ls : Array Slot} {f0 : JFrame} {ig : Instr}
    (hC : sk_cx Γ M p s m args meth c) (hl : lv_has ls (sk_nl M) (sk_trL Γ L)) (hH : sk_hp Γ g I J T₁.heap) (hS : va_S (sk_A Γ) s.heap T₁.heap locs) (X : Stand p (sk_l Γ) e (sk_rm M mc ms) s m args below meth c T₁ locs kc kn)
    (hdg : decode c.code pc = .ok (ig, 3)) (hcat : (S.map fun v => v.category).sum ≤ 8) (hn : T₁.methodNamed? (sk_y M') = some mk) (hh : sk_head M' ∈ sk_ts) (hini : Cond.initialized (sk_y M').cls ∈ sk_ts)
    (hR : sk_fr M' + 1 ≤ sk_fr M ∧ 8 + (sk_nl M' + 11) + sk_lo M' ≤ sk_lo M) (hf : kc + mc' ≤ mc ∧ kn + ms' ≤ ms) (hs : sk_S Γ M' mc' ms' as g I J Q')
    (hst : ∀ t, Steps p.tables e below (doInvoke e (T₁.setTop (F0 m pc ls (S.map (sk_tr Γ)))) [] mk (as.map (sk_tr Γ)).toArray).1 t → Steps p.tables e below (T.setTop f0) t)
    (kk : ∀ (r : Option Value) (g' : sk_G) (I' : sk_I) (J' : sk_J), Q' (.inl r) g' I' J' → sk_W Γ M mc ms (pc + 3) L (r.toList ++ S) g' I' J' (kc + mc') (kn + ms') Q)
    (kx : ∀ (E : String) (g' : sk_G) (I' : sk_I) (J' : sk_J), Q' (.inr E) g' I' J' → sk_X Γ M mc ms pc L E g' I' J' (kc + mc') (kn + ms') Q) :
    ∃ t, Steps p.tables e below (T.setTop f0) t ∧ sk_Fin Γ Q mc ms below args s t := by
  have hts := hC.2.2.2.2.2.2.1
  have keep : ∀ (T' : State) (L' : List Loc), va_F (sk_A Γ) T₁ T' → (∀ z ∈ L', sk_A Γ z.base) → va_S (sk_A Γ) s.heap T'.heap (locs ++ L') := fun T' L' hF hL =>
    ⟨Nat.le_trans hS.1 hF.1, fun q h1 h2 => (hF.2 q (Nat.lt_of_lt_of_le h1 hS.1) h2).trans (hS.2.1 q h1 h2), fun q hq => (List.mem_append.mp hq).elim (hS.2.2 q) (hL q)⟩
  have hroom : 2 * (F0 m pc ls (S.map (sk_tr Γ))).monitorRoom + ((F0 m pc ls (S.map (sk_tr Γ))).stack.map fun v => v.category).sum ≤ 8 := lv_room (by rw [sk_sumCat]; exact hcat)
  rcases sk_back X (f := F0 m pc ls (S.map (sk_tr Γ))) rfl (hl.1.trans hC.2.2.1.symm) hdg hroom hn hs (sk_wsOf hts hh) (sk_pay hts hini) hR.1 hR.2 hf.1 hf.2 ⟨hH, sk_move hC.2.2.2.2.2.2.2.1 hS.2.1 X.warmed⟩ with ⟨r, g', I', J', T', L', XN, hL, hH', hF, hQ, st⟩ | ⟨q, E, ce, g', I', J', T', L', XN, hL, hH', hF, hQ, hce, hcv, hcl, st⟩
  · obtain ⟨t2, a1, b1⟩ := kk r g' I' J' hQ p e s m args below meth c T'.heap (locs ++ L') ls hC hH' (keep T' L' hF hL) hl T' rfl XN
    refine ⟨t2, hst t2 (st.trans ?_), b1⟩
    have e9 : (r.toList ++ S).map (sk_tr Γ) = (r.map (sk_tr Γ)).toList ++ S.map (sk_tr Γ) := by cases r <;> rfl
    rw [e9] at a1
    exact a1
  · obtain ⟨t2, a1, b1⟩ := kx E g' I' J' hQ p e s m args below meth c T' (locs ++ L') ls (S.map (sk_tr Γ)) q ce hC hH' (keep T' L' hF hL) hl hce hcv hcl XN
    exact ⟨t2, hst t2 (st.trans a1), b1⟩
theorem sk_callV {M' : sk_M} {mc' ms' : Nat} {Q' : sk_Q} {q ci N idx : Nat} {C : String} {T9 : u_T} {as S' : List Value} (d : decode (sk_cc M) pc = .ok (.invokevirtual idx, 3)) (ho : g.2.1[q]? = some (0, ci, N)) (hc : sk_cl[ci]? = some (C, T9, N))
    (h1 : Cond.methodLink (sk_own M) idx (sk_y M') ∈ sk_ts) (h2 : Cond.instanceMethod (sk_y M') ∈ sk_ts) (h3 : Cond.selects C (sk_y M') (sk_y M') ∈ sk_ts) (h4 : Cond.initialized (sk_y M').cls ∈ sk_ts) (h5 : Cond.code (sk_y M') (sk_cc M') (sk_nl M') (sk_ret M') ∈ sk_ts) (ht : sk_tab M' = [])
    (hd : (sk_y M').cls ≠ "java/lang/invoke/MethodHandle" ∧ (sk_y M').cls ≠ "java/lang/invoke/VarHandle" ∧ (parseMethodDescriptor (sk_y M').desc).map (fun d => d.parameters.length) = some as.length)
    (hR : sk_fr M' + 1 ≤ sk_fr M ∧ 8 + (sk_nl M' + 11) + sk_lo M' ≤ sk_lo M) (hf : kc + mc' ≤ mc ∧ kn + ms' ≤ ms) (hcat : (S.map fun v => v.category).sum ≤ 8) (hst : as.reverse ++ .ref q :: S = S')
    (hs : sk_S Γ M' mc' ms' (.ref q :: as) g I J Q') (kk : ∀ (r : Option Value) (g' : sk_G) (I' : sk_I) (J' : sk_J), Q' (.inl r) g' I' J' → sk_W Γ M mc ms (pc + 3) L (r.toList ++ S) g' I' J' (kc + mc') (kn + ms') Q)
    (kx : ∀ (E : String) (g' : sk_G) (I' : sk_I) (J' : sk_J), Q' (.inr E) g' I' J' → sk_X Γ M mc ms pc L E g' I' J' (kc + mc') (kn + ms') Q) : sk_W Γ M mc ms pc L S' g I J kc kn Q := by
  subst hst
  intro p e s m args below meth c H locs ls hC hH hS hl T hT X
  subst hT
  have hts := hC.2.2.2.2.2.2.1
  have he : (sk_ws Γ g I J)[q]? = some (sk_ad Γ q, .inr (ci, (List.range N).map (fun j => sk_fv Γ (sk_kd ci j) g.2.2 I J q j))) := sk_wsAt Γ g I J ho
  obtain ⟨cellB, hcB, hoB, hclB⟩ := va_recv hC.2.2.2.2.2.2.2.1.1 hH.1 hc he
  obtain ⟨mk, methM, hnamed, hmethM, hstM, habM⟩ := Cond.instanceMethod_spec (hts _ h2)
  obtain ⟨methM', cM, hmethM', -, -, -, -, -, -, hsigM⟩ := Cond.code_spec hnamed (hts _ h5)
  cases hmethM.symm.trans hmethM'
  obtain ⟨c2, r2, m2, q1, q2, q3, q4, kP, hkP, hkPi⟩ := Cond.selects_spec (hts _ h3)
  cases hclB.symm.trans q1
  cases (State.methodFound?_of_named hnamed ⟨hd.1, hd.2.1⟩).symm.trans q2
  cases hnamed.symm.trans q3
  have hselP : selectMethod e.platform s.vm cellB.cls mk = .method mk := by rw [Launch.admits_selectMethod X.admits]; exact q4
  have hlen : ((as.map (sk_tr Γ)).length = methM.sig.parameters.length) := by
    have h9 := hd.2.2
    rw [hsigM] at h9
    rw [List.length_map]
    exact (Option.some.inj h9).symm
  have hdg : decode c.code pc = .ok (.invokevirtual idx, 3) := by rw [hC.2.1]; exact d
  obtain ⟨vm₁, X₁, hstep₁⟩ := X.invokevirtual hC.1 hC.2.2.2.2.2.1 (hts _ h1) hnamed hmethM hstM hkP hkPi ⟨hd.1, hd.2.1⟩ (a := sk_ad Γ q) (cell := cellB) hcB
    (fun z h => by rw [h] at hoB; cases hoB) hselP hmethM habM hkP hkPi (g := F0 m pc ls ((as.reverse ++ .ref q :: S).map (sk_tr Γ))) rfl (argsL := as.map (sk_tr Γ)) (rest := S.map (sk_tr Γ)) hlen (by simp [sk_tr]) hdg
  exact sk_after (T₁ := T.setVm vm₁) (as := .ref q :: as) hC hl hH hS X₁ hdg hcat (X₁.named hnamed) (by rw [sk_head, if_pos ht]; exact h5) h4 hR hf hs (fun t h => hstep₁ _ fun acts => by rw [doInvoke_state]; exact h) kk kx
theorem sk_callS {M' : sk_M} {mc' ms' : Nat} {Q' : sk_Q} {idx : Nat} {as S' : List Value} (d : decode (sk_cc M) pc = .ok (.invokestatic idx, 3))
    (h1 : Cond.methodLink (sk_own M) idx (sk_y M') ∈ sk_ts) (h2 : Cond.static (sk_y M') ∈ sk_ts) (h4 : Cond.initialized (sk_y M').cls ∈ sk_ts) (h5 : sk_head M' ∈ sk_ts)
    (hd : (sk_y M').cls ≠ "java/lang/invoke/MethodHandle" ∧ (sk_y M').cls ≠ "java/lang/invoke/VarHandle" ∧ (parseMethodDescriptor (sk_y M').desc).map (fun d => d.parameters.length) = some as.length)
    (hR : sk_fr M' + 1 ≤ sk_fr M ∧ 8 + (sk_nl M' + 11) + sk_lo M' ≤ sk_lo M) (hf : kc + mc' ≤ mc ∧ kn + ms' ≤ ms) (hcat : (S.map fun v => v.category).sum ≤ 8) (hst : as.reverse ++ S = S')
    (hs : sk_S Γ M' mc' ms' as g I J Q') (kk : ∀ (r : Option Value) (g' : sk_G) (I' : sk_I) (J' : sk_J), Q' (.inl r) g' I' J' → sk_W Γ M mc ms (pc + 3) L (r.toList ++ S) g' I' J' (kc + mc') (kn + ms') Q)
    (kx : ∀ (E : String) (g' : sk_G) (I' : sk_I) (J' : sk_J), Q' (.inr E) g' I' J' → sk_X Γ M mc ms pc L E g' I' J' (kc + mc') (kn + ms') Q) : sk_W Γ M mc ms pc L S' g I J kc kn Q := by
  subst hst
  intro p e s m args below meth c H locs ls hC hH hS hl T hT X
  subst hT
  have hts := hC.2.2.2.2.2.2.1
  obtain ⟨mk, methM, hnamed, hmethM, hsigM⟩ : ∃ mk methM, s.methodNamed? (sk_y M') = some mk ∧ s.vm.method? mk = some methM ∧ parseMethodDescriptor (sk_y M').desc = some methM.sig := by
    have h9 := hts _ h5
    by_cases ht : sk_tab M' = []
    · rw [sk_head, if_pos ht] at h9
      obtain ⟨mk, hnamed⟩ := Cond.code_named h9
      obtain ⟨methM, cM, hmethM, -, -, -, -, -, -, hsigM⟩ := Cond.code_spec hnamed h9
      exact ⟨mk, methM, hnamed, hmethM, hsigM⟩
    · rw [sk_head, if_neg ht] at h9
      obtain ⟨mk, methM, cM, hnamed, hmethM, -, -, -, -, -, -, hsigM⟩ := Cond.codeWith_spec h9
      exact ⟨mk, methM, hnamed, hmethM, hsigM⟩
  have hstatic : methM.isStatic = true := Cond.static_spec hnamed hmethM (hts _ h2)
  obtain ⟨kP, hkP, -⟩ := className_of_methodNamed hnamed
  have hinitP : kP.init = .initialized := Cond.initialized_spec (findClass_of_methodNamed hnamed) hkP (hts _ h4)
  have hlen : ((as.map (sk_tr Γ)).length = methM.sig.parameters.length) := by
    have h9 := hd.2.2
    rw [hsigM] at h9
    rw [List.length_map]
    exact (Option.some.inj h9).symm
  have hdg : decode c.code pc = .ok (.invokestatic idx, 3) := by rw [hC.2.1]; exact d
  obtain ⟨vm₁, X₁, hstep₁⟩ := X.invokestatic hC.1 hC.2.2.2.2.2.1 (hts _ h1) hnamed hmethM hstatic hkP hinitP ⟨hd.1, hd.2.1⟩ (g := F0 m pc ls ((as.reverse ++ S).map (sk_tr Γ))) rfl (argsL := as.map (sk_tr Γ)) (rest := S.map (sk_tr Γ)) hlen (by simp) hdg
  exact sk_after (T₁ := T.setVm vm₁) (as := as) hC hl hH hS X₁ hdg hcat (X₁.named hnamed) h5 h4 hR hf hs (fun t h => hstep₁ _ fun acts => by rw [doInvoke_state]; exact h) kk kx
/-- a constructor -/
theorem sk_callI {M' : sk_M} {mc' ms' : Nat} {Q' : sk_Q} {q idx : Nat} {as S' : List Value} (d : decode (sk_cc M) pc = .ok (.invokespecial idx, 3))
    (h1 : Cond.methodLink (sk_own M) idx (sk_y M') ∈ sk_ts ∨ ∃ host : String, Cond.methodLinkNest (sk_own M) idx (sk_y M') host ∈ sk_nw) (h2 : Cond.instanceMethod (sk_y M') ∈ sk_ts) (h4 : Cond.initialized (sk_y M').cls ∈ sk_ts) (h5 : Cond.code (sk_y M') (sk_cc M') (sk_nl M') none ∈ sk_ts) (ht : sk_tab M' = []) (hret : sk_ret M' = none) (hnm : (sk_y M').name = "<init>")
    (hd : (sk_y M').cls ≠ "java/lang/invoke/MethodHandle" ∧ (sk_y M').cls ≠ "java/lang/invoke/VarHandle" ∧ (parseMethodDescriptor (sk_y M').desc).map (fun d => d.parameters.length) = some as.length)
    (hR : sk_fr M' + 1 ≤ sk_fr M ∧ 8 + (sk_nl M' + 11) + sk_lo M' ≤ sk_lo M) (hf : kc + mc' ≤ mc ∧ kn + ms' ≤ ms) (hcat : (S.map fun v => v.category).sum ≤ 8) (hst : as.reverse ++ .ref q :: S = S')
    (hs : sk_S Γ M' mc' ms' (.ref q :: as) g I J Q') (kk : ∀ (r : Option Value) (g' : sk_G) (I' : sk_I) (J' : sk_J), Q' (.inl r) g' I' J' → sk_W Γ M mc ms (pc + 3) L (r.toList ++ S) g' I' J' (kc + mc') (kn + ms') Q)
    (kx : ∀ (E : String) (g' : sk_G) (I' : sk_I) (J' : sk_J), Q' (.inr E) g' I' J' → sk_X Γ M mc ms pc L E g' I' J' (kc + mc') (kn + ms') Q) : sk_W Γ M mc ms pc L S' g I J kc kn Q := by
  subst hst
  intro p e s m args below meth c H locs ls hC hH hS hl T hT X
  subst hT
  have hts := hC.2.2.2.2.2.2.1
  have hpl : e.platform.magicAccessors = ({} : Platform).magicAccessors := by rw [X.admits.platform]
  have hlen : ∀ sig, parseMethodDescriptor (sk_y M').desc = some sig → (as.map (sk_tr Γ)).length = sig.parameters.length := by
    intro sig h
    have h9 := hd.2.2
    rw [h] at h9
    rw [List.length_map]
    exact (Option.some.inj h9).symm
  have hdg : decode c.code pc = .ok (.invokespecial idx, 3) := by rw [hC.2.1]; exact d
  have hh : sk_head M' ∈ sk_ts := by rw [sk_head, if_pos ht, hret]; exact h5
  rcases h1 with h1 | ⟨host, h1⟩
  · obtain ⟨mk, methM, cM, kP, vm₁, hnamed, hmethM, hcodeM, -, hlocalsM, -, hkP, -, hW₁, hstep₁⟩ := Steps.initColdArgs (e := e) X.here hC.1 X.warmed hpl hC.2.2.2.2.2.1 hnm ⟨hd.1, hd.2.1⟩ (hts _ h1) (hts _ h2) (hts _ h5) (f := F0 m pc ls ((as.reverse ++ .ref q :: S).map (sk_tr Γ))) (argsL := as.map (sk_tr Γ)) (a := sk_ad Γ q) (rest := S.map (sk_tr Γ)) rfl hlen (by simp [sk_tr]) hdg
    have X₁ := X.noted hW₁
    exact sk_after (T₁ := T.setVm vm₁) (as := .ref q :: as) hC hl hH hS X₁ hdg hcat (X₁.named hnamed) hh h4 hR hf hs (fun t h => hstep₁ _ fun acts => by rw [doInvoke_state]; exact h) kk kx
  · obtain ⟨mk, methM, cM, kP, vm₁, hnamed, hmethM, hcodeM, -, hlocalsM, -, hkP, -, hW₁, hstep₁⟩ := Steps.initColdArgsNest (e := e) X.here hC.1 X.warmed hpl hC.2.2.2.2.2.1 hnm ⟨hd.1, hd.2.1⟩ (va_Nw.use rfl (hC.2.2.2.2.2.2.2.1.2.1 _ h1)) (hts _ h2) (hts _ h5) (f := F0 m pc ls ((as.reverse ++ .ref q :: S).map (sk_tr Γ))) (argsL := as.map (sk_tr Γ)) (a := sk_ad Γ q) (rest := S.map (sk_tr Γ)) rfl hlen (by simp [sk_tr]) hdg
    have X₁ := X.noted hW₁
    exact sk_after (T₁ := T.setVm vm₁) (as := .ref q :: as) hC hl hH hS X₁ hdg hcat (X₁.named hnamed) hh h4 hR hf hs (fun t h => hstep₁ _ fun acts => by rw [doInvoke_state]; exact h) kk kx
/-- Object.<init> -/
theorem sk_objInit {q idx : Nat} (d : decode (sk_cc M) pc = .ok (.invokespecial idx, 3)) (h1 : Cond.methodLink (sk_own M) idx ⟨"java/lang/Object", "<init>", "()V"⟩ ∈ sk_ts) (h2 : Cond.instanceMethod ⟨"java/lang/Object", "<init>", "()V"⟩ ∈ sk_ts) (h3 : Cond.code ⟨"java/lang/Object", "<init>", "()V"⟩ ⟨#[0xb1]⟩ 1 none ∈ sk_ts)
    (hf : 1 ≤ sk_fr M) (hlo : 20 ≤ sk_lo M) (hcat : (S.map fun v => v.category).sum ≤ 8) (h : sk_W Γ M mc ms (pc + 3) L S g I J kc kn Q) : sk_W Γ M mc ms pc L (.ref q :: S) g I J kc kn Q := by
  intro p e s m args below meth c H locs ls hC hH hS hl
  have hts := hC.2.2.2.2.2.2.1
  have hroom : 2 * (F0 m pc ls (.ref (sk_ad Γ q) :: S.map (sk_tr Γ))).monitorRoom + ((S.map (sk_tr Γ)).map fun v => v.category).sum ≤ 8 := lv_room (by rw [sk_sumCat]; exact hcat)
  exact W.objInit hC.1 hC.2.1 hC.2.2.2.2.2.1 (hts _ h1) (hts _ h2) (hts _ h3) rfl (hl.1.trans hC.2.2.1.symm) rfl d hf (Nat.le_trans (Nat.add_le_add_right hroom 12) hlo) (h p e s m args below meth c H locs ls hC hH hS hl)
theorem sk_pushed {H H' : Heap} {s : State} {locs : List Loc} {sp : Nat × Nat × Nat} (hH : sk_hp Γ g I J H) (hS : va_S (sk_A Γ) s.heap H locs) (hx : g.1 = true) (hl : g.2.1.length < 900) (hat : va_at (sk_D Γ) sk_cl (sk_ad Γ g.2.1.length, sk_cell Γ g.2.2 I J g.2.1.length sp) H') (e2 : H'.size = H.size + 1) (e3 : ∀ x : Nat, x < H.size → H'[x]? = H[x]?) :
    sk_hp Γ (true, g.2.1 ++ [sp], g.2.2) I J H' ∧ va_S (sk_A Γ) s.heap H' locs := by
  have hz := hH.2.2.1 hx
  have hb := hH.2.1
  refine ⟨⟨?_, by rw [e2]; omega, fun _ => by rw [e2, hz, List.length_append]; rfl, by rw [List.length_append]; show _ + 1 < 1000; omega⟩, ⟨by rw [e2]; exact Nat.le_succ_of_le hS.1, fun x h1 h2 => (e3 x (Nat.lt_of_lt_of_le h1 hS.1)).trans (hS.2.1 x h1 h2), hS.2.2⟩⟩
  rw [sk_ws_push Γ g I J sp true]
  refine (hH.1.kept (fun k x hx9 => e3 x.1 ((hH.1 k x hx9).lt))).app (fun k x hk => ?_)
  have hk1 : k < 1 := (List.getElem?_eq_some_iff.mp hk).1
  rw [show k = 0 by omega] at hk
  cases hk
  exact hat
theorem sk_newa {t : Nat} {n : Int32} {N : Nat} {atype : ArrayType} (d : decode (sk_cc M) pc = .ok (.newarray atype, 2)) (hw : Cond.arrayClass (newarray.typeOf atype) ∈ sk_ts) (ht : (t = 1 ∧ newarray.typeOf atype = .int) ∨ (t = 2 ∧ newarray.typeOf atype = .boolean) ∨ (t = 3 ∧ newarray.typeOf atype = .long))
    (hn : ¬ n < 0) (hN : n.toNatClampNeg = N) (hb : N ≤ 65536) (hx : g.1 = true) (hlen : g.2.1.length < 900) (hI : ∀ j, I g.2.1.length j = 0) (hJ : ∀ j, J g.2.1.length j = 0) (hf : kc + 1 ≤ mc ∧ kn + N ≤ ms)
    (h : sk_W Γ M mc ms (pc + 2) L (.ref g.2.1.length :: S) (true, g.2.1 ++ [(t, N, 0)], g.2.2) I J (kc + 1) (kn + N) Q) : sk_W Γ M mc ms pc L (.int n :: S) g I J kc kn Q := by
  intro p e s m args below meth c H locs ls hC hH hS hl
  have hts := hC.2.2.2.2.2.2.1
  have hK := hC.2.2.2.2.2.2.2.1.1
  have had : sk_ad Γ g.2.1.length = H.size := by rw [hC.2.2.2.2.2.2.2.1.2.2.2.2.2.2.2.2.2.1 _ (by omega), hH.2.2.1 hx]
  have hbytes : N * componentBytes (newarray.typeOf atype) ≤ 536870912 := by
    have h8 : componentBytes (newarray.typeOf atype) ≤ 8 := by rcases ht with ⟨-, h⟩ | ⟨-, h⟩ | ⟨-, h⟩ <;> rw [h] <;> decide
    exact Nat.le_trans (Nat.mul_le_mul hb h8) (by decide)
  refine va_newaK hC.1 hC.2.1 (hts _ hw) rfl d rfl hn hN hbytes hf.1 hf.2 rfl fun H1 cA e1 z1 o1 hAr hNm => ?_
  have hat : va_at (sk_D Γ) sk_cl (sk_ad Γ g.2.1.length, sk_cell Γ g.2.2 I J g.2.1.length (t, N, 0)) H1 := by
    have zI : I g.2.1.length = fun _ => 0 := funext hI
    have zJ : J g.2.1.length = fun _ => 0 := funext hJ
    rcases ht with ⟨rfl, ht⟩ | ⟨rfl, ht⟩ | ⟨rfl, ht⟩
    · have hcA : cA = sk_id Γ 0 := by
        have h9 : s.vm.findClass ("[" ++ FieldType.int.toString) = some (sk_id Γ 0) := (hK.2 0 _ rfl).2
        rw [ht] at hNm
        exact Option.some.inj (hNm.symm.trans h9)
      show H1[sk_ad Γ g.2.1.length]? = some (vp_cell (sk_id Γ 0) (N, .inl (I g.2.1.length)))
      rw [had, e1, hcA, ht, zI]
      rfl
    · have hcA : cA = sk_id Γ 1 := by
        have h9 : s.vm.findClass ("[" ++ FieldType.boolean.toString) = some (sk_id Γ 1) := (hK.2 1 _ rfl).2
        rw [ht] at hNm
        exact Option.some.inj (hNm.symm.trans h9)
      show H1[sk_ad Γ g.2.1.length]? = some (vp_cell (sk_id Γ 1) (N, .inl (I g.2.1.length)))
      rw [had, e1, hcA, ht, zI]
      rfl
    · have hcA : cA = sk_id Γ 2 := by
        have h9 : s.vm.findClass ("[" ++ FieldType.long.toString) = some (sk_id Γ 2) := (hK.2 2 _ rfl).2
        rw [ht] at hNm
        exact Option.some.inj (hNm.symm.trans h9)
      show H1[sk_ad Γ g.2.1.length]? = some (vp_cell (sk_id Γ 2) (N, .inr (.inl (J g.2.1.length))))
      rw [had, e1, hcA, ht, zJ]
      rfl
  obtain ⟨h5, h6⟩ := sk_pushed hH hS hx hlen hat z1 o1
  have h7 := h p e s m args below meth c H1 locs ls hC h5 h6 hl
  have e9 : (Value.ref g.2.1.length :: S).map (sk_tr Γ) = Value.ref H.size :: S.map (sk_tr Γ) := by
    show Value.ref (sk_ad Γ g.2.1.length) :: _ = _
    rw [had]
  rw [e9] at h7
  exact h7
theorem sk_new {ci N idx : Nat} {C : String} {T : u_T} (d : decode (sk_cc M) pc = .ok (.new idx, 3)) (hc : sk_cl[ci]? = some (C, T, N)) (h1 : Cond.classLink (sk_own M) idx C ∈ sk_ts) (h2 : Cond.instantiable C N ∈ sk_ts) (h3 : Cond.initialized C ∈ sk_ts)
    (hx : g.1 = true) (hlen : g.2.1.length < 900) (hI : ∀ j, I g.2.1.length j = 0) (hJ : ∀ j, J g.2.1.length j = 0) (hR : ∀ j, g.2.2 g.2.1.length j = none) (hf : kc + 1 ≤ mc ∧ kn + N ≤ ms)
    (h : sk_W Γ M mc ms (pc + 3) L (.ref g.2.1.length :: S) (true, g.2.1 ++ [(0, ci, N)], g.2.2) I J (kc + 1) (kn + N) Q) : sk_W Γ M mc ms pc L S g I J kc kn Q := by
  intro p e s m args below meth c H locs ls hC hH hS hl
  have hts := hC.2.2.2.2.2.2.1
  have hK := hC.2.2.2.2.2.2.2.1.1
  have hKn := hK.1 ci _ hc
  have had : sk_ad Γ g.2.1.length = H.size := by rw [hC.2.2.2.2.2.2.2.1.2.2.2.2.2.2.2.2.2.1 _ (by omega), hH.2.2.1 hx]
  refine W.newcK hC.1 hC.2.1 hC.2.2.2.2.2.1 (hts _ h1) (hts _ h2) (hts _ h3) rfl d hf.1 hf.2 hKn.2.1 rfl fun H1 kC hkC e1 z1 o1 => ?_
  have hat : va_at (sk_D Γ) sk_cl (sk_ad Γ g.2.1.length, sk_cell Γ g.2.2 I J g.2.1.length (0, ci, N)) H1 := by
    refine ⟨_, hc, ?_⟩
    rw [had]
    refine (u_born (sk_fty T) hts (sk_lays hc) hKn hkC e1 (sk_ftyOk hc)).to (fun j hj => ?_)
    have hj9 : j < N := hj
    rw [sk_dflt hc hj9]
    have e7 : sk_fv Γ (sk_kd ci j) g.2.2 I J g.2.1.length j = sk_dfv (sk_kd ci j) := by
      simp only [sk_fv, sk_dfv, hI, hJ, hR]
      generalize sk_kd ci j = z
      match z with
      | 0 => rfl
      | 1 => rfl
      | (n + 2) => rfl
    simp [vp_V, hj9, e7]
  obtain ⟨h5, h6⟩ := sk_pushed hH hS hx hlen hat z1 o1
  have h7 := h p e s m args below meth c H1 locs ls hC h5 h6 hl
  have e9 : (Value.ref g.2.1.length :: S).map (sk_tr Γ) = Value.ref H.size :: S.map (sk_tr Γ) := by
    show Value.ref (sk_ad Γ g.2.1.length) :: _ = _
    rw [had]
  rw [e9] at h7
  exact h7
end SKD
end
section
/-! throws and catches -/
section SKX
variable {Γ : sk_T} {M : sk_M} {mc ms pc : Nat} {L : List (Nat × Value)} {S : List Value} {g : sk_G} {I : sk_I} {J : sk_J} {kc kn : Nat} {Q : sk_Q}
/-- out of the method, uncaught -/
theorem sk_xout {E : String} (ht : sk_tab M = []) (hk : kc ≤ mc) (hn : kn ≤ ms) (hq : Q (.inr E) g I J) : sk_X Γ M mc ms pc L E g I J kc kn Q := by
  intro p e s m args below meth c T locs ls st q ce hC hH hS hl hce hcv hcl X
  have hout : ∀ x ∈ c.exceptionTable.toList, covers x pc = false := by
    rw [hC.2.2.2.2.2.2.2.2.1, ht]
    intro x hx
    cases hx
  obtain ⟨st1, hrun, hend, hW, hsm⟩ := X.leaveThrown q (g := F0 m pc ls st) rfl rfl rfl hout hC.2.2.2.2.1
  exact ⟨_, st1, .threw q, hrun, hend, Or.inr ⟨q, E, ce, g, I, J, locs, rfl, hq, hH, ⟨hS.1, hS.2.1⟩, hce, hcv, hcl, hW, hsm.mono hk hn, hS.2.2⟩⟩
/-- caught; the handler stores it in local i -/
theorem sk_xcatch {E name : String} {i : Nat} {L' : List (Nat × Value)} (pre : List (Nat × Nat × Nat × Nat)) (x : Nat × Nat × Nat × Nat) (suf : List (Nat × Nat × Nat × Nat)) (len : Nat) (hsp : sk_tab M = pre ++ x :: suf)
    (hpass : ∀ z ∈ pre, z.2.2.2 ≠ 0 ∧ ∃ nm : String, Cond.classLink (sk_own M) z.2.2.2 nm ∈ sk_ts ∧ sk_nc E nm = true) (hcov : covers ⟨x.1, x.2.1, x.2.2.1, x.2.2.2⟩ pc = true) (h0 : x.2.2.2 ≠ 0) (hlk : Cond.classLink (sk_own M) x.2.2.2 name ∈ sk_ts) (hcast : Cond.castable E name ∈ sk_nw)
    (d : (∃ f : Fin 4, decode (sk_cc M) x.2.2.1 = .ok (.astore_n f, 1) ∧ (f : Nat) = i ∧ len = 1) ∨ (decode (sk_cc M) x.2.2.1 = .ok (.astore i, 2) ∧ len = 2)) (hn : i < sk_nl M) (hL : L.filter (fun q => !(q.1 == i) && !(q.1 + 1 == i && q.2.category == 2)) = L')
    (h : sk_W Γ M mc ms (x.2.2.1 + len) L' [] g I J kc kn Q) : sk_X Γ M mc ms pc L E g I J kc kn Q := by
  intro p e s m args below meth c T locs ls st q ce hC hH hS hl hce hcv hcl X
  have hts := hC.2.2.2.2.2.2.1
  have hfix := hC.2.2.2.2.2.2.2.1
  have hpl : e.platform.magicAccessors = ({} : Platform).magicAccessors := by rw [X.admits.platform]
  obtain ⟨c3, c4, hc3, hc4, hasg⟩ := Cond.castable_spec (va_Nw.use rfl (hfix.2.1 _ hcast) : (Cond.castable E name).before args s = true)
  cases Option.some.inj (hc3.symm.trans hcl)
  obtain ⟨c5, hc5, hcl5⟩ := Cond.classLink_spec hC.2.2.2.2.2.1 (hts _ hlk) e.platform hpl
  cases Option.some.inj (hc4.symm.trans hc5)
  obtain ⟨vm', X', st9⟩ := X.thenCaughtThrough q (g := F0 m pc ls st) rfl (Steps.refl _) hce (by rw [hcv]; rfl) (by obtain ⟨k9, h9, -⟩ := Vm.findClass_spec hcl; exact ⟨k9, h9⟩) (tableOf pre) ⟨x.1, x.2.1, x.2.2.1, x.2.2.2⟩ (tableOf suf) (by rw [hC.2.2.2.2.2.2.2.2.1, hsp]; simp [tableOf])
    (fun z hz => by
      obtain ⟨y, hy, rfl⟩ := List.mem_map.mp hz
      obtain ⟨hz0, nm, hl1, hn1⟩ := hpass y hy
      obtain ⟨c6, hc6, hcl6⟩ := Cond.classLink_spec hC.2.2.2.2.2.1 (hts _ hl1) e.platform hpl
      obtain ⟨a8, b8, h1, h2, h3⟩ := hfix.2.2.2.2.2.2.2.2.2.2.2 E nm hn1
      cases Option.some.inj (h1.symm.trans hcl)
      cases Option.some.inj (h2.symm.trans hc6)
      exact Or.inr ⟨hz0, _, hcl6, h3⟩) hcov (Or.inr ⟨h0, c4, hcl5, hasg⟩)
  have key : ∀ ls' : Array Slot, lv_has ls' (sk_nl M) ((i, Value.ref q) :: (sk_trL Γ L).filter (fun q => !(q.1 == i) && !(q.1 + 1 == i && q.2.category == 2))) → W p (sk_l Γ) e (sk_rm M mc ms) s m args below meth c T.heap locs kc kn (sk_Fin Γ Q mc ms below args s) (F0 m (x.2.2.1 + len) ls' []) := by
    intro ls' hl'
    refine h p e s m args below meth c T.heap locs ls' hC hH hS ?_
    rw [sk_trL_f1, hL] at hl'
    exact ⟨hl'.1, hl'.2.1, fun z hz => hl'.2.2 z (List.mem_cons_of_mem _ hz)⟩
  have K : W p (sk_l Γ) e (sk_rm M mc ms) s m args below meth c T.heap locs kc kn (sk_Fin Γ Q mc ms below args s) (F0 m x.2.2.1 ls [.ref q]) := by
    rcases d with ⟨f, d, hi, rfl⟩ | ⟨d, rfl⟩
    · exact lv_astore_n hC.1 hC.2.1 d hi hl hn rfl key
    · exact lv_astore hC.1 hC.2.1 d hl hn rfl key
  obtain ⟨t, a1, b1⟩ := K (T.setVm vm') rfl X'
  exact ⟨t, st9.trans a1, b1⟩
/-- the frame as if the method were called in this heap -/
theorem sk_rebase {p : Program} {e : Env} {R R' : Room} {s T : State} {m : MethodId} {args : Array Value} {below : List Frame} {meth : Method} {c : Code} {locs : List Loc} (X : Stand p (sk_l Γ) e R s m args below meth c T locs kc kn) (hf : R'.frames ≤ R.frames) (hl : R'.locals ≤ R.locals) (hc : kc + R'.cells ≤ R.cells) (hs : kn + R'.slots ≤ R.slots) :
    Stand p (sk_l Γ) e R' ((T.setVm s.vm).setFrames (.invoking m args :: below)) m args below meth c T [] 0 0 := by
  have htop : (T.setVm s.vm).topJava?.isSome := X.here.top
  have hF : ((T.setVm s.vm).setFrames (.invoking m args :: below)).frames = .invoking m args :: below := State.frames_setFrames _ (State.cur_lt_of_top htop)
  obtain ⟨g₀, hg0⟩ := Option.isSome_iff_exists.mp htop
  obtain ⟨r, hr⟩ := State.topJava?_eq_some.mp hg0
  obtain ⟨t, ht, -⟩ := State.frames_cons hr
  have nil : (T.heap.toList.drop T.heap.size) = [] := List.drop_eq_nil_of_le (Nat.le_of_eq Array.length_toList)
  have room : ((T.setVm s.vm).setFrames (.invoking m args :: below)).hasRoom e.platform R' = true := by
    have h := X.room
    have hU : ((T.setVm s.vm).setFrames (.invoking m args :: below)).localsInUse = s.localsInUse := by
      rw [State.localsInUse_invoking hF (meth := meth) (c := c) X.method X.code, State.localsInUse_invoking X.frames X.method X.code]
    have hl9 : e.platform.stackLimits (T.setVm s.vm).me = e.platform.stackLimits s.me := X.limits
    have hb9 : (T.setVm s.vm).me.stackBytes = s.me.stackBytes := X.bytes
    have q1 := X.heapSize
    have q2 := X.used
    simp only [State.hasRoom, Bool.and_eq_true, decide_eq_true_eq] at h ⊢
    obtain ⟨⟨⟨⟨h1, h2, h3, h4, h5, h6⟩, h7⟩, h8⟩, h9⟩ := h
    rw [X.frames, List.length_cons] at h2 h3
    simp only [hF, hU, List.length_cons, State.stackLimits_setFrames, State.stackBytes_setFrames, hl9, hb9]
    have hz1 : T.heap.size + R'.cells ≤ e.platform.maxCells := by omega
    have hz2 : T.slotsUsed + R'.slots ≤ e.platform.maxSlots := by omega
    exact ⟨⟨⟨⟨by omega, by omega, by omega, by omega, by omega, h6⟩, hz1⟩, hz2⟩, X.book⟩
  refine ⟨X.admits, X.cas, X.clock, hF, room, X.hears, X.method, X.code, X.here, X.tail, X.warmed, ?_, ?_, ?_, Nat.le_refl _, Nat.le_refl _, ?_, ?_, fun a c9 h9 => ⟨c9, h9, rfl, rfl, fun _ _ => rfl⟩⟩
  · rw [State.stackLimits_setFrames]; rfl
  · rw [State.stackBytes_setFrames]; rfl
  · show T.setVm s.vm = { ((T.setVm s.vm).setFrames (.invoking m args :: below)).setFrames (T.setVm s.vm).frames with heap := T.heap, slotsUsed := T.slotsUsed }
    rw [State.setFrames_setFrames, State.setFrames_self ht]
    rfl
  · show T.slotsUsed = T.slotsUsed + ((T.heap.toList.drop T.heap.size).map (·.slots.size)).sum
    rw [nil]; rfl
  · show ((T.heap.toList.drop T.heap.size).map (·.slots.size)).sum ≤ 0
    rw [nil]; exact Nat.le_refl _
/-- the words of a throw: of the tables, of the list sk_nw, or of the two statics -/
def sk_thr (w : Cond) : Bool := decide (w ∈ lw_tbl) && goodWord w || decide (w ∈ sk_nw) || decide (w = .isRef (.static Bundle.tN "UNASSIGNED_STACK" Bundle.steD)) || decide (w = .isRef (.static Bundle.tN "SUPPRESSED_SENTINEL" Bundle.listD)) || decide (w = .laysStatic Bundle.tN "UNASSIGNED_STACK" Bundle.steD) || decide (w = .laysStatic Bundle.tN "SUPPRESSED_SENTINEL" Bundle.listD)
theorem sk_goodTab {w : Cond} (h : goodWord w = true) {A A' : Array Value} {u U : State} (hv : u.vm = U.vm) (hb : w.before A u = true) : w.before A' U = true := by
  rcases good_of_word h with h | ⟨ty, rfl⟩
  · simp only [Bool.and_eq_true] at h
    exact va_tabs h.1 hv hb
  · exact word_at (s := u) (U := U) (by rw [← hv]; exact State.WarmedH.refl u) (Or.inr ⟨ty, rfl⟩) hb
theorem sk_nwTab {w : Cond} (h : sk_isN w = true) : w.onTables = true := by
  cases w <;> first | rfl | cases h
/-- 'throw new E("text")': new; dup; ldc; invokespecial; athrow -/
theorem sk_throwS {cls text : String} {ik is ic i : Nat} (d0 : decode (sk_cc M) pc = .ok (.new ik, 3)) (d3 : decode (sk_cc M) (pc + 3) = .ok (.dup, 1)) (d4 : decode (sk_cc M) (pc + 4) = .ok (.ldc is, 2)) (d6 : decode (sk_cc M) (pc + 6) = .ok (.invokespecial ic, 3)) (d9 : decode (sk_cc M) (pc + 9) = .ok (.athrow, 1))
    (hown : sk_own M = "StuckLines") (hcls : Bundle.fit cls = true) (h1 : Cond.classLink (sk_own M) ik cls ∈ sk_ts) (h2 : Cond.initialized cls ∈ sk_ts) (hstr : sk_str[i]? = some (is, text)) (hat : (Bundle.ownAtoms (sk_own M) ic cls ["java/lang/RuntimeException", "java/lang/Exception"]).all sk_thr = true) (ht : sk_tab M = [])
    (hR : 6 ≤ sk_fr M ∧ 90 ≤ sk_lo M) (hcat : (S.map fun v => v.category).sum ≤ 8) (hf : kc + 1 ≤ mc ∧ kn + 6 ≤ ms) (hq : Q (.inr cls) (false, g.2.1, g.2.2) I J) : sk_W Γ M mc ms pc L S g I J kc kn Q := by
  intro p e s m args below meth c H locs ls hC hH hS hl T hT X
  subst hT
  have hts := hC.2.2.2.2.2.2.1
  have hfix := hC.2.2.2.2.2.2.2.1
  have htr : e.platform.stackTraces = false := (show e.platform.stackTraces = (sk_l Γ).stackTraces by rw [X.admits.platform]).trans hfix.2.2.2.2.2.2.2.2.2.2.1
  have Y := sk_rebase X (R' := { frames := sk_fr M, locals := sk_lo M, cells := 1, slots := 6 }) (Nat.le_refl _) (Nat.le_refl _) hf.1 hf.2
  obtain ⟨s', hA⟩ : ∃ z, z = (T.setVm s.vm).setFrames (.invoking m args :: below) := ⟨_, rfl⟩
  rw [← hA] at Y
  have hvm : s'.vm = s.vm := by rw [hA]; rfl
  have hhp : s'.heap = T.heap := by rw [hA]; rfl
  have hW0 : s.WarmedH s'.vm := by rw [hvm]; exact State.WarmedH.refl s
  have hfix' : sk_fix Γ s' := sk_move hfix (fun q a b => by rw [hhp]; exact hS.2.1 q a b) hW0
  have h : ∀ w ∈ Bundle.ownAtoms (sk_own M) ic cls ["java/lang/RuntimeException", "java/lang/Exception"], w.before args s' = true := by
    intro w hw
    have h9 := List.all_eq_true.mp hat w hw
    simp only [sk_thr, Bool.or_eq_true, Bool.and_eq_true, decide_eq_true_eq] at h9
    rcases h9 with ((((⟨q1, q2⟩ | q) | rfl) | rfl) | rfl) | rfl
    · exact sk_goodTab q2 hvm.symm (hts w (List.mem_filter.mpr ⟨q1, q2⟩))
    · exact va_Nw.use (sk_nwTab (sk_nw_ok w q)) (hfix'.2.1 w q)
    · exact sk_isRef hfix'.2.2.2.2.1.1
    · exact sk_isRef hfix'.2.2.2.2.2.1.1
    · exact hfix'.2.2.2.2.1.2.word
    · exact hfix'.2.2.2.2.2.1.2.word
  have hown' : s'.vm.findClass (sk_own M) = some m.cls := by rw [hvm]; exact hC.2.2.2.2.2.1
  have hins : (Cond.instantiable cls 6).before args s' = true := h _ (by simp [Bundle.ownAtoms])
  have hb := hC.2.1
  obtain ⟨vm₁, cX, kX, hfX, hkX, -, -, X₁, st1⟩ := Y.newCold hC.1 (own := sk_own M) (C := cls) (index := ik) (n := 6) hown' (sk_goodTab (sk_good _ h1) hvm.symm (hts _ h1)) hins (sk_goodTab (sk_good _ h2) hvm.symm (hts _ h2))
    (g := F0 m pc ls (S.map (sk_tr Γ))) rfl (by rw [hb]; exact d0) (Nat.le_refl _) (Nat.le_refl _)
  generalize hT1 : (T.setVm vm₁).pushCell { cls := cX, slots := kX.instanceTypes.map defaultValue, vm := .none } = T1 at X₁ st1
  have hcat1 : (Value.ref T.heap.size).category = 1 := rfl
  have hcellA : T1.heap[T.heap.size]? = some (freshCell cX kX) := by rw [← hT1]; exact State.heap_pushCell_size _ _
  have d3' : decode c.code (pc + 3) = .ok (.dup, 1) := by rw [hb]; exact d3
  have d4' : decode c.code (pc + 4) = .ok (.ldc is, 2) := by rw [hb]; exact d4
  have hstr' : vk_R (sk_own M) is text (sk_sa Γ i) s' := by rw [hown]; exact hfix'.2.2.2.2.2.2.1 i _ hstr
  have hout : ∀ x ∈ c.exceptionTable.toList, covers x (pc + 6 + 3) = false := by
    rw [hC.2.2.2.2.2.2.2.2.1, ht]
    intro x hx
    cases hx
  have hsum : ((S.map (sk_tr Γ)).map fun v => v.category).sum ≤ 8 := by rw [sk_sumCat]; exact hcat
  obtain ⟨U, hsteps, hrun, hend, hW, hsame, ce, hce, hO⟩ := X₁.ctorThrowS hC.1 htr (own := sk_own M) (cls := cls) (names := ["java/lang/RuntimeException", "java/lang/Exception"]) (ic := ic) hown' hcls (by decide +kernel) h (fun x hx => nomatch hx) hfX hkX hcellA (by rw [hhp]; exact Nat.le_refl _) (msg := .ref (sk_sa Γ i)) rfl
    (g := { method := m, pc := pc + 6, locals := ls, stack := .ref (sk_sa Γ i) :: .ref T.heap.size :: .ref T.heap.size :: S.map (sk_tr Γ), locked := none }) rfl (hl.1.trans hC.2.2.1.symm) rfl rfl (rest := S.map (sk_tr Γ)) rfl
    (by rw [hb]; exact d6) (by rw [hb]; exact d9) hout hR.1 (by
      have hz : 2 * (F0 m pc ls (S.map (sk_tr Γ))).monitorRoom + ((S.map (sk_tr Γ)).map fun v => v.category).sum ≤ 8 := lv_room hsum
      have hz2 : 2 * (F0 m pc ls (S.map (sk_tr Γ))).monitorRoom = 2 * ({ method := m, pc := pc + 6, locals := ls, stack := .ref (sk_sa Γ i) :: .ref T.heap.size :: .ref T.heap.size :: S.map (sk_tr Γ), locked := none } : JFrame).monitorRoom := rfl
      have hz3 := hR.2
      simp only [List.map_cons, List.sum_cons, hcat1, List.length_cons, List.length_nil]
      show _ ≤ sk_lo M
      omega) hC.2.2.2.2.1
  obtain ⟨e1, e2, e3, e4, e5, e6⟩ := id hsame
  have hWs : s.WarmedH U.vm := State.WarmedH.trans hW0 hW
  have old : ∀ q : Nat, q < T.heap.size → U.heap[q]? = T.heap[q]? := by
    intro q hq
    have hq' : q < s'.heap.size := by rw [hhp]; exact hq
    obtain ⟨c9, f1, f2, f3, f4⟩ := e6 q _ (Array.getElem?_eq_getElem hq')
    have hs9 : c9.slots = (s'.heap[q]).slots := Array.ext_getElem? fun j => f4 j (by simp)
    have h9 : c9 = s'.heap[q] := by rw [hs9] at f2; exact f2
    have f5 : U.heap[q]? = some c9 := f1
    rw [f5, h9, ← hhp, Array.getElem?_eq_getElem hq']
  have hge : T.heap.size ≤ U.heap.size := by rw [← hhp]; exact e2
  have hall : s.sameButNew ({ U with vm := s.vm } : State) locs mc ms := by
    subst hA
    have h2 : (T.setVm s.vm).sameButNew ({ U with vm := s.vm } : State) [] (0 + 1) (0 + 6) := by
      rw [State.setFrames_setFrames] at e1
      exact ⟨e1, e2, e3, e4, e5, e6⟩
    have h3 := X.same.trans h2
    rw [List.append_nil] at h3
    exact h3.mono hf.1 hf.2
  have hH' : sk_hp Γ (false, g.2.1, g.2.2) I J U.heap := ⟨hH.1.kept (fun k x hx => old x.1 ((hH.1 k x hx).lt)), Nat.le_trans hH.2.1 hge, (fun h => by cases h), hH.2.2.2⟩
  refine ⟨U, ?_, .threw T.heap.size, hrun, hend, Or.inr ⟨T.heap.size, cls, ce, (false, g.2.1, g.2.2), I, J, locs, rfl, hq, hH', ⟨Nat.le_trans hS.1 hge, fun q a b => (old q (Nat.lt_of_lt_of_le a hS.1)).trans (hS.2.1 q a b)⟩, hce, hO.vm, ?_, hWs, hall, hS.2.2⟩⟩
  · refine st1 _ ?_
    show Steps p.tables e below (T1.setTop { method := m, pc := pc + 3, locals := ls, stack := .ref T.heap.size :: S.map (sk_tr Γ), locked := none }) _
    have hexec := hC.1
    jvm_step X₁.here [X₁.here.top, hexec, d3', Value.category]
    exact X₁.ldcString hC.1 (own := sk_own M) (text := text) (index := is) (a := sk_sa Γ i) hown' hstr'.1 hstr'.2
      (g := { method := m, pc := pc + 4, locals := ls, stack := .ref T.heap.size :: .ref T.heap.size :: S.map (sk_tr Γ), locked := none }) rfl d4' _ hsteps
  · have h9 := hO.cls
    rw [hvm] at h9
    exact h9
end SKX
end
section
/-! the start: the claim out of the law walked in small (the words lw_ are the skeleton's) -/
def R_law : String := "StuckLinesLaw"
def lw_P (b : Addr) (xs : List Int32) (args : Array Value) (s : State) : Prop := args = #[.ref b] ∧ s.IntsAt b xs ∧ xs.length ≤ 2560 ∧ (Jvm.Cond.and given_1 narrow_1).before args s = true
def lw_Q (_ : Array Value) (s : State) (o : Outcome) (t : State) : Prop := o = .returned (some (.int 1)) ∧ Framed s o t [] 1101 25936
def lw_Z (below : List Frame) (a : Array Value) (s : State) : State → Prop := fun t => ∃ o, t.status = .running ∧ Ended t below o ∧ lw_Q a s o t
/-- what holds at the law's entry: the machine, the code, the tables' words (any of lw_tbl by 'hts w (by decide +kernel)'), the script of L ints xs at the cell b, what the Statement gives of the start (any of its parts by flat_of_before) -/
def lw_At (p : Program) (s : State) (m : MethodId) (meth : Method) (c : Code) (b L : Nat) (xs : Nat → Int32) : Prop :=
  p.tables.exec = Jvm.exec ∧ c.code = code ∧ meth.sig.returnType = ret ∧ c.maxLocals = 8 ∧ s.vm.findClass R_law = some m.cls ∧ (∀ w ∈ lw_tbl, w.before #[Value.ref b] s = true) ∧ va_X b L xs s s.heap ∧ b < s.heap.size ∧ meth.locks = false ∧ (Jvm.Cond.and given_1 narrow_1).before #[Value.ref b] s = true
abbrev m_law : sk_M := ("StuckLinesLaw", x, code, 8, some .boolean, [], 12, 434)
def sk_g0 : sk_G := (true, [], fun _ _ => none)
def sk_i0 : sk_I := fun _ _ => 0
def sk_j0 : sk_J := fun _ _ => 0
theorem sk_instT : ∀ q ∈ sk_cl, Cond.instantiable q.1 q.2.2 ∈ lw_tbl := by
  intro q h
  refine List.mem_append_right _ ?_
  unfold sk_cl at h
  rcases List.mem_cons.mp h with rfl | h
  · exact List.mem_of_getElem? (i := 16) (by decide +kernel)
  rcases List.mem_cons.mp h with rfl | h
  · exact List.mem_of_getElem? (i := 24) (by decide +kernel)
  rcases List.mem_cons.mp h with rfl | h
  · exact List.mem_of_getElem? (i := 97) (by decide +kernel)
  rcases List.mem_cons.mp h with rfl | h
  · exact List.mem_of_getElem? (i := 126) (by decide +kernel)
  rcases List.mem_cons.mp h with rfl | h
  · exact List.mem_of_getElem? (i := 150) (by decide +kernel)
  rcases List.mem_cons.mp h with rfl | h
  · exact List.mem_of_getElem? (i := 168) (by decide +kernel)
  rcases List.mem_cons.mp h with rfl | h
  · exact List.mem_of_getElem? (i := 193) (by decide +kernel)
  rcases List.mem_cons.mp h with rfl | h
  · exact List.mem_of_getElem? (i := 679) (by decide +kernel)
  · cases h
theorem sk_arrOf {args : Array Value} {s : State} {ty : FieldType} (hty : ∀ C, ty ≠ .object C) (h : (Cond.arrayClass ty).before args s = true) : ∃ cA, ArrOfT s cA ty ∧ va_RA s cA ty := by
  obtain ⟨cA, kA, comp, h1, h2, h3⟩ := Cond.arrayClass_spec h
  refine ⟨cA, fun n z => ⟨fun k h => (by cases h), kA, h2, comp, h3⟩, ?_⟩
  cases ty <;> first | exact h1 | exact absurd rfl (hty _)
theorem sk_strW : ∀ (i : Nat) (q : Nat × String), sk_str[i]? = some q → Cond.stringRef "StuckLines" q.1 q.2 ∈ lw_tbl ∧ Cond.exactly (.string "StuckLines" q.1) "java/lang/String" ∈ flatC (Jvm.Cond.and given_1 narrow_1) := by
  intro i q h
  match i, h with
  | 0, h => cases h; exact ⟨List.mem_append_right _ (List.mem_of_getElem? (i := 404) (by decide +kernel)), by decide +kernel⟩
  | 1, h => cases h; exact ⟨List.mem_append_right _ (List.mem_of_getElem? (i := 457) (by decide +kernel)), by decide +kernel⟩
  | 2, h => cases h; exact ⟨List.mem_append_right _ (List.mem_of_getElem? (i := 464) (by decide +kernel)), by decide +kernel⟩
  | 3, h => cases h; exact ⟨List.mem_append_right _ (List.mem_of_getElem? (i := 478) (by decide +kernel)), by decide +kernel⟩
  | 4, h => cases h; exact ⟨List.mem_append_right _ (List.mem_of_getElem? (i := 489) (by decide +kernel)), by decide +kernel⟩
  | 5, h => cases h; exact ⟨List.mem_append_right _ (List.mem_of_getElem? (i := 509) (by decide +kernel)), by decide +kernel⟩
  | 6, h => cases h; exact ⟨List.mem_append_right _ (List.mem_of_getElem? (i := 529) (by decide +kernel)), by decide +kernel⟩
  | 7, h => cases h; exact ⟨List.mem_append_right _ (List.mem_of_getElem? (i := 557) (by decide +kernel)), by decide +kernel⟩
  | 8, h => cases h; exact ⟨List.mem_append_right _ (List.mem_of_getElem? (i := 570) (by decide +kernel)), by decide +kernel⟩
  | 9, h => cases h; exact ⟨List.mem_append_right _ (List.mem_of_getElem? (i := 579) (by decide +kernel)), by decide +kernel⟩
  | 10, h => cases h; exact ⟨List.mem_append_right _ (List.mem_of_getElem? (i := 602) (by decide +kernel)), by decide +kernel⟩
  | 11, h => cases h; exact ⟨List.mem_append_right _ (List.mem_of_getElem? (i := 639) (by decide +kernel)), by decide +kernel⟩
  | 12, h => cases h; exact ⟨List.mem_append_right _ (List.mem_of_getElem? (i := 640) (by decide +kernel)), by decide +kernel⟩
  | 13, h => cases h; exact ⟨List.mem_append_right _ (List.mem_of_getElem? (i := 672) (by decide +kernel)), by decide +kernel⟩
  | 14, h => cases h; exact ⟨List.mem_append_right _ (List.mem_of_getElem? (i := 673) (by decide +kernel)), by decide +kernel⟩
  | (n + 15), h => simp [sk_str] at h
theorem sk_ncW : ∀ E F : String, sk_nc E F = true → Cond.not (.castable E F) ∈ flatC (Jvm.Cond.and given_1 narrow_1) := by
  intro E F h
  simp only [sk_nc, Bool.and_eq_true, decide_eq_true_eq, List.mem_cons, List.not_mem_nil, or_false] at h
  obtain ⟨⟨hne, hE⟩, hF⟩ := h
  rcases hE with rfl | rfl | rfl <;> rcases hF with rfl | rfl | rfl <;> first | exact absurd rfl hne | decide +kernel
theorem sk_elemW : ∀ j : Nat, j < 6 → Cond.eq (.elem (.static "StuckLines" "SOURCE_IN_VECTORS" "[J") (.int (Int32.ofNat j))) (.long (sk_siv j)) ∈ flatC (Jvm.Cond.and given_1 narrow_1) := by
  intro j hj
  match j, hj with
  | 0, _ => decide +kernel
  | 1, _ => decide +kernel
  | 2, _ => decide +kernel
  | 3, _ => decide +kernel
  | 4, _ => decide +kernel
  | 5, _ => decide +kernel
  | (n + 6), h => omega
set_option maxHeartbeats 4000000 in
/-- what holds at the law's entry, in the words of the walk -/
theorem sk_start {p : Program} {s : State} {m : MethodId} {meth : Method} {c : Code} {l : Launch} {b L : Nat} {xs : Nat → Int32} (hst : l.stackTraces = false) (htab : c.exceptionTable.toList = []) (hnm : meth.name = "law") (C0 : lw_At p s m meth c b L xs) : ∃ Γ : sk_T, sk_l Γ = l ∧ sk_len Γ = L ∧ sk_xs Γ = xs ∧ sk_b Γ = s.heap.size ∧ sk_ad Γ sk_scr = b ∧ sk_cx Γ m_law p s m #[Value.ref b] meth c ∧ sk_hp Γ sk_g0 sk_i0 sk_j0 s.heap := by
  obtain ⟨hexec, hcode, hret, hml, hown, hts, hX, hbl, hlocks, hgiven⟩ := C0
  have hs := flat_of_before _ hgiven
  have hA : ∀ a : Nat, a < s.heap.size → ¬ (s.heap.size ≤ a) := fun a h => by omega
  have hcl : ∀ ci : Nat, ∃ z : ClassId × (Nat → Nat), ∀ q : vw_C, sk_cl[ci]? = some q → u_Kn s q.1 q.2.1 q.2.2 z.1 z.2 := by
    intro ci
    cases hq : sk_cl[ci]? with
    | none => exact ⟨(0, fun _ => 0), fun q h => by cases h⟩
    | some q =>
      obtain ⟨C, T, N⟩ := q
      obtain ⟨cC, iS, hk⟩ := u_known (C := C) (T := T) (N := N) (n := N) hts (fun w hw => sk_tbl _ (sk_lays hq w hw)) (hts _ (sk_instT _ (List.mem_of_getElem? hq)))
      exact ⟨(cC, iS), fun q h => by cases h; exact hk⟩
  obtain ⟨fD, hD⟩ := Classical.axiomOfChoice hcl
  obtain ⟨cI, hI1, hI2⟩ := sk_arrOf (fun C h => by cases h) (hts (.arrayClass .int) (List.mem_append_right _ (List.mem_of_getElem? (i := 94) (by decide +kernel))))
  obtain ⟨cZ, hZ1, hZ2⟩ := sk_arrOf (fun C h => by cases h) (hts (.arrayClass .boolean) (List.mem_append_right _ (List.mem_of_getElem? (i := 95) (by decide +kernel))))
  obtain ⟨cJ, hJ1, hJ2⟩ := sk_arrOf (fun C h => by cases h) (hts (.arrayClass .long) (List.mem_append_right _ (List.mem_of_getElem? (i := 124) (by decide +kernel))))
  obtain ⟨t, hte, hT⟩ := va_Tof (tm := .static "StuckLines" "SOURCE_IN_VECTORS" "[J") (ty := .long) (N := 6) (f := fun j => .long (sk_siv j)) (A := fun q => s.heap.size ≤ q) (by decide) (hs _ (by decide +kernel)) (va_eqt (hs (.eq (.length (.static "StuckLines" "SOURCE_IN_VECTORS" "[J")) (.int 6)) (by decide +kernel))) (fun j hj => va_eqtl (hs _ (sk_elemW j hj))) hA
  have hZ : va_Z "StuckLines" "SOURCE_IN_VECTORS" "[J" (.ref t) (fun q => s.heap.size ≤ q) s s.heap := va_Zof (hts _ (List.mem_append_right _ (List.mem_of_getElem? (i := 281) (by decide +kernel)))) (hts _ (List.mem_append_right _ (List.mem_of_getElem? (i := 1) (by decide +kernel)))) hte hA
  have hsr : ∀ i : Nat, ∃ a : Nat, ∀ q : Nat × String, sk_str[i]? = some q → vk_R "StuckLines" q.1 q.2 a s := by
    intro i
    cases hq : sk_str[i]? with
    | none => exact ⟨0, fun q h => by cases h⟩
    | some q =>
      obtain ⟨w1, w2⟩ := sk_strW i q hq
      obtain ⟨a, -, -, -, ha, -⟩ := Cond.exactly_spec (hs _ w2)
      exact ⟨a, fun q' h => by cases h; exact vk_R.of (hts _ w1) ha⟩
  obtain ⟨sa, hsa⟩ := Classical.axiomOfChoice hsr
  have hU1 := hts (.laysStatic Bundle.tN "UNASSIGNED_STACK" Bundle.steD) (List.mem_append_right _ (List.mem_of_getElem? (i := 390) (by decide +kernel)))
  have hU2 := hts (.laysStatic Bundle.tN "SUPPRESSED_SENTINEL" Bundle.listD) (List.mem_append_right _ (List.mem_of_getElem? (i := 392) (by decide +kernel)))
  have hU3 := hts (.initialized Bundle.tN) (List.mem_append_right _ (List.mem_of_getElem? (i := 9) (by decide +kernel)))
  refine ⟨(l, s.heap.size, (fun c => (fD c).1, fun c => (fD c).2), (fun k => if k = 0 then cI else if k = 1 then cZ else cJ), (fun k => if k = sk_scr then b else if k = sk_sta then t else s.heap.size + k), L, xs, sa), rfl, rfl, rfl, rfl, rfl, ?_, ?_⟩
  · refine ⟨hexec, hcode, hml, hret, hlocks, hown, fun w hw => hts w (sk_tbl w hw), ?_, by rw [htab]; rfl, hnm, Nat.le_refl _⟩
    refine ⟨⟨fun ci q hq => hD ci q hq, fun k q hk => ?_⟩, fun w hw => va_Nw.of (sk_nwTab (sk_nw_ok w hw)) (hts w (sk_nw_tbl w hw)), hZ, hT, ⟨va_Zqof hU1 hU3 (hs _ (by decide +kernel)) hA, sk_L.of hU1 hA⟩, ⟨va_Zqof hU2 hU3 (hs _ (by decide +kernel)) hA, sk_L.of hU2 hA⟩, fun i q hq => hsa i q hq, hX, hbl, fun k hk => ?_, hst, fun E F hE => va_Nc.of (hs _ (sk_ncW E F hE))⟩
    · match k, hk with
      | 0, hk => cases hk; exact ⟨hI1, hI2⟩
      | 1, hk => cases hk; exact ⟨hZ1, hZ2⟩
      | 2, hk => cases hk; exact ⟨hJ1, hJ2⟩
      | (n + 3), hk => simp at hk
    · show (if k = sk_scr then b else if k = sk_sta then t else s.heap.size + k) = s.heap.size + k
      rw [if_neg (by unfold sk_scr; omega), if_neg (by unfold sk_sta; omega)]
  · refine ⟨fun k q hk => ?_, Nat.le_refl _, fun _ => rfl, by decide⟩
    simp [sk_ws, sk_g0] at hk
end
section
theorem sk_law_walk {Γ : sk_T} (hL : sk_len Γ ≤ 2560) : sk_W Γ m_law 1101 25936 0 [(0, .ref sk_scr)] [] sk_g0 sk_i0 sk_j0 0 0 (fun r _ _ _ => r = .inl (some (.int 1))) := by
  sorry
end
section
/-- the law in small: to be proved in the parts before -/
theorem whole_start {p : Program} {e : Env} {s : State} {m : MethodId} {below : List Frame} {meth : Method} {c : Code} (l : Launch) (hst : l.stackTraces = false) (htab : c.exceptionTable.toList = []) (hnm : meth.name = "law") {b L : Nat} {xs : Nat → Int32} (hL : L ≤ 2560) (C0 : lw_At p s m meth c b L xs) : W p l e room_1 s m #[Value.ref b] below meth c s.heap [] 0 0 (lw_Z below #[Value.ref b] s) (entryFrame m ([Value.ref b] : List Value).toArray 8) := by
  obtain ⟨Γ, rfl, rfl, rfl, hb, had, hC, hH⟩ := sk_start hst htab hnm C0
  subst had
  have K := sk_law_walk (Γ := Γ) hL p e s m _ below meth c s.heap [] _ hC hH va_S.rf (lv_entry ([Value.ref (sk_ad Γ sk_scr)]) (n := 8) (Nat.le_of_ble_eq_true rfl))
  rw [lg_entry_eq]
  intro T hT X
  obtain ⟨t, a1, o, b1, b2, b3⟩ := K T hT X
  refine ⟨t, a1, o, b1, b2, ?_⟩
  rcases b3 with ⟨⟨r, g', I', J', hr, hQ, -, -⟩, L9, ⟨hv, hW, hsm⟩, hL9⟩ | ⟨q, E, ce, g', I', J', L9, -, hQ, -⟩
  · have hr1 : r = some (.int 1) := Sum.inl.inj hQ
    subst hr1
    refine ⟨hr, hv, hW, ?_⟩
    obtain ⟨q1, q2, q3, q4, q5, q6⟩ := hsm
    refine ⟨q1, q2, q3, q4, q5, fun a c9 h9 => ?_⟩
    obtain ⟨c', z1, z2, z3, z4⟩ := q6 a c9 h9
    refine ⟨c', z1, z2, z3, fun i _ => z4 i (fun hm => ?_)⟩
    have h5 := hL9 _ hm
    have h6 : a < s.heap.size := (Array.getElem?_eq_some_iff.mp h9).1
    unfold sk_A at h5
    rw [hb] at h5
    exact Nat.not_le.mpr h6 h5
  · cases hQ
set_option maxHeartbeats 4000000 in
theorem lw_walk (l : Launch) (hst : l.stackTraces = false) (b : Addr) (xs : List Int32) : MetFree l x (headSpec (Jvm.Cond.code x code maxLocals ret :: tables_1) room_1) (lw_P b xs) (fun _ _ _ _ _ => True) lw_Q := by
  refine MetFree.of_bodyS (code := code) (maxLocals := maxLocals) (ret := ret) (by decide) ?_ ?_
  · intro args s m h hn
    obtain ⟨meth, c, h1, h2, h3, h4, h5, h6, -, -⟩ := Cond.code_spec hn (atoms_spec (ws := Jvm.Cond.code x code maxLocals ret :: tables_1) h _ List.mem_cons_self)
    exact ⟨meth, c, h1, h2, h3, h4, h5, h6⟩
  · intro p e s m args below meth c s₁ B hml0 hP _
    obtain ⟨rfl, hx, hbd, hgv⟩ := hP
    obtain ⟨scr, harrAt, hlist, hof, hsmall⟩ := hx
    obtain ⟨hcb, hkn, -, -⟩ := State.arrayAt?_spec harrAt
    have hown : s.vm.findClass R_law = some m.cls := findClass_of_methodNamed B.named
    have hts0 : ∀ c ∈ (Jvm.Cond.code x code maxLocals ret :: tables_1), c.before #[Value.ref b] s = true := atoms_spec (ws := Jvm.Cond.code x code maxLocals ret :: tables_1) B.pre
    have hts : ∀ w ∈ lw_tbl, w.before #[Value.ref b] s = true := k2_hts_sels lw_privs (fun w hw => hts0 w (List.mem_cons_of_mem _ hw)) lw_privs_ok
    have hml : c.maxLocals = 8 := B.maxLocals_eq (hts0 _ List.mem_cons_self)
    have X₀ : Stand p l e room_1 s m #[Value.ref b] below meth c s₁ [] 0 0 := Stand.of_body B
    have hh0 : s₁.heap = s.heap := by rw [B.state]; rfl
    have hsz : scr.slots.size = xs.length := by rw [← Array.length_toList, hlist, List.length_map]
    have hval : ∀ j : Nat, j < xs.length → scr.slots[j]? = some (.int (xs.getD j 0)) := fun j hj => by
      rw [← Array.getElem?_toList, hlist]
      simp [hj]
    have hbl : b < s.heap.size := (Array.getElem?_eq_some_iff.mp hcb).1
    have hX : va_X b xs.length (fun j => xs.getD j 0) s s.heap := ⟨scr, hcb, hof, hkn, hsz, hval⟩
    have htb9 : c.exceptionTable.toList = [] := by
      obtain ⟨meth9, c9, h1, h2, -, -, -, -, h7, -⟩ := Cond.code_spec B.named (hts0 _ List.mem_cons_self)
      cases Option.some.inj (h1.symm.trans B.method)
      cases Option.some.inj (h2.symm.trans X₀.code)
      rw [Array.isEmpty_iff.mp h7]
    have hnm9 : meth.name = "law" := (name_of_methodNamed B.named B.method).1
    have K : W p l e room_1 s m #[Value.ref b] below meth c s₁.heap [] 0 0 (lw_Z below #[Value.ref b] s) (entryFrame m ([Value.ref b] : List Value).toArray 8) := by
      rw [hh0]
      exact whole_start l hst htb9 hnm9 hbd ⟨B.exec, B.bytes, B.returns, hml, hown, hts, hX, hbl, B.notSynchronized, hgv⟩
    obtain ⟨t, a1, o, b1, b2, b3⟩ := K s₁ rfl X₀
    exact ⟨t, o, a1, b1, b2, b3⟩
theorem lw_pre_spec {args : Array Value} {s : State} (h : (Jvm.Cond.and given_1 narrow_1).before args s = true) (hr : rest_1_c.before args s = true) : ∃ (b : Addr) (xs : List Int32), lw_P b xs args s := by
  have hs := flat_of_before _ h
  have hq := flat_of_before _ hr
  have hc : (Cond.count 1).before args s = true := hs _ (by decide +kernel)
  have harr : (Cond.arrayOf (.arg 0) .int).before args s = true := hs _ (by decide +kernel)
  have hle : (Cond.le (.length (.arg 0)) (.int 2560)).before args s = true := hs _ (by decide +kernel)
  have hlen : (Cond.isInt (.length (.arg 0))).before args s = true := hq _ (by decide +kernel)
  have hall : (Cond.all (.arg 0) (.isInt (.elem (.arg 0) (.index 0)))).before args s = true := hq _ (by decide +kernel)
  obtain ⟨b, xs, hb, hx⟩ := State.ints_of_pre rfl harr hlen hall
  have hsm : xs.length < 2 ^ 31 := hx.choose_spec.2.2.2
  have hev : (Term.length (.arg 0)).eval args s none [] s = some (.int xs.length.toInt32) := hx.length_eval hb
  have hv := Cond.le_ints hev (show (Term.int 2560).eval args s none [] s = some (.int 2560) from rfl)
  have hd : xs.length.toInt32 ≤ 2560 := by
    simpa [Cond.before, Cond.holds, hv] using hle
  have hN : xs.length ≤ 2560 := (Int32.ofNat_le_ofNat hsm (by decide)).mp (show Int32.ofNat xs.length ≤ Int32.ofNat 2560 from hd)
  exact ⟨b, xs, Cond.one_arg hc (show args[0]? = some (.ref b) from hb), hx, hN, h⟩
theorem lw_comes (l : Launch) (hst : l.stackTraces = false) : Comes l x (Jvm.Cond.code x code maxLocals ret :: tables_1) room_1 (fun tb e args s => Calls_1 tb e args s ∧ rest_1 tb e args s ∧ Pre_1 tb e args s)
    (fun _ _ args s o t => lw_Q args s o t) := by
  intro p e ha hc hk s m args below hf hfit hheap happ hpre
  obtain ⟨b, xs, hP⟩ := lw_pre_spec hpre.2.2 hpre.2.1
  obtain ⟨k, o, h1, h2, h3, hQ⟩ := lw_walk l hst b xs p e ha hc hk s m args below hf ((Spec.applies_iff_loose hf).mp happ).1 hP trivial
  exact ⟨k, o, h1, h2, h3, hQ⟩
theorem lw_frame {s t : State} {o : Outcome} {args : Array Value} (h : Framed s o t [] 1101 25936) :
    Framed s o t (fieldLocs frame_1_writes args s ++ arrayLocs frame_1_arrays args s ++ staticLocs frame_1_statics s) 1101 25936 := h
theorem lw_limb (L : Cond) (hL : ∀ (args : Array Value) (s t : State), L.after args s (.returned (some (.int 1))) t = true) :
    ArmFor flags0 classFile x code maxLocals ret World_1 tables_1 room_1 Calls_1 rest_1 Pre_1
      (fun tb e a s o t => postC L tb e a s o t ∧ Framed s o t (fieldLocs frame_1_writes a s ++ arrayLocs frame_1_arrays a s ++ staticLocs frame_1_statics s) 1101 25936) := by
  intro l hfl _ _ p e ha hc hk s m args below hf hfit hheap happ hpre
  obtain ⟨k, o, h1, h2, h3, rfl, hF⟩ := lw_comes l (by rw [Launch.stackTraces, hfl]; decide +kernel) p e ha hc hk s m args below hf hfit hheap happ hpre
  exact ⟨k, _, h1, h2, h3, hL args s _, lw_frame hF⟩
theorem i_vc : Claimed_1_1 ∧ Claimed_1_2 := ⟨lw_limb limb_1_1 (fun args s t => by simp [limb_1_1, Cond.after, Cond.holds, Cond.value]), lw_limb limb_1_2 (fun args s t => Cond.after_iff.mpr (by
  first | (rw [show limb_1_2 = Cond.eq .result (.int 1) from rfl, Cond.eq_ints (x := 1) (y := 1) rfl rfl]; simp; done) | (simp [limb_1_2, Cond.value, Term.eval]; done)))⟩
end
