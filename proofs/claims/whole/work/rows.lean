section
-- ===== PART A: goes FIRST, ahead of the names: the tables' words, and 'selects' of the private methods out of them =====
/-- a private method of a class that the tables say can be made, by its rows of tables_1 -/
def lw_okq (q : MethodName × Nat) : Prop := (q.1.cls ≠ "java/lang/invoke/MethodHandle" ∧ q.1.cls ≠ "java/lang/invoke/VarHandle") ∧ Cond.instantiable q.1.cls q.2 ∈ tables_1 ∧ Cond.privateMethod q.1 ∈ tables_1 ∧ Cond.instanceMethod q.1 ∈ tables_1
theorem lw_p0 : lw_okq (⟨"StuckLines$Responses", "workOut", "(I)V"⟩, 5) := ⟨⟨by decide +kernel, by decide +kernel⟩, List.mem_of_getElem? (i := 126) (by decide +kernel), List.mem_of_getElem? (i := 268) (by decide +kernel), List.mem_of_getElem? (i := 269) (by decide +kernel)⟩
theorem lw_p1 : lw_okq (⟨"StuckLines$Signals", "settle", "(I)V"⟩, 7) := ⟨⟨by decide +kernel, by decide +kernel⟩, List.mem_of_getElem? (i := 97) (by decide +kernel), List.mem_of_getElem? (i := 284) (by decide +kernel), List.mem_of_getElem? (i := 285) (by decide +kernel)⟩
theorem lw_p2 : lw_okq (⟨"StuckLines$Signals", "settleGate", "(I)V"⟩, 7) := ⟨⟨by decide +kernel, by decide +kernel⟩, List.mem_of_getElem? (i := 97) (by decide +kernel), List.mem_of_getElem? (i := 296) (by decide +kernel), List.mem_of_getElem? (i := 297) (by decide +kernel)⟩
theorem lw_p3 : lw_okq (⟨"StuckLines$PackedSet", "gather", "()V"⟩, 6) := ⟨⟨by decide +kernel, by decide +kernel⟩, List.mem_of_getElem? (i := 168) (by decide +kernel), List.mem_of_getElem? (i := 308) (by decide +kernel), List.mem_of_getElem? (i := 309) (by decide +kernel)⟩
theorem lw_p4 : lw_okq (⟨"StuckLines$PackedSet", "thinOut", "()V"⟩, 6) := ⟨⟨by decide +kernel, by decide +kernel⟩, List.mem_of_getElem? (i := 168) (by decide +kernel), List.mem_of_getElem? (i := 322) (by decide +kernel), List.mem_of_getElem? (i := 323) (by decide +kernel)⟩
theorem lw_p5 : lw_okq (⟨"StuckLines$PackedSet", "showAll", "(J)Z"⟩, 6) := ⟨⟨by decide +kernel, by decide +kernel⟩, List.mem_of_getElem? (i := 168) (by decide +kernel), List.mem_of_getElem? (i := 327) (by decide +kernel), List.mem_of_getElem? (i := 328) (by decide +kernel)⟩
theorem lw_p6 : lw_okq (⟨"StuckLines$PackedSet", "dropTheLeftOut", "()V"⟩, 6) := ⟨⟨by decide +kernel, by decide +kernel⟩, List.mem_of_getElem? (i := 168) (by decide +kernel), List.mem_of_getElem? (i := 331) (by decide +kernel), List.mem_of_getElem? (i := 332) (by decide +kernel)⟩
theorem lw_p7 : lw_okq (⟨"java/lang/Throwable", "fillInStackTrace", "(I)Ljava/lang/Throwable;"⟩, 6) := ⟨⟨by decide +kernel, by decide +kernel⟩, List.mem_of_getElem? (i := 402) (by decide +kernel), List.mem_of_getElem? (i := 400) (by decide +kernel), List.mem_of_getElem? (i := 401) (by decide +kernel)⟩
theorem lw_p8 : lw_okq (⟨"StuckLines$Circuit", "addLine", "(I)I"⟩, 15) := ⟨⟨by decide +kernel, by decide +kernel⟩, List.mem_of_getElem? (i := 24) (by decide +kernel), List.mem_of_getElem? (i := 436) (by decide +kernel), List.mem_of_getElem? (i := 437) (by decide +kernel)⟩
theorem lw_p9 : lw_okq (⟨"StuckLines", "requireLine", "(I)V"⟩, 6) := ⟨⟨by decide +kernel, by decide +kernel⟩, List.mem_of_getElem? (i := 16) (by decide +kernel), List.mem_of_getElem? (i := 466) (by decide +kernel), List.mem_of_getElem? (i := 467) (by decide +kernel)⟩
theorem lw_p10 : lw_okq (⟨"StuckLines", "requireLineOrNone", "(I)V"⟩, 6) := ⟨⟨by decide +kernel, by decide +kernel⟩, List.mem_of_getElem? (i := 16) (by decide +kernel), List.mem_of_getElem? (i := 486) (by decide +kernel), List.mem_of_getElem? (i := 487) (by decide +kernel)⟩
theorem lw_p11 : lw_okq (⟨"StuckLines$Circuit", "addPin", "(II)V"⟩, 15) := ⟨⟨by decide +kernel, by decide +kernel⟩, List.mem_of_getElem? (i := 24) (by decide +kernel), List.mem_of_getElem? (i := 495) (by decide +kernel), List.mem_of_getElem? (i := 496) (by decide +kernel)⟩
theorem lw_p12 : lw_okq (⟨"StuckLines$Circuit", "gatherObserved", "()V"⟩, 15) := ⟨⟨by decide +kernel, by decide +kernel⟩, List.mem_of_getElem? (i := 24) (by decide +kernel), List.mem_of_getElem? (i := 515) (by decide +kernel), List.mem_of_getElem? (i := 516) (by decide +kernel)⟩
theorem lw_p13 : lw_okq (⟨"StuckLines$Circuit", "observe", "(I)V"⟩, 15) := ⟨⟨by decide +kernel, by decide +kernel⟩, List.mem_of_getElem? (i := 24) (by decide +kernel), List.mem_of_getElem? (i := 519) (by decide +kernel), List.mem_of_getElem? (i := 520) (by decide +kernel)⟩
theorem lw_p14 : lw_okq (⟨"StuckLines$Responses", "areAlike", "(II)Z"⟩, 5) := ⟨⟨by decide +kernel, by decide +kernel⟩, List.mem_of_getElem? (i := 126) (by decide +kernel), List.mem_of_getElem? (i := 554) (by decide +kernel), List.mem_of_getElem? (i := 555) (by decide +kernel)⟩
theorem lw_p15 : lw_okq (⟨"StuckLines", "requireVector", "(I)V"⟩, 6) := ⟨⟨by decide +kernel, by decide +kernel⟩, List.mem_of_getElem? (i := 16) (by decide +kernel), List.mem_of_getElem? (i := 566) (by decide +kernel), List.mem_of_getElem? (i := 567) (by decide +kernel)⟩
def lw_privs_1 : List (MethodName × Nat) := [(⟨"StuckLines$Responses", "workOut", "(I)V"⟩, 5), (⟨"StuckLines$Signals", "settle", "(I)V"⟩, 7), (⟨"StuckLines$Signals", "settleGate", "(I)V"⟩, 7), (⟨"StuckLines$PackedSet", "gather", "()V"⟩, 6), (⟨"StuckLines$PackedSet", "thinOut", "()V"⟩, 6), (⟨"StuckLines$PackedSet", "showAll", "(J)Z"⟩, 6), (⟨"StuckLines$PackedSet", "dropTheLeftOut", "()V"⟩, 6), (⟨"java/lang/Throwable", "fillInStackTrace", "(I)Ljava/lang/Throwable;"⟩, 6), (⟨"StuckLines$Circuit", "addLine", "(I)I"⟩, 15), (⟨"StuckLines", "requireLine", "(I)V"⟩, 6), (⟨"StuckLines", "requireLineOrNone", "(I)V"⟩, 6), (⟨"StuckLines$Circuit", "addPin", "(II)V"⟩, 15), (⟨"StuckLines$Circuit", "gatherObserved", "()V"⟩, 15), (⟨"StuckLines$Circuit", "observe", "(I)V"⟩, 15), (⟨"StuckLines$Responses", "areAlike", "(II)Z"⟩, 5), (⟨"StuckLines", "requireVector", "(I)V"⟩, 6)]
theorem lw_r1 : ∀ q ∈ lw_privs_1, lw_okq q := List.forall_mem_cons.mpr ⟨lw_p0, List.forall_mem_cons.mpr ⟨lw_p1, List.forall_mem_cons.mpr ⟨lw_p2, List.forall_mem_cons.mpr ⟨lw_p3, List.forall_mem_cons.mpr ⟨lw_p4, List.forall_mem_cons.mpr ⟨lw_p5, List.forall_mem_cons.mpr ⟨lw_p6, List.forall_mem_cons.mpr ⟨lw_p7, List.forall_mem_cons.mpr ⟨lw_p8, List.forall_mem_cons.mpr ⟨lw_p9, List.forall_mem_cons.mpr ⟨lw_p10, List.forall_mem_cons.mpr ⟨lw_p11, List.forall_mem_cons.mpr ⟨lw_p12, List.forall_mem_cons.mpr ⟨lw_p13, List.forall_mem_cons.mpr ⟨lw_p14, List.forall_mem_cons.mpr ⟨lw_p15, fun _ h => absurd h List.not_mem_nil⟩⟩⟩⟩⟩⟩⟩⟩⟩⟩⟩⟩⟩⟩⟩⟩
theorem lw_p16 : lw_okq (⟨"StuckLines", "requireFaultOrNone", "(I)V"⟩, 6) := ⟨⟨by decide +kernel, by decide +kernel⟩, List.mem_of_getElem? (i := 16) (by decide +kernel), List.mem_of_getElem? (i := 572) (by decide +kernel), List.mem_of_getElem? (i := 573) (by decide +kernel)⟩
theorem lw_p17 : lw_okq (⟨"StuckLines", "requireFault", "(I)V"⟩, 6) := ⟨⟨by decide +kernel, by decide +kernel⟩, List.mem_of_getElem? (i := 16) (by decide +kernel), List.mem_of_getElem? (i := 576) (by decide +kernel), List.mem_of_getElem? (i := 577) (by decide +kernel)⟩
theorem lw_p18 : lw_okq (⟨"StuckLines$Cubes", "shows", "(III)Z"⟩, 3) := ⟨⟨by decide +kernel, by decide +kernel⟩, List.mem_of_getElem? (i := 150) (by decide +kernel), List.mem_of_getElem? (i := 657) (by decide +kernel), List.mem_of_getElem? (i := 658) (by decide +kernel)⟩
theorem lw_p19 : lw_okq (⟨"StuckLinesModel", "built", "()V"⟩, 29) := ⟨⟨by decide +kernel, by decide +kernel⟩, List.mem_of_getElem? (i := 679) (by decide +kernel), List.mem_of_getElem? (i := 781) (by decide +kernel), List.mem_of_getElem? (i := 782) (by decide +kernel)⟩
theorem lw_p20 : lw_okq (⟨"StuckLinesModel", "noLine", "(I)Z"⟩, 29) := ⟨⟨by decide +kernel, by decide +kernel⟩, List.mem_of_getElem? (i := 679) (by decide +kernel), List.mem_of_getElem? (i := 793) (by decide +kernel), List.mem_of_getElem? (i := 794) (by decide +kernel)⟩
theorem lw_p21 : lw_okq (⟨"StuckLinesModel", "learn", "()V"⟩, 29) := ⟨⟨by decide +kernel, by decide +kernel⟩, List.mem_of_getElem? (i := 679) (by decide +kernel), List.mem_of_getElem? (i := 809) (by decide +kernel), List.mem_of_getElem? (i := 810) (by decide +kernel)⟩
theorem lw_p22 : lw_okq (⟨"StuckLinesModel", "vectors", "()I"⟩, 29) := ⟨⟨by decide +kernel, by decide +kernel⟩, List.mem_of_getElem? (i := 679) (by decide +kernel), List.mem_of_getElem? (i := 813) (by decide +kernel), List.mem_of_getElem? (i := 814) (by decide +kernel)⟩
theorem lw_p23 : lw_okq (⟨"StuckLinesModel", "make", "(III)V"⟩, 29) := ⟨⟨by decide +kernel, by decide +kernel⟩, List.mem_of_getElem? (i := 679) (by decide +kernel), List.mem_of_getElem? (i := 817) (by decide +kernel), List.mem_of_getElem? (i := 818) (by decide +kernel)⟩
theorem lw_p24 : lw_okq (⟨"StuckLinesModel", "answered", "()I"⟩, 29) := ⟨⟨by decide +kernel, by decide +kernel⟩, List.mem_of_getElem? (i := 679) (by decide +kernel), List.mem_of_getElem? (i := 824) (by decide +kernel), List.mem_of_getElem? (i := 825) (by decide +kernel)⟩
theorem lw_p25 : lw_okq (⟨"StuckLinesModel", "leastOf", "(I)I"⟩, 29) := ⟨⟨by decide +kernel, by decide +kernel⟩, List.mem_of_getElem? (i := 679) (by decide +kernel), List.mem_of_getElem? (i := 828) (by decide +kernel), List.mem_of_getElem? (i := 829) (by decide +kernel)⟩
theorem lw_p26 : lw_okq (⟨"StuckLinesModel", "firstAlike", "(I)I"⟩, 29) := ⟨⟨by decide +kernel, by decide +kernel⟩, List.mem_of_getElem? (i := 679) (by decide +kernel), List.mem_of_getElem? (i := 832) (by decide +kernel), List.mem_of_getElem? (i := 833) (by decide +kernel)⟩
theorem lw_p27 : lw_okq (⟨"StuckLinesModel", "noFault", "(I)Z"⟩, 29) := ⟨⟨by decide +kernel, by decide +kernel⟩, List.mem_of_getElem? (i := 679) (by decide +kernel), List.mem_of_getElem? (i := 840) (by decide +kernel), List.mem_of_getElem? (i := 841) (by decide +kernel)⟩
theorem lw_p28 : lw_okq (⟨"StuckLinesModel", "tells", "(III)Z"⟩, 29) := ⟨⟨by decide +kernel, by decide +kernel⟩, List.mem_of_getElem? (i := 679) (by decide +kernel), List.mem_of_getElem? (i := 876) (by decide +kernel), List.mem_of_getElem? (i := 877) (by decide +kernel)⟩
theorem lw_p29 : lw_okq (⟨"StuckLinesModel", "pack", "()V"⟩, 29) := ⟨⟨by decide +kernel, by decide +kernel⟩, List.mem_of_getElem? (i := 679) (by decide +kernel), List.mem_of_getElem? (i := 884) (by decide +kernel), List.mem_of_getElem? (i := 885) (by decide +kernel)⟩
theorem lw_p30 : lw_okq (⟨"StuckLinesModel", "covered", "(II)Z"⟩, 29) := ⟨⟨by decide +kernel, by decide +kernel⟩, List.mem_of_getElem? (i := 679) (by decide +kernel), List.mem_of_getElem? (i := 888) (by decide +kernel), List.mem_of_getElem? (i := 889) (by decide +kernel)⟩
theorem lw_p31 : lw_okq (⟨"StuckLinesModel", "gives", "(I)Z"⟩, 29) := ⟨⟨by decide +kernel, by decide +kernel⟩, List.mem_of_getElem? (i := 679) (by decide +kernel), List.mem_of_getElem? (i := 904) (by decide +kernel), List.mem_of_getElem? (i := 905) (by decide +kernel)⟩
def lw_privs_2 : List (MethodName × Nat) := [(⟨"StuckLines", "requireFaultOrNone", "(I)V"⟩, 6), (⟨"StuckLines", "requireFault", "(I)V"⟩, 6), (⟨"StuckLines$Cubes", "shows", "(III)Z"⟩, 3), (⟨"StuckLinesModel", "built", "()V"⟩, 29), (⟨"StuckLinesModel", "noLine", "(I)Z"⟩, 29), (⟨"StuckLinesModel", "learn", "()V"⟩, 29), (⟨"StuckLinesModel", "vectors", "()I"⟩, 29), (⟨"StuckLinesModel", "make", "(III)V"⟩, 29), (⟨"StuckLinesModel", "answered", "()I"⟩, 29), (⟨"StuckLinesModel", "leastOf", "(I)I"⟩, 29), (⟨"StuckLinesModel", "firstAlike", "(I)I"⟩, 29), (⟨"StuckLinesModel", "noFault", "(I)Z"⟩, 29), (⟨"StuckLinesModel", "tells", "(III)Z"⟩, 29), (⟨"StuckLinesModel", "pack", "()V"⟩, 29), (⟨"StuckLinesModel", "covered", "(II)Z"⟩, 29), (⟨"StuckLinesModel", "gives", "(I)Z"⟩, 29)]
theorem lw_r2 : ∀ q ∈ lw_privs_2, lw_okq q := List.forall_mem_cons.mpr ⟨lw_p16, List.forall_mem_cons.mpr ⟨lw_p17, List.forall_mem_cons.mpr ⟨lw_p18, List.forall_mem_cons.mpr ⟨lw_p19, List.forall_mem_cons.mpr ⟨lw_p20, List.forall_mem_cons.mpr ⟨lw_p21, List.forall_mem_cons.mpr ⟨lw_p22, List.forall_mem_cons.mpr ⟨lw_p23, List.forall_mem_cons.mpr ⟨lw_p24, List.forall_mem_cons.mpr ⟨lw_p25, List.forall_mem_cons.mpr ⟨lw_p26, List.forall_mem_cons.mpr ⟨lw_p27, List.forall_mem_cons.mpr ⟨lw_p28, List.forall_mem_cons.mpr ⟨lw_p29, List.forall_mem_cons.mpr ⟨lw_p30, List.forall_mem_cons.mpr ⟨lw_p31, fun _ h => absurd h List.not_mem_nil⟩⟩⟩⟩⟩⟩⟩⟩⟩⟩⟩⟩⟩⟩⟩⟩
def lw_privs : List (MethodName × Nat) := lw_privs_1 ++ (lw_privs_2)
def lw_tbl : List Cond := k2_sels lw_privs ++ tables_1
theorem lw_privs_ok : ∀ q ∈ lw_privs, lw_okq q := by
  show ∀ q ∈ lw_privs_1 ++ (lw_privs_2), lw_okq q
  exact List.forall_mem_append.mpr ⟨lw_r1, lw_r2⟩
end
section
/-! classes, fields, words: printed by wip/whole/gen_static.py out of the Statement -/
def sk_T0 : u_T := fun k => match k with
  | 0 => ("StuckLines", "circuit", "LStuckLines$Circuit;", true)
  | 1 => ("StuckLines", "signals", "LStuckLines$Signals;", true)
  | 2 => ("StuckLines", "responses", "LStuckLines$Responses;", true)
  | 3 => ("StuckLines", "cubes", "LStuckLines$Cubes;", true)
  | 4 => ("StuckLines", "packedSet", "LStuckLines$PackedSet;", true)
  | _ => ("StuckLines", "seen", "LStuckLines$SeenLog;", true)
def sk_T1 : u_T := fun k => match k with
  | 0 => ("StuckLines$Circuit", "version", "I", false)
  | 1 => ("StuckLines$Circuit", "lines", "I", false)
  | 2 => ("StuckLines$Circuit", "sources", "I", false)
  | 3 => ("StuckLines$Circuit", "outputs", "I", false)
  | 4 => ("StuckLines$Circuit", "observed", "I", false)
  | 5 => ("StuckLines$Circuit", "pins", "I", false)
  | 6 => ("StuckLines$Circuit", "kindOf", "[I", true)
  | 7 => ("StuckLines$Circuit", "sourceOf", "[I", true)
  | 8 => ("StuckLines$Circuit", "isFlop", "[Z", true)
  | 9 => ("StuckLines$Circuit", "firstPin", "[I", true)
  | 10 => ("StuckLines$Circuit", "lineReadBy", "[I", true)
  | 11 => ("StuckLines$Circuit", "gateOfPin", "[I", true)
  | 12 => ("StuckLines$Circuit", "observedLine", "[I", true)
  | 13 => ("StuckLines$Circuit", "dataOf", "[I", true)
  | _ => ("StuckLines$Circuit", "outputLine", "[I", true)
def sk_T2 : u_T := fun k => match k with
  | 0 => ("StuckLines$Signals", "circuit", "LStuckLines$Circuit;", true)
  | 1 => ("StuckLines$Signals", "sourceOnes", "[J", true)
  | 2 => ("StuckLines$Signals", "sourceZeros", "[J", true)
  | 3 => ("StuckLines$Signals", "ones", "[J", true)
  | 4 => ("StuckLines$Signals", "zeros", "[J", true)
  | 5 => ("StuckLines$Signals", "stuckPin", "I", false)
  | _ => ("StuckLines$Signals", "stuckOnes", "J", false)
def sk_T3 : u_T := fun k => match k with
  | 0 => ("StuckLines$Responses", "circuit", "LStuckLines$Circuit;", true)
  | 1 => ("StuckLines$Responses", "signals", "LStuckLines$Signals;", true)
  | 2 => ("StuckLines$Responses", "observedOnes", "[J", true)
  | 3 => ("StuckLines$Responses", "shownBy", "[J", true)
  | _ => ("StuckLines$Responses", "versionOf", "[I", true)
def sk_T4 : u_T := fun k => match k with
  | 0 => ("StuckLines$Cubes", "circuit", "LStuckLines$Circuit;", true)
  | 1 => ("StuckLines$Cubes", "sound", "LStuckLines$Signals;", true)
  | _ => ("StuckLines$Cubes", "faulty", "LStuckLines$Signals;", true)
def sk_T5 : u_T := fun k => match k with
  | 0 => ("StuckLines$PackedSet", "circuit", "LStuckLines$Circuit;", true)
  | 1 => ("StuckLines$PackedSet", "responses", "LStuckLines$Responses;", true)
  | 2 => ("StuckLines$PackedSet", "vectors", "[I", true)
  | 3 => ("StuckLines$PackedSet", "size", "I", false)
  | 4 => ("StuckLines$PackedSet", "members", "J", false)
  | _ => ("StuckLines$PackedSet", "version", "I", false)
def sk_T6 : u_T := fun k => match k with
  | 0 => ("StuckLines$SeenLog", "responses", "LStuckLines$Responses;", true)
  | 1 => ("StuckLines$SeenLog", "vectors", "[I", true)
  | 2 => ("StuckLines$SeenLog", "seenResponses", "[I", true)
  | _ => ("StuckLines$SeenLog", "size", "I", false)
def sk_T7 : u_T := fun k => match k with
  | 0 => ("StuckLinesModel", "code", "I", false)
  | 1 => ("StuckLinesModel", "lines", "I", false)
  | 2 => ("StuckLinesModel", "sourceOf", "[I", true)
  | 3 => ("StuckLinesModel", "kinds", "[I", true)
  | 4 => ("StuckLinesModel", "pins", "[I", true)
  | 5 => ("StuckLinesModel", "pinCount", "[I", true)
  | 6 => ("StuckLinesModel", "sources", "I", false)
  | 7 => ("StuckLinesModel", "sourceLine", "[I", true)
  | 8 => ("StuckLinesModel", "flop", "[Z", true)
  | 9 => ("StuckLinesModel", "datum", "[I", true)
  | 10 => ("StuckLinesModel", "outputs", "I", false)
  | 11 => ("StuckLinesModel", "outputLine", "[I", true)
  | 12 => ("StuckLinesModel", "seen", "I", false)
  | 13 => ("StuckLinesModel", "observed", "[I", true)
  | 14 => ("StuckLinesModel", "sites", "I", false)
  | 15 => ("StuckLinesModel", "siteLine", "[I", true)
  | 16 => ("StuckLinesModel", "sitePin", "[I", true)
  | 17 => ("StuckLinesModel", "values", "[I", true)
  | 18 => ("StuckLinesModel", "plain", "[I", true)
  | 19 => ("StuckLinesModel", "known", "Z", false)
  | 20 => ("StuckLinesModel", "responses", "[I", true)
  | 21 => ("StuckLinesModel", "right", "[I", true)
  | 22 => ("StuckLinesModel", "packedUp", "Z", false)
  | 23 => ("StuckLinesModel", "chosen", "I", false)
  | 24 => ("StuckLinesModel", "set", "[I", true)
  | 25 => ("StuckLinesModel", "gone", "[Z", true)
  | 26 => ("StuckLinesModel", "logged", "I", false)
  | 27 => ("StuckLinesModel", "logVector", "[I", true)
  | _ => ("StuckLinesModel", "logResponse", "[I", true)
abbrev sk_cl : List vw_C := [("StuckLines", sk_T0, 6), ("StuckLines$Circuit", sk_T1, 15), ("StuckLines$Signals", sk_T2, 7), ("StuckLines$Responses", sk_T3, 5), ("StuckLines$Cubes", sk_T4, 3), ("StuckLines$PackedSet", sk_T5, 6), ("StuckLines$SeenLog", sk_T6, 4), ("StuckLinesModel", sk_T7, 29)]
def sk_kdT : List (List Nat) := [[2, 2, 2, 2, 2, 2], [0, 0, 0, 0, 0, 0, 2, 2, 2, 2, 2, 2, 2, 2, 2], [2, 2, 2, 2, 2, 0, 1], [2, 2, 2, 2, 2], [2, 2, 2], [2, 2, 2, 0, 1, 0], [2, 2, 2, 0], [0, 0, 2, 2, 2, 2, 0, 2, 2, 2, 0, 2, 0, 2, 0, 2, 2, 2, 2, 0, 2, 2, 0, 0, 2, 2, 0, 2, 2]]
def sk_kd (ci j : Nat) : Nat := (sk_kdT.getD ci []).getD j 0
def sk_ts : List Cond := lw_tbl.filter goodWord
theorem sk_in {w : Cond} (h : w ∈ tables_1) (hg : goodWord w = true) : w ∈ sk_ts := List.mem_filter.mpr ⟨List.mem_append_right _ h, hg⟩
theorem sk_inp {q : MethodName × Nat} (h : q ∈ lw_privs) (hg : goodWord (.selects q.1.cls q.1 q.1) = true) : Cond.selects q.1.cls q.1 q.1 ∈ sk_ts := List.mem_filter.mpr ⟨List.mem_append_left _ (List.mem_map.mpr ⟨q, h, rfl⟩), hg⟩
theorem sk_good (w : Cond) (h : w ∈ sk_ts) : goodWord w = true := (List.mem_filter.mp h).2
theorem sk_tbl (w : Cond) (h : w ∈ sk_ts) : w ∈ lw_tbl := (List.mem_filter.mp h).1
def sk_nw : List Cond := [.methodLinkNest "StuckLines" 11 ⟨"StuckLines$Circuit", "<init>", "()V"⟩ "StuckLines", .fieldLinkNest "StuckLines$Signals" 36 "StuckLines" "SOURCE_IN_VECTORS" "[J" "StuckLines", .castable "java/lang/IllegalStateException" "java/lang/IllegalStateException", .declares ⟨"java/lang/RuntimeException", "<init>", "()V"⟩, .declares ⟨"java/lang/RuntimeException", "<init>", "(Ljava/lang/String;)V"⟩, .declares ⟨"java/lang/Exception", "<init>", "()V"⟩, .declares ⟨"java/lang/Exception", "<init>", "(Ljava/lang/String;)V"⟩, .declares ⟨"java/lang/Throwable", "<init>", "()V"⟩, .declares ⟨"java/lang/Throwable", "<init>", "(Ljava/lang/String;)V"⟩, .castable "java/lang/IllegalArgumentException" "java/lang/IllegalArgumentException", .castable "java/lang/IndexOutOfBoundsException" "java/lang/IndexOutOfBoundsException"]
theorem sk_nw_tbl : ∀ w ∈ sk_nw, w ∈ lw_tbl := by
  intro w h
  refine List.mem_append_right _ ?_
  unfold sk_nw at h
  rcases List.mem_cons.mp h with rfl | h
  · exact List.mem_of_getElem? (i := 25) (by decide +kernel)
  rcases List.mem_cons.mp h with rfl | h
  · exact List.mem_of_getElem? (i := 280) (by decide +kernel)
  rcases List.mem_cons.mp h with rfl | h
  · exact List.mem_of_getElem? (i := 365) (by decide +kernel)
  rcases List.mem_cons.mp h with rfl | h
  · exact List.mem_of_getElem? (i := 366) (by decide +kernel)
  rcases List.mem_cons.mp h with rfl | h
  · exact List.mem_of_getElem? (i := 367) (by decide +kernel)
  rcases List.mem_cons.mp h with rfl | h
  · exact List.mem_of_getElem? (i := 368) (by decide +kernel)
  rcases List.mem_cons.mp h with rfl | h
  · exact List.mem_of_getElem? (i := 369) (by decide +kernel)
  rcases List.mem_cons.mp h with rfl | h
  · exact List.mem_of_getElem? (i := 370) (by decide +kernel)
  rcases List.mem_cons.mp h with rfl | h
  · exact List.mem_of_getElem? (i := 371) (by decide +kernel)
  rcases List.mem_cons.mp h with rfl | h
  · exact List.mem_of_getElem? (i := 450) (by decide +kernel)
  rcases List.mem_cons.mp h with rfl | h
  · exact List.mem_of_getElem? (i := 471) (by decide +kernel)
  · cases h
def sk_str : List (Nat × String) := [(70, "no room for a source"), (81, "no such kind"), (84, "a pin is missing"), (225, "no such line"), (93, "no room for a gate"), (106, "an output already, or no room for one"), (116, "not a flip-flop"), (138, "nothing to count"), (231, "no such vector"), (233, "no such fault"), (181, "nothing to tell of a fault"), (196, "not a sum of sources"), (198, "a source is open and 1"), (210, "no such response"), (215, "the log is full")]
def sk_siv (j : Nat) : Int64 := ([-6148914691236517206, -3689348814741910324, -1085102592571150096, -71777214294589696, -281470681808896, -4294967296] : List Int64).getD j 0
def sk_fty (T : u_T) : Nat → FieldType := fun k => (parseFieldDescriptor (T k).2.2.1).getD .int
def sk_dfv (kd : Nat) : Value := match kd with | 0 => .int 0 | 1 => .long 0 | _ => .null
def sk_clOk (ci : Nat) (q : vw_C) : Bool := (List.range q.2.2).all (fun k => (parseFieldDescriptor (q.2.1 k).2.2.1).isSome) && (List.range q.2.2).all (fun a => (List.range q.2.2).all (fun b => decide (a = b) || decide ((q.2.1 a).2.1 ≠ (q.2.1 b).2.1))) && (List.range q.2.2).all (fun k => decide (defaultValue (sk_fty q.2.1 k) = sk_dfv (sk_kd ci k))) && (u_ws q.1 q.2.1 q.2.2).all (fun w => decide (w ∈ tables_1) && goodWord w)
theorem sk_ok0 : sk_clOk 0 ("StuckLines", sk_T0, 6) = true := by decide +kernel
theorem sk_ok1 : sk_clOk 1 ("StuckLines$Circuit", sk_T1, 15) = true := by decide +kernel
theorem sk_ok2 : sk_clOk 2 ("StuckLines$Signals", sk_T2, 7) = true := by decide +kernel
theorem sk_ok3 : sk_clOk 3 ("StuckLines$Responses", sk_T3, 5) = true := by decide +kernel
theorem sk_ok4 : sk_clOk 4 ("StuckLines$Cubes", sk_T4, 3) = true := by decide +kernel
theorem sk_ok5 : sk_clOk 5 ("StuckLines$PackedSet", sk_T5, 6) = true := by decide +kernel
theorem sk_ok6 : sk_clOk 6 ("StuckLines$SeenLog", sk_T6, 4) = true := by decide +kernel
theorem sk_ok7 : sk_clOk 7 ("StuckLinesModel", sk_T7, 29) = true := by decide +kernel
theorem sk_clAll {ci : Nat} {q : vw_C} (h : sk_cl[ci]? = some q) : sk_clOk ci q = true := by
  match ci, h with
  | 0, h => cases h; exact sk_ok0
  | 1, h => cases h; exact sk_ok1
  | 2, h => cases h; exact sk_ok2
  | 3, h => cases h; exact sk_ok3
  | 4, h => cases h; exact sk_ok4
  | 5, h => cases h; exact sk_ok5
  | 6, h => cases h; exact sk_ok6
  | 7, h => cases h; exact sk_ok7
  | (n + 8), h => simp [sk_cl] at h
theorem sk_lays {ci : Nat} {C : String} {T : u_T} {N : Nat} (h : sk_cl[ci]? = some (C, T, N)) : ∀ w ∈ u_ws C T N, w ∈ sk_ts := by
  intro w hw
  have h1 := sk_clAll h
  simp only [sk_clOk, Bool.and_eq_true] at h1
  have h2 := List.all_eq_true.mp h1.2 w hw
  simp only [Bool.and_eq_true, decide_eq_true_eq] at h2
  exact sk_in h2.1 h2.2
theorem sk_ftyOk {ci : Nat} {C : String} {T : u_T} {N : Nat} (h : sk_cl[ci]? = some (C, T, N)) : ∀ k, k < N → parseFieldDescriptor (T k).2.2.1 = some (sk_fty T k) := by
  intro k hk
  have h1 := sk_clAll h
  simp only [sk_clOk, Bool.and_eq_true] at h1
  have h2 := List.all_eq_true.mp h1.1.1.1 k (List.mem_range.mpr hk)
  obtain ⟨v, hv⟩ := Option.isSome_iff_exists.mp h2
  simp only [sk_fty]
  rw [hv]; rfl
theorem sk_names {ci : Nat} {C : String} {T : u_T} {N : Nat} (h : sk_cl[ci]? = some (C, T, N)) : ∀ a, a < N → ∀ b, b < N → a ≠ b → (T a).2.1 ≠ (T b).2.1 := by
  intro a ha b hb hab
  have h1 := sk_clAll h
  simp only [sk_clOk, Bool.and_eq_true] at h1
  have h2 := List.all_eq_true.mp (List.all_eq_true.mp h1.1.1.2 a (List.mem_range.mpr ha)) b (List.mem_range.mpr hb)
  simp only [Bool.or_eq_true, decide_eq_true_eq] at h2
  exact h2.resolve_left hab
theorem sk_dflt {ci : Nat} {C : String} {T : u_T} {N : Nat} (h : sk_cl[ci]? = some (C, T, N)) {j : Nat} (hj : j < N) : defaultValue (sk_fty T j) = sk_dfv (sk_kd ci j) := by
  have h1 := sk_clAll h
  simp only [sk_clOk, Bool.and_eq_true] at h1
  have h2 := List.all_eq_true.mp h1.1.2 j (List.mem_range.mpr hj)
  exact of_decide_eq_true h2
end
section
theorem sk_last_dummy : True := trivial
end
