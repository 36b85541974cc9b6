section
-- ===== PART A: goes FIRST, ahead of the names: the tables' words, and 'selects' of the private methods out of them =====
/-- a private method of a class that the tables say can be made, by its rows of tables_1 -/
def lw_okq (q : MethodName × Nat) : Prop := (q.1.cls ≠ "java/lang/invoke/MethodHandle" ∧ q.1.cls ≠ "java/lang/invoke/VarHandle") ∧ Cond.instantiable q.1.cls q.2 ∈ tables_1 ∧ Cond.privateMethod q.1 ∈ tables_1 ∧ Cond.instanceMethod q.1 ∈ tables_1
theorem lw_p0 : lw_okq (⟨"StuckLines$Responses", "workOut", "(I)V"⟩, 5) := ⟨⟨by decide +kernel, by decide +kernel⟩, List.mem_of_getElem? (i := 126) (by decide +kernel), List.mem_of_getElem? (i := 268) (by decide +kernel), List.mem_of_getElem? (i := 269) (by decide +kernel)⟩
theorem lw_p1 : lw_okq (⟨"StuckLines$Signals", "settle", "(I)V"⟩, 7) := ⟨⟨by decide +kernel, by decide +kernel⟩, List.mem_of_getElem? (i := 97) (by decide +kernel), List.mem_of_getElem? (i := 284) (by decide +kernel), List.mem_of_getElem? (i := 285) (by decide +kernel)⟩
theorem lw_p2 : lw_okq (⟨"StuckLines$Signals", "settleGate", "(I)V"⟩, 7) := ⟨⟨by decide +kernel, by decide +kernel⟩, List.mem_of_getElem? (i := 97) (by decide +kernel), List.mem_of_getElem? (i := 296) (by decide +kernel), List.mem_of_getElem? (i := 297) (by decide +kernel)⟩
theorem lw_p3 : lw_okq (⟨"StuckLines$PackedSet", "gather", "()V"⟩, 6) := ⟨⟨by decide +kernel, by decide +kernel⟩, List.mem_of_getElem? (i := 168) (by decide +kernel), List.mem_of_getElem? (i := 308) (by decide +kernel), List.mem_of_getElem? (i := 309) (by decide +kernel)⟩
theorem lw_p4 : lw_okq (⟨"StuckLines$PackedSet", "thinOut", "()V"⟩, 6) := ⟨⟨by decide +kernel, by decide +kernel⟩, List.mem_of_getElem? (i := 168) (by decide +kernel), List.mem_of_getElem? (i := 322) (by decide +kernel), List.mem_of_getElem? (i := 323) (by decide +kernel)⟩
theorem lw_p5 : lw_okq (⟨"StuckLines$PackedSet", "showAll", "(J)Z"⟩, 6) := ⟨⟨by decide +kernel, by decide +kernel⟩, List.mem_of_getElem? (i := 168) (by decide +kernel), List.mem_of_getElem? (i := 327) (by decide +kernel), List.mem_of_getElem? (i := 328) (by decide +kernel)⟩
theorem lw_p6 : lw_okq (⟨"StuckLines$PackedSet", "dropTheLeftOut", "()V"⟩, 6) := ⟨⟨by decide +kernel, by decide +kernel⟩, List.mem_of_getElem? (i := 168) (by decide +kernel), List.mem_of_getElem? (i := 331) (by decide +kernel), List.mem_of_getElem? (i := 332) (by decide +kernel)⟩
theorem lw_p7 : lw_okq (⟨"java/lang/Throwable", "fillInStackTrace", "(I)Ljava/lang/Throwable;"⟩, 6) := ⟨⟨by decide +kernel, by decide +kernel⟩, List.mem_of_getElem? (i := 402) (by decide +kernel), List.mem_of_getElem? (i := 400) (by decide +kernel), List.mem_of_getElem? (i := 401) (by decide +kernel)⟩
theorem lw_p8 : lw_okq (⟨"StuckLines$Circuit", "addLine", "(I)I"⟩, 15) := ⟨⟨by decide +kernel, by decide +kernel⟩, List.mem_of_getElem? (i := 24) (by decide +kernel), List.mem_of_getElem? (i := 436) (by decide +kernel), List.mem_of_getElem? (i := 437) (by decide +kernel)⟩
theorem lw_p9 : lw_okq (⟨"StuckLines", "requireLine", "(I)V"⟩, 6) := ⟨⟨by decide +kernel, by decide +kernel⟩, List.mem_of_getElem? (i := 16) (by decide +kernel), List.mem_of_getElem? (i := 466) (by decide +kernel), List.mem_of_getElem? (i := 467) (by decide +kernel)⟩
theorem lw_p10 : lw_okq (⟨"StuckLines", "requireLineOrNone", "(I)V"⟩, 6) := ⟨⟨by decide +kernel, by decide +kernel⟩, List.mem_of_getElem? (i := 16) (by decide +kernel), List.mem_of_getElem? (i := 486) (by decide +kernel), List.mem_of_getElem? (i := 487) (by decide +kernel)⟩
theorem lw_p11 : lw_okq (⟨"StuckLines$Circuit", "addPin", "(II)V"⟩, 15) := ⟨⟨by decide +kernel, by decide +kernel⟩, List.mem_of_getElem? (i := 24) (by decide +kernel), List.mem_of_getElem? (i := 495) (by decide +kernel), List.mem_of_getElem? (i := 496) (by decide +kernel)⟩
theorem lw_p12 : lw_okq (⟨"StuckLines$Circuit", "gatherObserved", "()V"⟩, 15) := ⟨⟨by decide +kernel, by decide +kernel⟩, List.mem_of_getElem? (i := 24) (by decide +kernel), List.mem_of_getElem? (i := 515) (by decide +kernel), List.mem_of_getElem? (i := 516) (by decide +kernel)⟩
theorem lw_p13 : lw_okq (⟨"StuckLines$Circuit", "observe", "(I)V"⟩, 15) := ⟨⟨by decide +kernel, by decide +kernel⟩, List.mem_of_getElem? (i := 24) (by decide +kernel), List.mem_of_getElem? (i := 519) (by decide +kernel), List.mem_of_getElem? (i := 520) (by decide +kernel)⟩
theorem lw_p14 : lw_okq (⟨"StuckLines$Responses", "areAlike", "(II)Z"⟩, 5) := ⟨⟨by decide +kernel, by decide +kernel⟩, List.mem_of_getElem? (i := 126) (by decide +kernel), List.mem_of_getElem? (i := 554) (by decide +kernel), List.mem_of_getElem? (i := 555) (by decide +kernel)⟩
theorem lw_p15 : lw_okq (⟨"StuckLines", "requireVector", "(I)V"⟩, 6) := ⟨⟨by decide +kernel, by decide +kernel⟩, List.mem_of_getElem? (i := 16) (by decide +kernel), List.mem_of_getElem? (i := 566) (by decide +kernel), List.mem_of_getElem? (i := 567) (by decide +kernel)⟩
def lw_privs_1 : List (MethodName × Nat) := [(⟨"StuckLines$Responses", "workOut", "(I)V"⟩, 5), (⟨"StuckLines$Signals", "settle", "(I)V"⟩, 7), (⟨"StuckLines$Signals", "settleGate", "(I)V"⟩, 7), (⟨"StuckLines$PackedSet", "gather", "()V"⟩, 6), (⟨"StuckLines$PackedSet", "thinOut", "()V"⟩, 6), (⟨"StuckLines$PackedSet", "showAll", "(J)Z"⟩, 6), (⟨"StuckLines$PackedSet", "dropTheLeftOut", "()V"⟩, 6), (⟨"java/lang/Throwable", "fillInStackTrace", "(I)Ljava/lang/Throwable;"⟩, 6), (⟨"StuckLines$Circuit", "addLine", "(I)I"⟩, 15), (⟨"StuckLines", "requireLine", "(I)V"⟩, 6), (⟨"StuckLines", "requireLineOrNone", "(I)V"⟩, 6), (⟨"StuckLines$Circuit", "addPin", "(II)V"⟩, 15), (⟨"StuckLines$Circuit", "gatherObserved", "()V"⟩, 15), (⟨"StuckLines$Circuit", "observe", "(I)V"⟩, 15), (⟨"StuckLines$Responses", "areAlike", "(II)Z"⟩, 5), (⟨"StuckLines", "requireVector", "(I)V"⟩, 6)]
theorem lw_r1 : ∀ q ∈ lw_privs_1, lw_okq q := List.forall_mem_cons.mpr ⟨lw_p0, List.forall_mem_cons.mpr ⟨lw_p1, List.forall_mem_cons.mpr ⟨lw_p2, List.forall_mem_cons.mpr ⟨lw_p3, List.forall_mem_cons.mpr ⟨lw_p4, List.forall_mem_cons.mpr ⟨lw_p5, List.forall_mem_cons.mpr ⟨lw_p6, List.forall_mem_cons.mpr ⟨lw_p7, List.forall_mem_cons.mpr ⟨lw_p8, List.forall_mem_cons.mpr ⟨lw_p9, List.forall_mem_cons.mpr ⟨lw_p10, List.forall_mem_cons.mpr ⟨lw_p11, List.forall_mem_cons.mpr ⟨lw_p12, List.forall_mem_cons.mpr ⟨lw_p13, List.forall_mem_cons.mpr ⟨lw_p14, List.forall_mem_cons.mpr ⟨lw_p15, fun _ h => absurd h List.not_mem_nil⟩⟩⟩⟩⟩⟩⟩⟩⟩⟩⟩⟩⟩⟩⟩⟩
theorem lw_p16 : lw_okq (⟨"StuckLines", "requireFaultOrNone", "(I)V"⟩, 6) := ⟨⟨by decide +kernel, by decide +kernel⟩, List.mem_of_getElem? (i := 16) (by decide +kernel), List.mem_of_getElem? (i := 572) (by decide +kernel), List.mem_of_getElem? (i := 573) (by decide +kernel)⟩
theorem lw_p17 : lw_okq (⟨"StuckLines", "requireFault", "(I)V"⟩, 6) := ⟨⟨by decide +kernel, by decide +kernel⟩, List.mem_of_getElem? (i := 16) (by decide +kernel), List.mem_of_getElem? (i := 576) (by decide +kernel), List.mem_of_getElem? (i := 577) (by decide +kernel)⟩
theorem lw_p18 : lw_okq (⟨"StuckLines$Cubes", "shows", "(III)Z"⟩, 3) := ⟨⟨by decide +kernel, by decide +kernel⟩, List.mem_of_getElem? (i := 150) (by decide +kernel), List.mem_of_getElem? (i := 657) (by decide +kernel), List.mem_of_getElem? (i := 658) (by decide +kernel)⟩
theorem lw_p19 : lw_okq (⟨"StuckLinesModel", "built", "()V"⟩, 29) := ⟨⟨by decide +kernel, by decide +kernel⟩, List.mem_of_getElem? (i := 679) (by decide +kernel), List.mem_of_getElem? (i := 781) (by decide +kernel), List.mem_of_getElem? (i := 782) (by decide +kernel)⟩
theorem lw_p20 : lw_okq (⟨"StuckLinesModel", "noLine", "(I)Z"⟩, 29) := ⟨⟨by decide +kernel, by decide +kernel⟩, List.mem_of_getElem? (i := 679) (by decide +kernel), List.mem_of_getElem? (i := 793) (by decide +kernel), List.mem_of_getElem? (i := 794) (by decide +kernel)⟩
theorem lw_p21 : lw_okq (⟨"StuckLinesModel", "learn", "()V"⟩, 29) := ⟨⟨by decide +kernel, by decide +kernel⟩, List.mem_of_getElem? (i := 679) (by decide +kernel), List.mem_of_getElem? (i := 809) (by decide +kernel), List.mem_of_getElem? (i := 810) (by decide +kernel)⟩
theorem lw_p22 : lw_okq (⟨"StuckLinesModel", "vectors", "()I"⟩, 29) := ⟨⟨by decide +kernel, by decide +kernel⟩, List.mem_of_getElem? (i := 679) (by decide +kernel), List.mem_of_getElem? (i := 813) (by decide +kernel), List.mem_of_getElem? (i := 814) (by decide +kernel)⟩
theorem lw_p23 : lw_okq (⟨"StuckLinesModel", "make", "(III)V"⟩, 29) := ⟨⟨by decide +kernel, by decide +kernel⟩, List.mem_of_getElem? (i := 679) (by decide +kernel), List.mem_of_getElem? (i := 817) (by decide +kernel), List.mem_of_getElem? (i := 818) (by decide +kernel)⟩
theorem lw_p24 : lw_okq (⟨"StuckLinesModel", "answered", "()I"⟩, 29) := ⟨⟨by decide +kernel, by decide +kernel⟩, List.mem_of_getElem? (i := 679) (by decide +kernel), List.mem_of_getElem? (i := 824) (by decide +kernel), List.mem_of_getElem? (i := 825) (by decide +kernel)⟩
theorem lw_p25 : lw_okq (⟨"StuckLinesModel", "leastOf", "(I)I"⟩, 29) := ⟨⟨by decide +kernel, by decide +kernel⟩, List.mem_of_getElem? (i := 679) (by decide +kernel), List.mem_of_getElem? (i := 828) (by decide +kernel), List.mem_of_getElem? (i := 829) (by decide +kernel)⟩
theorem lw_p26 : lw_okq (⟨"StuckLinesModel", "firstAlike", "(I)I"⟩, 29) := ⟨⟨by decide +kernel, by decide +kernel⟩, List.mem_of_getElem? (i := 679) (by decide +kernel), List.mem_of_getElem? (i := 832) (by decide +kernel), List.mem_of_getElem? (i := 833) (by decide +kernel)⟩
theorem lw_p27 : lw_okq (⟨"StuckLinesModel", "noFault", "(I)Z"⟩, 29) := ⟨⟨by decide +kernel, by decide +kernel⟩, List.mem_of_getElem? (i := 679) (by decide +kernel), List.mem_of_getElem? (i := 840) (by decide +kernel), List.mem_of_getElem? (i := 841) (by decide +kernel)⟩
theorem lw_p28 : lw_okq (⟨"StuckLinesModel", "tells", "(III)Z"⟩, 29) := ⟨⟨by decide +kernel, by decide +kernel⟩, List.mem_of_getElem? (i := 679) (by decide +kernel), List.mem_of_getElem? (i := 876) (by decide +kernel), List.mem_of_getElem? (i := 877) (by decide +kernel)⟩
theorem lw_p29 : lw_okq (⟨"StuckLinesModel", "pack", "()V"⟩, 29) := ⟨⟨by decide +kernel, by decide +kernel⟩, List.mem_of_getElem? (i := 679) (by decide +kernel), List.mem_of_getElem? (i := 884) (by decide +kernel), List.mem_of_getElem? (i := 885) (by decide +kernel)⟩
theorem lw_p30 : lw_okq (⟨"StuckLinesModel", "covered", "(II)Z"⟩, 29) := ⟨⟨by decide +kernel, by decide +kernel⟩, List.mem_of_getElem? (i := 679) (by decide +kernel), List.mem_of_getElem? (i := 888) (by decide +kernel), List.mem_of_getElem? (i := 889) (by decide +kernel)⟩
theorem lw_p31 : lw_okq (⟨"StuckLinesModel", "gives", "(I)Z"⟩, 29) := ⟨⟨by decide +kernel, by decide +kernel⟩, List.mem_of_getElem? (i := 679) (by decide +kernel), List.mem_of_getElem? (i := 904) (by decide +kernel), List.mem_of_getElem? (i := 905) (by decide +kernel)⟩
def lw_privs_2 : List (MethodName × Nat) := [(⟨"StuckLines", "requireFaultOrNone", "(I)V"⟩, 6), (⟨"StuckLines", "requireFault", "(I)V"⟩, 6), (⟨"StuckLines$Cubes", "shows", "(III)Z"⟩, 3), (⟨"StuckLinesModel", "built", "()V"⟩, 29), (⟨"StuckLinesModel", "noLine", "(I)Z"⟩, 29), (⟨"StuckLinesModel", "learn", "()V"⟩, 29), (⟨"StuckLinesModel", "vectors", "()I"⟩, 29), (⟨"StuckLinesModel", "make", "(III)V"⟩, 29), (⟨"StuckLinesModel", "answered", "()I"⟩, 29), (⟨"StuckLinesModel", "leastOf", "(I)I"⟩, 29), (⟨"StuckLinesModel", "firstAlike", "(I)I"⟩, 29), (⟨"StuckLinesModel", "noFault", "(I)Z"⟩, 29), (⟨"StuckLinesModel", "tells", "(III)Z"⟩, 29), (⟨"StuckLinesModel", "pack", "()V"⟩, 29), (⟨"StuckLinesModel", "covered", "(II)Z"⟩, 29), (⟨"StuckLinesModel", "gives", "(I)Z"⟩, 29)]
theorem lw_r2 : ∀ q ∈ lw_privs_2, lw_okq q := List.forall_mem_cons.mpr ⟨lw_p16, List.forall_mem_cons.mpr ⟨lw_p17, List.forall_mem_cons.mpr ⟨lw_p18, List.forall_mem_cons.mpr ⟨lw_p19, List.forall_mem_cons.mpr ⟨lw_p20, List.forall_mem_cons.mpr ⟨lw_p21, List.forall_mem_cons.mpr ⟨lw_p22, List.forall_mem_cons.mpr ⟨lw_p23, List.forall_mem_cons.mpr ⟨lw_p24, List.forall_mem_cons.mpr ⟨lw_p25, List.forall_mem_cons.mpr ⟨lw_p26, List.forall_mem_cons.mpr ⟨lw_p27, List.forall_mem_cons.mpr ⟨lw_p28, List.forall_mem_cons.mpr ⟨lw_p29, List.forall_mem_cons.mpr ⟨lw_p30, List.forall_mem_cons.mpr ⟨lw_p31, fun _ h => absurd h List.not_mem_nil⟩⟩⟩⟩⟩⟩⟩⟩⟩⟩⟩⟩⟩⟩⟩⟩
def lw_privs : List (MethodName × Nat) := lw_privs_1 ++ (lw_privs_2)
def lw_tbl : List Cond := k2_sels lw_privs ++ tables_1
theorem lw_privs_ok : ∀ q ∈ lw_privs, lw_okq q := by
  show ∀ q ∈ lw_privs_1 ++ (lw_privs_2), lw_okq q
  exact List.forall_mem_append.mpr ⟨lw_r1, lw_r2⟩
end
section
/-! classes, fields, words: printed by wip/whole/gen_static.py out of the Statement -/
def sk_T0 : u_T := fun k => match k with
  | 0 => ("StuckLines", "circuit", "LStuckLines$Circuit;", true)
  | 1 => ("StuckLines", "signals", "LStuckLines$Signals;", true)
  | 2 => ("StuckLines", "responses", "LStuckLines$Responses;", true)
  | 3 => ("StuckLines", "cubes", "LStuckLines$Cubes;", true)
  | 4 => ("StuckLines", "packedSet", "LStuckLines$PackedSet;", true)
  | _ => ("StuckLines", "seen", "LStuckLines$SeenLog;", true)
def sk_T1 : u_T := fun k => match k with
  | 0 => ("StuckLines$Circuit", "version", "I", false)
  | 1 => ("StuckLines$Circuit", "lines", "I", false)
  | 2 => ("StuckLines$Circuit", "sources", "I", false)
  | 3 => ("StuckLines$Circuit", "outputs", "I", false)
  | 4 => ("StuckLines$Circuit", "observed", "I", false)
  | 5 => ("StuckLines$Circuit", "pins", "I", false)
  | 6 => ("StuckLines$Circuit", "kindOf", "[I", true)
  | 7 => ("StuckLines$Circuit", "sourceOf", "[I", true)
  | 8 => ("StuckLines$Circuit", "isFlop", "[Z", true)
  | 9 => ("StuckLines$Circuit", "firstPin", "[I", true)
  | 10 => ("StuckLines$Circuit", "lineReadBy", "[I", true)
  | 11 => ("StuckLines$Circuit", "gateOfPin", "[I", true)
  | 12 => ("StuckLines$Circuit", "observedLine", "[I", true)
  | 13 => ("StuckLines$Circuit", "dataOf", "[I", true)
  | _ => ("StuckLines$Circuit", "outputLine", "[I", true)
def sk_T2 : u_T := fun k => match k with
  | 0 => ("StuckLines$Signals", "circuit", "LStuckLines$Circuit;", true)
  | 1 => ("StuckLines$Signals", "sourceOnes", "[J", true)
  | 2 => ("StuckLines$Signals", "sourceZeros", "[J", true)
  | 3 => ("StuckLines$Signals", "ones", "[J", true)
  | 4 => ("StuckLines$Signals", "zeros", "[J", true)
  | 5 => ("StuckLines$Signals", "stuckPin", "I", false)
  | _ => ("StuckLines$Signals", "stuckOnes", "J", false)
def sk_T3 : u_T := fun k => match k with
  | 0 => ("StuckLines$Responses", "circuit", "LStuckLines$Circuit;", true)
  | 1 => ("StuckLines$Responses", "signals", "LStuckLines$Signals;", true)
  | 2 => ("StuckLines$Responses", "observedOnes", "[J", true)
  | 3 => ("StuckLines$Responses", "shownBy", "[J", true)
  | _ => ("StuckLines$Responses", "versionOf", "[I", true)
def sk_T4 : u_T := fun k => match k with
  | 0 => ("StuckLines$Cubes", "circuit", "LStuckLines$Circuit;", true)
  | 1 => ("StuckLines$Cubes", "sound", "LStuckLines$Signals;", true)
  | _ => ("StuckLines$Cubes", "faulty", "LStuckLines$Signals;", true)
def sk_T5 : u_T := fun k => match k with
  | 0 => ("StuckLines$PackedSet", "circuit", "LStuckLines$Circuit;", true)
  | 1 => ("StuckLines$PackedSet", "responses", "LStuckLines$Responses;", true)
  | 2 => ("StuckLines$PackedSet", "vectors", "[I", true)
  | 3 => ("StuckLines$PackedSet", "size", "I", false)
  | 4 => ("StuckLines$PackedSet", "members", "J", false)
  | _ => ("StuckLines$PackedSet", "version", "I", false)
def sk_T6 : u_T := fun k => match k with
  | 0 => ("StuckLines$SeenLog", "responses", "LStuckLines$Responses;", true)
  | 1 => ("StuckLines$SeenLog", "vectors", "[I", true)
  | 2 => ("StuckLines$SeenLog", "seenResponses", "[I", true)
  | _ => ("StuckLines$SeenLog", "size", "I", false)
def sk_T7 : u_T := fun k => match k with
  | 0 => ("StuckLinesModel", "code", "I", false)
  | 1 => ("StuckLinesModel", "lines", "I", false)
  | 2 => ("StuckLinesModel", "sourceOf", "[I", true)
  | 3 => ("StuckLinesModel", "kinds", "[I", true)
  | 4 => ("StuckLinesModel", "pins", "[I", true)
  | 5 => ("StuckLinesModel", "pinCount", "[I", true)
  | 6 => ("StuckLinesModel", "sources", "I", false)
  | 7 => ("StuckLinesModel", "sourceLine", "[I", true)
  | 8 => ("StuckLinesModel", "flop", "[Z", true)
  | 9 => ("StuckLinesModel", "datum", "[I", true)
  | 10 => ("StuckLinesModel", "outputs", "I", false)
  | 11 => ("StuckLinesModel", "outputLine", "[I", true)
  | 12 => ("StuckLinesModel", "seen", "I", false)
  | 13 => ("StuckLinesModel", "observed", "[I", true)
  | 14 => ("StuckLinesModel", "sites", "I", false)
  | 15 => ("StuckLinesModel", "siteLine", "[I", true)
  | 16 => ("StuckLinesModel", "sitePin", "[I", true)
  | 17 => ("StuckLinesModel", "values", "[I", true)
  | 18 => ("StuckLinesModel", "plain", "[I", true)
  | 19 => ("StuckLinesModel", "known", "Z", false)
  | 20 => ("StuckLinesModel", "responses", "[I", true)
  | 21 => ("StuckLinesModel", "right", "[I", true)
  | 22 => ("StuckLinesModel", "packedUp", "Z", false)
  | 23 => ("StuckLinesModel", "chosen", "I", false)
  | 24 => ("StuckLinesModel", "set", "[I", true)
  | 25 => ("StuckLinesModel", "gone", "[Z", true)
  | 26 => ("StuckLinesModel", "logged", "I", false)
  | 27 => ("StuckLinesModel", "logVector", "[I", true)
  | _ => ("StuckLinesModel", "logResponse", "[I", true)
abbrev sk_cl : List vw_C := [("StuckLines", sk_T0, 6), ("StuckLines$Circuit", sk_T1, 15), ("StuckLines$Signals", sk_T2, 7), ("StuckLines$Responses", sk_T3, 5), ("StuckLines$Cubes", sk_T4, 3), ("StuckLines$PackedSet", sk_T5, 6), ("StuckLines$SeenLog", sk_T6, 4), ("StuckLinesModel", sk_T7, 29)]
def sk_kdT : List (List Nat) := [[2, 2, 2, 2, 2, 2], [0, 0, 0, 0, 0, 0, 2, 2, 2, 2, 2, 2, 2, 2, 2], [2, 2, 2, 2, 2, 0, 1], [2, 2, 2, 2, 2], [2, 2, 2], [2, 2, 2, 0, 1, 0], [2, 2, 2, 0], [0, 0, 2, 2, 2, 2, 0, 2, 2, 2, 0, 2, 0, 2, 0, 2, 2, 2, 2, 0, 2, 2, 0, 0, 2, 2, 0, 2, 2]]
def sk_kd (ci j : Nat) : Nat := (sk_kdT.getD ci []).getD j 0
def sk_ts : List Cond := lw_tbl.filter goodWord
theorem sk_in {w : Cond} (h : w ∈ tables_1) (hg : goodWord w = true) : w ∈ sk_ts := List.mem_filter.mpr ⟨List.mem_append_right _ h, hg⟩
theorem sk_inp {q : MethodName × Nat} (h : q ∈ lw_privs) (hg : goodWord (.selects q.1.cls q.1 q.1) = true) : Cond.selects q.1.cls q.1 q.1 ∈ sk_ts := List.mem_filter.mpr ⟨List.mem_append_left _ (List.mem_map.mpr ⟨q, h, rfl⟩), hg⟩
theorem sk_good (w : Cond) (h : w ∈ sk_ts) : goodWord w = true := (List.mem_filter.mp h).2
theorem sk_tbl (w : Cond) (h : w ∈ sk_ts) : w ∈ lw_tbl := (List.mem_filter.mp h).1
def sk_nw : List Cond := [.methodLinkNest "StuckLines" 11 ⟨"StuckLines$Circuit", "<init>", "()V"⟩ "StuckLines", .fieldLinkNest "StuckLines$Signals" 36 "StuckLines" "SOURCE_IN_VECTORS" "[J" "StuckLines", .castable "java/lang/IllegalStateException" "java/lang/IllegalStateException", .declares ⟨"java/lang/RuntimeException", "<init>", "()V"⟩, .declares ⟨"java/lang/RuntimeException", "<init>", "(Ljava/lang/String;)V"⟩, .declares ⟨"java/lang/Exception", "<init>", "()V"⟩, .declares ⟨"java/lang/Exception", "<init>", "(Ljava/lang/String;)V"⟩, .declares ⟨"java/lang/Throwable", "<init>", "()V"⟩, .declares ⟨"java/lang/Throwable", "<init>", "(Ljava/lang/String;)V"⟩, .castable "java/lang/IllegalArgumentException" "java/lang/IllegalArgumentException", .castable "java/lang/IndexOutOfBoundsException" "java/lang/IndexOutOfBoundsException"]
theorem sk_nw_tbl : ∀ w ∈ sk_nw, w ∈ lw_tbl := by
  intro w h
  refine List.mem_append_right _ ?_
  unfold sk_nw at h
  rcases List.mem_cons.mp h with rfl | h
  · exact List.mem_of_getElem? (i := 25) (by decide +kernel)
  rcases List.mem_cons.mp h with rfl | h
  · exact List.mem_of_getElem? (i := 280) (by decide +kernel)
  rcases List.mem_cons.mp h with rfl | h
  · exact List.mem_of_getElem? (i := 365) (by decide +kernel)
  rcases List.mem_cons.mp h with rfl | h
  · exact List.mem_of_getElem? (i := 366) (by decide +kernel)
  rcases List.mem_cons.mp h with rfl | h
  · exact List.mem_of_getElem? (i := 367) (by decide +kernel)
  rcases List.mem_cons.mp h with rfl | h
  · exact List.mem_of_getElem? (i := 368) (by decide +kernel)
  rcases List.mem_cons.mp h with rfl | h
  · exact List.mem_of_getElem? (i := 369) (by decide +kernel)
  rcases List.mem_cons.mp h with rfl | h
  · exact List.mem_of_getElem? (i := 370) (by decide +kernel)
  rcases List.mem_cons.mp h with rfl | h
  · exact List.mem_of_getElem? (i := 371) (by decide +kernel)
  rcases List.mem_cons.mp h with rfl | h
  · exact List.mem_of_getElem? (i := 450) (by decide +kernel)
  rcases List.mem_cons.mp h with rfl | h
  · exact List.mem_of_getElem? (i := 471) (by decide +kernel)
  · cases h
def sk_str : List (Nat × String) := [(70, "no room for a source"), (81, "no such kind"), (84, "a pin is missing"), (225, "no such line"), (93, "no room for a gate"), (106, "an output already, or no room for one"), (116, "not a flip-flop"), (138, "nothing to count"), (231, "no such vector"), (233, "no such fault"), (181, "nothing to tell of a fault"), (196, "not a sum of sources"), (198, "a source is open and 1"), (210, "no such response"), (215, "the log is full")]
def sk_siv (j : Nat) : Int64 := ([-6148914691236517206, -3689348814741910324, -1085102592571150096, -71777214294589696, -281470681808896, -4294967296] : List Int64).getD j 0
def sk_fty (T : u_T) : Nat → FieldType := fun k => (parseFieldDescriptor (T k).2.2.1).getD .int
def sk_dfv (kd : Nat) : Value := match kd with | 0 => .int 0 | 1 => .long 0 | _ => .null
def sk_clOk (ci : Nat) (q : vw_C) : Bool := (List.range q.2.2).all (fun k => (parseFieldDescriptor (q.2.1 k).2.2.1).isSome) && (List.range q.2.2).all (fun a => (List.range q.2.2).all (fun b => decide (a = b) || decide ((q.2.1 a).2.1 ≠ (q.2.1 b).2.1))) && (List.range q.2.2).all (fun k => decide (defaultValue (sk_fty q.2.1 k) = sk_dfv (sk_kd ci k))) && (u_ws q.1 q.2.1 q.2.2).all (fun w => decide (w ∈ tables_1) && goodWord w)
theorem sk_ok0 : sk_clOk 0 ("StuckLines", sk_T0, 6) = true := by decide +kernel
theorem sk_ok1 : sk_clOk 1 ("StuckLines$Circuit", sk_T1, 15) = true := by decide +kernel
theorem sk_ok2 : sk_clOk 2 ("StuckLines$Signals", sk_T2, 7) = true := by decide +kernel
theorem sk_ok3 : sk_clOk 3 ("StuckLines$Responses", sk_T3, 5) = true := by decide +kernel
theorem sk_ok4 : sk_clOk 4 ("StuckLines$Cubes", sk_T4, 3) = true := by decide +kernel
theorem sk_ok5 : sk_clOk 5 ("StuckLines$PackedSet", sk_T5, 6) = true := by decide +kernel
theorem sk_ok6 : sk_clOk 6 ("StuckLines$SeenLog", sk_T6, 4) = true := by decide +kernel
theorem sk_ok7 : sk_clOk 7 ("StuckLinesModel", sk_T7, 29) = true := by decide +kernel
theorem sk_clAll {ci : Nat} {q : vw_C} (h : sk_cl[ci]? = some q) : sk_clOk ci q = true := by
  match ci, h with
  | 0, h => cases h; exact sk_ok0
  | 1, h => cases h; exact sk_ok1
  | 2, h => cases h; exact sk_ok2
  | 3, h => cases h; exact sk_ok3
  | 4, h => cases h; exact sk_ok4
  | 5, h => cases h; exact sk_ok5
  | 6, h => cases h; exact sk_ok6
  | 7, h => cases h; exact sk_ok7
  | (n + 8), h => simp [sk_cl] at h
theorem sk_lays {ci : Nat} {C : String} {T : u_T} {N : Nat} (h : sk_cl[ci]? = some (C, T, N)) : ∀ w ∈ u_ws C T N, w ∈ sk_ts := by
  intro w hw
  have h1 := sk_clAll h
  simp only [sk_clOk, Bool.and_eq_true] at h1
  have h2 := List.all_eq_true.mp h1.2 w hw
  simp only [Bool.and_eq_true, decide_eq_true_eq] at h2
  exact sk_in h2.1 h2.2
theorem sk_ftyOk {ci : Nat} {C : String} {T : u_T} {N : Nat} (h : sk_cl[ci]? = some (C, T, N)) : ∀ k, k < N → parseFieldDescriptor (T k).2.2.1 = some (sk_fty T k) := by
  intro k hk
  have h1 := sk_clAll h
  simp only [sk_clOk, Bool.and_eq_true] at h1
  have h2 := List.all_eq_true.mp h1.1.1.1 k (List.mem_range.mpr hk)
  obtain ⟨v, hv⟩ := Option.isSome_iff_exists.mp h2
  simp only [sk_fty]
  rw [hv]; rfl
theorem sk_names {ci : Nat} {C : String} {T : u_T} {N : Nat} (h : sk_cl[ci]? = some (C, T, N)) : ∀ a, a < N → ∀ b, b < N → a ≠ b → (T a).2.1 ≠ (T b).2.1 := by
  intro a ha b hb hab
  have h1 := sk_clAll h
  simp only [sk_clOk, Bool.and_eq_true] at h1
  have h2 := List.all_eq_true.mp (List.all_eq_true.mp h1.1.1.2 a (List.mem_range.mpr ha)) b (List.mem_range.mpr hb)
  simp only [Bool.or_eq_true, decide_eq_true_eq] at h2
  exact h2.resolve_left hab
theorem sk_dflt {ci : Nat} {C : String} {T : u_T} {N : Nat} (h : sk_cl[ci]? = some (C, T, N)) {j : Nat} (hj : j < N) : defaultValue (sk_fty T j) = sk_dfv (sk_kd ci j) := by
  have h1 := sk_clAll h
  simp only [sk_clOk, Bool.and_eq_true] at h1
  have h2 := List.all_eq_true.mp h1.1.2 j (List.mem_range.mpr hj)
  exact of_decide_eq_true h2
end
section
/-! the walk in small: frames over cells by their places -/
abbrev sk_I : Type := Nat → Nat → Int32
abbrev sk_J : Type := Nat → Nat → Int64
abbrev sk_R : Type := Nat → Nat → Option Nat
abbrev sk_G : Type := Bool × List (Nat × Nat × Nat) × sk_R
abbrev sk_O : Type := Option Value ⊕ String
abbrev sk_Q : Type := sk_O → sk_G → sk_I → sk_J → Prop
abbrev sk_M : Type := String × MethodName × ByteArray × Nat × Option FieldType × List (Nat × Nat × Nat × Nat) × Nat × Nat
abbrev sk_own (M : sk_M) : String := M.1
abbrev sk_y (M : sk_M) : MethodName := M.2.1
abbrev sk_cc (M : sk_M) : ByteArray := M.2.2.1
abbrev sk_nl (M : sk_M) : Nat := M.2.2.2.1
abbrev sk_ret (M : sk_M) : Option FieldType := M.2.2.2.2.1
abbrev sk_tab (M : sk_M) : List (Nat × Nat × Nat × Nat) := M.2.2.2.2.2.1
abbrev sk_fr (M : sk_M) : Nat := M.2.2.2.2.2.2.1
abbrev sk_lo (M : sk_M) : Nat := M.2.2.2.2.2.2.2
abbrev sk_rm (M : sk_M) (mc ms : Nat) : Room := { frames := sk_fr M, cells := mc, slots := ms, locals := sk_lo M }
abbrev sk_T : Type := Launch × Nat × va_G × (Nat → ClassId) × (Nat → Nat) × Nat × (Nat → Int32) × (Nat → Nat)
abbrev sk_l (Γ : sk_T) : Launch := Γ.1
abbrev sk_b (Γ : sk_T) : Nat := Γ.2.1
abbrev sk_D (Γ : sk_T) : va_G := Γ.2.2.1
abbrev sk_id (Γ : sk_T) : Nat → ClassId := Γ.2.2.2.1
abbrev sk_ad (Γ : sk_T) : Nat → Nat := Γ.2.2.2.2.1
abbrev sk_len (Γ : sk_T) : Nat := Γ.2.2.2.2.2.1
abbrev sk_xs (Γ : sk_T) : Nat → Int32 := Γ.2.2.2.2.2.2.1
abbrev sk_sa (Γ : sk_T) : Nat → Nat := Γ.2.2.2.2.2.2.2
def sk_A (Γ : sk_T) : Nat → Prop := fun q => sk_b Γ ≤ q
/-- the script's place, and that of the static table -/
def sk_scr : Nat := 1000000
def sk_sta : Nat := 1000001
def sk_tr (Γ : sk_T) (v : Value) : Value := match v with
  | .ref k => .ref (sk_ad Γ k)
  | w => w
def sk_trL (Γ : sk_T) (L : List (Nat × Value)) : List (Nat × Value) := L.map fun q => (q.1, sk_tr Γ q.2)
def sk_fv (Γ : sk_T) (kd : Nat) (R : sk_R) (I : sk_I) (J : sk_J) (q j : Nat) : Value := match kd with
  | 0 => .int (I q j)
  | 1 => .long (J q j)
  | _ => match R q j with
    | none => .null
    | some r => .ref (sk_ad Γ r)
def sk_cell (Γ : sk_T) (R : sk_R) (I : sk_I) (J : sk_J) (q : Nat) (sp : Nat × Nat × Nat) : va_E := match sp.1 with
  | 0 => .inr (sp.2.1, (List.range sp.2.2).map (fun j => sk_fv Γ (sk_kd sp.2.1 j) R I J q j))
  | 1 => .inl (sk_id Γ 0, sp.2.1, .inl (I q))
  | 2 => .inl (sk_id Γ 1, sp.2.1, .inl (I q))
  | _ => .inl (sk_id Γ 2, sp.2.1, .inr (.inl (J q)))
def sk_ws (Γ : sk_T) (g : sk_G) (I : sk_I) (J : sk_J) : va_W := g.2.1.mapIdx (fun q sp => (sk_ad Γ q, sk_cell Γ g.2.2 I J q sp))
abbrev sk_tys (Γ : sk_T) : List (ClassId × FieldType) := [(sk_id Γ 0, .int), (sk_id Γ 1, .boolean), (sk_id Γ 2, .long)]
/-- the three exceptions, apart -/
def sk_nc (E F : String) : Bool := decide (E ≠ F) && decide (E ∈ ["java/lang/IllegalStateException", "java/lang/IllegalArgumentException", "java/lang/IndexOutOfBoundsException"]) && decide (F ∈ ["java/lang/IllegalStateException", "java/lang/IllegalArgumentException", "java/lang/IndexOutOfBoundsException"])
def sk_isN (w : Cond) : Bool := match w with
  | .fieldLinkNest _ _ _ _ _ _ => true
  | .methodLinkNest _ _ _ _ => true
  | .declares _ => true
  | .castable _ _ => true
  | _ => false
theorem sk_nw_ok : ∀ w ∈ sk_nw, sk_isN w = true := by decide +kernel
/-- a static of the machine's own, of which only its place is asked -/
def sk_L (C n d : String) (A : Nat → Prop) (U : State) (H : Heap) : Prop := ∃ (c : ClassId) (k : Class) (i : Nat) (f : Field) (a : Nat) (cell : Cell), U.vm.findClass C = some c ∧ U.fieldFound? C n d = some (c, k, i, f) ∧ f.isStatic = true ∧ k.statics = some a ∧ H[a]? = some cell ∧ cell.vm.isStatics = true ∧ cell.cls = c ∧ f.slot < cell.slots.size ∧ k.staticTypes[f.slot]? = some f.type ∧ ¬ A a
theorem sk_L.moved {C n d : String} {A : Nat → Prop} {u U : State} {H : Heap} (hvm : u.vm.Alike U.vm) (h : sk_L C n d A u H) : sk_L C n d A U H := by
  obtain ⟨c, k, i, f, a, cell, h1, h2, h3, h4, h5, h6, h7, h8, h9, h10⟩ := h
  obtain ⟨k', hi', he⟩ := State.fieldFound?_setVm hvm h2
  exact ⟨c, k', i, f, a, cell, by rw [hvm.findClass]; exact h1, hi', h3, by rw [he]; exact h4, h5, h6, h7, h8, by rw [he]; exact h9, h10⟩
theorem sk_L.kept {C n d : String} {A : Nat → Prop} {U : State} {H H1 : Heap} (h : sk_L C n d A U H) (hq : ∀ a : Nat, a < H.size → ¬ A a → H1[a]? = H[a]?) : sk_L C n d A U H1 := by
  obtain ⟨c, k, i, f, a, cell, h1, h2, h3, h4, h5, h6, h7, h8, h9, h10⟩ := h
  exact ⟨c, k, i, f, a, cell, h1, h2, h3, h4, by rw [hq a (Array.getElem?_eq_some_iff.mp h5).1 h10]; exact h5, h6, h7, h8, h9, h10⟩
theorem sk_L.word {C n d : String} {A : Nat → Prop} {s : State} {args : Array Value} (h : sk_L C n d A s s.heap) : (Cond.laysStatic C n d).before args s = true := by
  obtain ⟨c, k, i, f, a, cell, h1, h2, h3, h4, h5, h6, h7, h8, h9, -⟩ := h
  show (Cond.laysStatic C n d).holds args s none s [] = true
  exact Cond.laysStatic_of h1 h2 h3 h4 h5 h6 h7 h8 h9
theorem sk_L.of {args : Array Value} {s : State} {C n d : String} {A : Nat → Prop} (hl : (Cond.laysStatic C n d).before args s = true) (hA : ∀ a : Nat, a < s.heap.size → ¬ A a) : sk_L C n d A s s.heap := by
  obtain ⟨c, k, i, f, a, cell, h1, h2, h3, h4, h5, h6, h7, h8, h9⟩ := Cond.laysStatic_spec hl
  exact ⟨c, k, i, f, a, cell, h1, h2, h3, h4, h5, h6, h7, h8, h9, hA a (Array.getElem?_eq_some_iff.mp h5).1⟩
theorem sk_isRef {C n d : String} {A : Nat → Prop} {s : State} {args : Array Value} (h : va_Zq C n d A s s.heap) : (Cond.isRef (.static C n d)).before args s = true := by
  have key : ∀ v : Value, va_Z C n d v A s s.heap → v.isRef = true → (Cond.isRef (.static C n d)).before args s = true := by
    intro v hz hv
    obtain ⟨cf, kf, fi, f, a, cell, h1, h2, h3, h4, h5, h6, h7, -⟩ := hz
    have he : (Term.static C n d).eval args s none [] s = some v := by
      simp [Term.eval, State.fieldNamed?, h1, h2, h4, h5, h6, h7]
    simp only [Cond.before, Cond.holds, Cond.value, he]
    cases v <;> simp_all [Value.isRef]
  rcases h with h | ⟨t, h⟩
  · exact key _ h rfl
  · exact key _ h rfl
def sk_fix (Γ : sk_T) (U : State) : Prop :=
  va_K (sk_D Γ) sk_cl (sk_tys Γ) U ∧ (∀ w ∈ sk_nw, va_Nw w U) ∧
  va_Z "StuckLines" "SOURCE_IN_VECTORS" "[J" (.ref (sk_ad Γ sk_sta)) (sk_A Γ) U U.heap ∧ va_T .long (sk_ad Γ sk_sta) 6 (fun j => .long (sk_siv j)) (sk_A Γ) U U.heap ∧
  (va_Zq Bundle.tN "UNASSIGNED_STACK" Bundle.steD (sk_A Γ) U U.heap ∧ sk_L Bundle.tN "UNASSIGNED_STACK" Bundle.steD (sk_A Γ) U U.heap) ∧ (va_Zq Bundle.tN "SUPPRESSED_SENTINEL" Bundle.listD (sk_A Γ) U U.heap ∧ sk_L Bundle.tN "SUPPRESSED_SENTINEL" Bundle.listD (sk_A Γ) U U.heap) ∧
  (∀ (i : Nat) (q : Nat × String), sk_str[i]? = some q → vk_R "StuckLines" q.1 q.2 (sk_sa Γ i) U) ∧
  va_X (sk_ad Γ sk_scr) (sk_len Γ) (sk_xs Γ) U U.heap ∧ sk_ad Γ sk_scr < sk_b Γ ∧ (∀ k, k < 1000000 → sk_ad Γ k = sk_b Γ + k) ∧ (sk_l Γ).stackTraces = false ∧ (∀ (E F : String), sk_nc E F = true → va_Nc E F U)
def sk_hp (Γ : sk_T) (g : sk_G) (I : sk_I) (J : sk_J) (H : Heap) : Prop :=
  va_P (sk_D Γ) sk_cl (sk_ws Γ g I J) H ∧ sk_b Γ ≤ H.size ∧ (g.1 = true → H.size = sk_b Γ + g.2.1.length) ∧ g.2.1.length < 1000
def sk_world (Γ : sk_T) (g : sk_G) (I : sk_I) (J : sk_J) (U : State) : Prop := sk_hp Γ g I J U.heap ∧ sk_fix Γ U
def sk_Qr (Γ : sk_T) (Q : sk_Q) : Array Value → State → Outcome → State → Prop := fun _ st oc t =>
  ∃ (r : Option Value) (g : sk_G) (I : sk_I) (J : sk_J), oc = .returned (r.map (sk_tr Γ)) ∧ Q (.inl r) g I J ∧ sk_hp Γ g I J t.heap ∧ va_F (sk_A Γ) st t
/-- what a method has come to: returned, or thrown -/
def sk_End (Γ : sk_T) (Q : sk_Q) (mc ms : Nat) : Array Value → State → Outcome → State → Prop := fun a st o t =>
  (sk_Qr Γ Q a st o t ∧ ∃ L, FrameEnd st o t L mc ms ∧ ∀ z ∈ L, sk_A Γ z.base) ∨
  (∃ (q : Addr) (E : String) (ce : Cell) (g : sk_G) (I : sk_I) (J : sk_J) (L : List Loc), o = .threw q ∧ Q (.inr E) g I J ∧ sk_hp Γ g I J t.heap ∧ va_F (sk_A Γ) st t ∧ t.heap[q]? = some ce ∧ ce.vm = .none ∧ st.vm.findClass E = some ce.cls ∧ st.WarmedH t.vm ∧
    st.sameButNew ({ t with vm := st.vm } : State) L mc ms ∧ ∀ z ∈ L, sk_A Γ z.base)
def sk_Fin (Γ : sk_T) (Q : sk_Q) (mc ms : Nat) (below : List Frame) (a : Array Value) (s : State) : State → Prop := fun t => ∃ o, t.status = .running ∧ Ended t below o ∧ sk_End Γ Q mc ms a s o t
def sk_cx (Γ : sk_T) (M : sk_M) (p : Program) (s : State) (m : MethodId) (args : Array Value) (meth : Method) (c : Code) : Prop :=
  p.tables.exec = Jvm.exec ∧ c.code = sk_cc M ∧ c.maxLocals = sk_nl M ∧ meth.sig.returnType = sk_ret M ∧ meth.locks = false ∧ s.vm.findClass (sk_own M) = some m.cls ∧
  (∀ w ∈ sk_ts, w.before args s = true) ∧ sk_fix Γ s ∧ c.exceptionTable.toList = tableOf (sk_tab M) ∧ meth.name = (sk_y M).name ∧ sk_b Γ ≤ s.heap.size
/-- the machine at pc of method M, locals L, stack S, over cells: it comes to Q -/
def sk_W (Γ : sk_T) (M : sk_M) (mc ms : Nat) (pc : Nat) (L : List (Nat × Value)) (S : List Value) (g : sk_G) (I : sk_I) (J : sk_J) (kc kn : Nat) (Q : sk_Q) : Prop :=
  ∀ (p : Program) (e : Env) (s : State) (m : MethodId) (args : Array Value) (below : List Frame) (meth : Method) (c : Code) (H : Heap) (locs : List Loc) (ls : Array Slot),
    sk_cx Γ M p s m args meth c → sk_hp Γ g I J H → va_S (sk_A Γ) s.heap H locs → lv_has ls (sk_nl M) (sk_trL Γ L) →
    W p (sk_l Γ) e (sk_rm M mc ms) s m args below meth c H locs kc kn (sk_Fin Γ Q mc ms below args s) (F0 m pc ls (S.map (sk_tr Γ)))
/-- .. and with an exception of class E over it -/
def sk_X (Γ : sk_T) (M : sk_M) (mc ms : Nat) (pc : Nat) (L : List (Nat × Value)) (E : String) (g : sk_G) (I : sk_I) (J : sk_J) (kc kn : Nat) (Q : sk_Q) : Prop :=
  ∀ (p : Program) (e : Env) (s : State) (m : MethodId) (args : Array Value) (below : List Frame) (meth : Method) (c : Code) (T : State) (locs : List Loc) (ls : Array Slot) (S : List Value) (q : Addr) (ce : Cell),
    sk_cx Γ M p s m args meth c → sk_hp Γ g I J T.heap → va_S (sk_A Γ) s.heap T.heap locs → lv_has ls (sk_nl M) (sk_trL Γ L) → T.heap[q]? = some ce → ce.vm = .none → s.vm.findClass E = some ce.cls →
    Stand p (sk_l Γ) e (sk_rm M mc ms) s m args below meth c T locs kc kn → ∃ t, Steps p.tables e below ((T.setTop (F0 m pc ls S)).pushFrame (.throwing q)) t ∧ sk_Fin Γ Q mc ms below args s t
def sk_head (M : sk_M) : Cond := if sk_tab M = [] then .code (sk_y M) (sk_cc M) (sk_nl M) (sk_ret M) else .codeWith (sk_y M) (sk_cc M) (sk_nl M) (sk_ret M) (sk_tab M)
/-- a method's contract -/
def sk_S (Γ : sk_T) (M : sk_M) (mc ms : Nat) (as : List Value) (g : sk_G) (I : sk_I) (J : sk_J) (Q : sk_Q) : Prop :=
  MetFree (sk_l Γ) (sk_y M) (headSpec (sk_head M :: sk_ts) (sk_rm M mc ms)) (va_Pc (as.map (sk_tr Γ)) (sk_world Γ g I J)) (fun _ _ _ _ _ => True) (sk_End Γ Q mc ms)
theorem sk_tr_cat (Γ : sk_T) (v : Value) : (sk_tr Γ v).category = v.category := by cases v <;> rfl
theorem sk_cast {a b : String} {s U : State} (hvm : s.vm.Alike U.vm) (h : va_Nw (.castable a b) s) : va_Nw (.castable a b) U := by
  unfold va_Nw at h ⊢
  simp only [Cond.before, Cond.holds, Cond.value, hvm.findClass, hvm.assignable] at h ⊢
  exact h
theorem sk_N {w : Cond} (hw : sk_isN w = true) {s U : State} (hW : s.WarmedH U.vm) (h : va_Nw w s) : va_Nw w U := by
  cases w <;> first | exact va_Nw.warmF hW h | exact va_Nw.warmM hW h | exact va_Nw.warmD hW h | exact sk_cast hW.alike h | cases hw
theorem sk_Nc {E F : String} {s U : State} (hvm : s.vm.Alike U.vm) (h : va_Nc E F s) : va_Nc E F U := by
  obtain ⟨c, t, h1, h2, h3⟩ := h
  exact ⟨c, t, by rw [hvm.findClass]; exact h1, by rw [hvm.findClass]; exact h2, by rw [hvm.assignable]; exact h3⟩
theorem sk_move {Γ : sk_T} {s U : State} (h : sk_fix Γ s) (hk : ∀ q : Nat, q < s.heap.size → ¬ sk_A Γ q → U.heap[q]? = s.heap[q]?) (hW : s.WarmedH U.vm) : sk_fix Γ U := by
  obtain ⟨h1, h2, h3, h4, h5, h6, h7, h8, h9, h10, h11, h12⟩ := h
  refine ⟨va_K.moved hW.alike h1, fun w hw => sk_N (sk_nw_ok w hw) hW (h2 w hw), va_Z.moved hW.alike (h3.kept hk), va_T.moved hW.alike (h4.kept hk), ⟨va_Zq.moved hW.alike (h5.1.kept hk), sk_L.moved hW.alike (h5.2.kept hk)⟩, ⟨va_Zq.moved hW.alike (h6.1.kept hk), sk_L.moved hW.alike (h6.2.kept hk)⟩, fun i q hq => vk_R.warm hW (h7 i q hq), ?_, h9, h10, h11, fun E F hE => sk_Nc hW.alike (h12 E F hE)⟩
  obtain ⟨scr, q1, q2⟩ := id h8
  exact va_X.moved hW.alike (h8.kept (hk _ (Array.getElem?_eq_some_iff.mp q1).1 (fun z => by unfold sk_A at z; omega)))
theorem sk_wsAt (Γ : sk_T) (g : sk_G) (I : sk_I) (J : sk_J) {q : Nat} {sp : Nat × Nat × Nat} (h : g.2.1[q]? = some sp) : (sk_ws Γ g I J)[q]? = some (sk_ad Γ q, sk_cell Γ g.2.2 I J q sp) := by
  simp [sk_ws, List.getElem?_mapIdx, h]
theorem sk_apart {Γ : sk_T} {g : sk_G} (I : sk_I) (J : sk_J) (hl : g.2.1.length < 1000) (ha : ∀ k, k < 1000000 → sk_ad Γ k = sk_b Γ + k) : va_D (sk_A Γ) (sk_ws Γ g I J) := by
  have key : ∀ (k : Nat) (q : Nat × va_E), (sk_ws Γ g I J)[k]? = some q → k < 1000 ∧ q.1 = sk_b Γ + k := by
    intro k q hk
    have h1 : k < (sk_ws Γ g I J).length := (List.getElem?_eq_some_iff.mp hk).1
    have h2 : k < g.2.1.length := by simpa [sk_ws] using h1
    have h3 : (sk_ws Γ g I J)[k]? = some (sk_ad Γ k, sk_cell Γ g.2.2 I J k g.2.1[k]) := sk_wsAt Γ g I J (List.getElem?_eq_getElem h2)
    rw [h3] at hk
    cases hk
    exact ⟨by omega, ha k (by omega)⟩
  refine ⟨fun i j x y hi hj hxy => ?_, fun k q hk => ?_⟩
  · have h1 := (key i x hi).2
    have h2 := (key j y hj).2
    omega
  · have h1 := (key k q hk).2
    show sk_b Γ ≤ q.1
    omega
theorem sk_world_of {Γ : sk_T} {g : sk_G} {I : sk_I} {J : sk_J} {s U : State} {H : Heap} {locs : List Loc} (hF : sk_fix Γ s) (hH : sk_hp Γ g I J H) (hS : va_S (sk_A Γ) s.heap H locs) (hU : U.heap = H) (hW : s.WarmedH U.vm) : sk_world Γ g I J U :=
  ⟨by rw [hU]; exact hH, sk_move hF (fun q h1 h2 => by rw [hU]; exact hS.2.1 q h1 h2) hW⟩
theorem sk_blind (Γ : sk_T) (as : List Value) (g : sk_G) (I : sk_I) (J : sk_J) : FrameBlind (va_Pc as (sk_world Γ g I J)) := by
  intro a U f mk h
  exact ⟨h.1, h.2.1, sk_move h.2.2 (fun _ _ _ => rfl) (State.WarmedH.refl U)⟩
theorem sk_trL_at {Γ : sk_T} {L : List (Nat × Value)} {k i : Nat} {v : Value} (h : L[k]? = some (i, v)) : (sk_trL Γ L)[k]? = some (i, sk_tr Γ v) := by
  simp [sk_trL, h]
theorem sk_trL_f1 (Γ : sk_T) (L : List (Nat × Value)) (i : Nat) : (sk_trL Γ L).filter (fun q => !(q.1 == i) && !(q.1 + 1 == i && q.2.category == 2)) = sk_trL Γ (L.filter (fun q => !(q.1 == i) && !(q.1 + 1 == i && q.2.category == 2))) := by
  simp only [sk_trL, List.filter_map]
  congr 1
  apply List.filter_congr
  intro x _
  simp [Function.comp, sk_tr_cat]
theorem sk_trL_f2 (Γ : sk_T) (L : List (Nat × Value)) (i : Nat) : (sk_trL Γ L).filter (fun q => !(q.1 == i) && (!(q.1 == i + 1) && !(q.1 + 1 == i && q.2.category == 2))) = sk_trL Γ (L.filter (fun q => !(q.1 == i) && (!(q.1 == i + 1) && !(q.1 + 1 == i && q.2.category == 2)))) := by
  simp only [sk_trL, List.filter_map]
  congr 1
  apply List.filter_congr
  intro x _
  simp [Function.comp, sk_tr_cat]
theorem sk_args (Γ : sk_T) : ∀ (vs : List Value) (i : Nat), lv_args i (vs.map (sk_tr Γ)) = sk_trL Γ (lv_args i vs)
  | [], _ => rfl
  | v :: vs, i => by
    have h := sk_args Γ vs (if v.category = 2 then i + 2 else i + 1)
    simp only [List.map_cons, lv_args, sk_tr_cat, h]
    rfl
theorem sk_sl (Γ : sk_T) (vs : List Value) : (lg_sl (vs.map (sk_tr Γ))).length = (lg_sl vs).length := by
  induction vs with
  | nil => rfl
  | cons v vs ih =>
    simp only [lg_sl, List.map_cons, List.flatMap_cons, List.length_append, sk_tr_cat] at ih ⊢
    rw [ih]
    split <;> rfl
theorem sk_pick (Γ : sk_T) (L : List (Nat × Value)) (ks : List Nat) : lv_pick (sk_trL Γ L) ks = sk_trL Γ (lv_pick L ks) := by
  induction ks with
  | nil => rfl
  | cons a t ih =>
    simp only [lv_pick, sk_trL, List.filterMap_cons, List.getElem?_map] at ih ⊢
    cases h : L[a]? with
    | none => simpa [h] using ih
    | some x => simpa [h] using ih
end
section
section SKR
variable {Γ : sk_T} {M : sk_M} {mc ms pc : Nat} {L : List (Nat × Value)} {S : List Value} {g : sk_G} {I : sk_I} {J : sk_J} {kc kn : Nat} {Q : sk_Q}
theorem sk_iconst {i : Int} {v : Int32} (d : decode (sk_cc M) pc = .ok (.iconst i, 1)) (hv : Int32.ofInt i = v) (h : sk_W Γ M mc ms (pc + 1) L (.int v :: S) g I J kc kn Q) : sk_W Γ M mc ms pc L S g I J kc kn Q :=
  fun p e s m args below meth c H locs ls hC hH hS hl => lv_iconst hC.1 hC.2.1 d hv (h p e s m args below meth c H locs ls hC hH hS hl)
theorem sk_bipush {i : Int} {v : Int32} (d : decode (sk_cc M) pc = .ok (.bipush i, 2)) (hv : (Int8.ofInt i).toInt32 = v) (h : sk_W Γ M mc ms (pc + 2) L (.int v :: S) g I J kc kn Q) : sk_W Γ M mc ms pc L S g I J kc kn Q :=
  fun p e s m args below meth c H locs ls hC hH hS hl => lv_bipush hC.1 hC.2.1 d hv (h p e s m args below meth c H locs ls hC hH hS hl)
theorem sk_sipush {i : Int} {v : Int32} (d : decode (sk_cc M) pc = .ok (.sipush i, 3)) (hv : (Int16.ofInt i).toInt32 = v) (h : sk_W Γ M mc ms (pc + 3) L (.int v :: S) g I J kc kn Q) : sk_W Γ M mc ms pc L S g I J kc kn Q :=
  fun p e s m args below meth c H locs ls hC hH hS hl => lv_sipush hC.1 hC.2.1 d hv (h p e s m args below meth c H locs ls hC hH hS hl)
theorem sk_lconst {i : Fin 2} {v : Int64} (d : decode (sk_cc M) pc = .ok (.lconst i, 1)) (hv : Int64.ofNat (i : Nat) = v) (h : sk_W Γ M mc ms (pc + 1) L (.long v :: S) g I J kc kn Q) : sk_W Γ M mc ms pc L S g I J kc kn Q :=
  fun p e s m args below meth c H locs ls hC hH hS hl => lv_lconst hC.1 hC.2.1 d hv (h p e s m args below meth c H locs ls hC hH hS hl)
theorem sk_ldc {i : Nat} {v : Int32} (d : decode (sk_cc M) pc = .ok (.ldc i, 2)) (hv : Cond.constant (sk_own M) i v ∈ sk_ts) (h : sk_W Γ M mc ms (pc + 2) L (.int v :: S) g I J kc kn Q) : sk_W Γ M mc ms pc L S g I J kc kn Q :=
  fun p e s m args below meth c H locs ls hC hH hS hl => lv_ldc hC.1 hC.2.1 hC.2.2.2.2.2.1 (hC.2.2.2.2.2.2.1 _ hv) d (h p e s m args below meth c H locs ls hC hH hS hl)
theorem sk_ldc2 {i : Nat} {v : Int64} (d : decode (sk_cc M) pc = .ok (.ldc2_w i, 3)) (hv : Cond.constantLong (sk_own M) i v ∈ sk_ts) (h : sk_W Γ M mc ms (pc + 3) L (.long v :: S) g I J kc kn Q) : sk_W Γ M mc ms pc L S g I J kc kn Q :=
  fun p e s m args below meth c H locs ls hC hH hS hl => lv_ldc2 hC.1 hC.2.1 hC.2.2.2.2.2.1 (hC.2.2.2.2.2.2.1 _ hv) d (h p e s m args below meth c H locs ls hC hH hS hl)
theorem sk_iload_n {f : Fin 4} {i j : Nat} {x : Int32} (d : decode (sk_cc M) pc = .ok (.iload_n f, 1)) (hi : (f : Nat) = i) (hk : L[j]? = some (i, .int x)) (h : sk_W Γ M mc ms (pc + 1) L (.int x :: S) g I J kc kn Q) : sk_W Γ M mc ms pc L S g I J kc kn Q :=
  fun p e s m args below meth c H locs ls hC hH hS hl => lv_iload_n hC.1 hC.2.1 d hi (lv_at hl j (sk_trL_at hk)) (h p e s m args below meth c H locs ls hC hH hS hl)
theorem sk_iload {i j : Nat} {x : Int32} (d : decode (sk_cc M) pc = .ok (.iload i, 2)) (hk : L[j]? = some (i, .int x)) (h : sk_W Γ M mc ms (pc + 2) L (.int x :: S) g I J kc kn Q) : sk_W Γ M mc ms pc L S g I J kc kn Q :=
  fun p e s m args below meth c H locs ls hC hH hS hl => lv_iload hC.1 hC.2.1 d (lv_at hl j (sk_trL_at hk)) (h p e s m args below meth c H locs ls hC hH hS hl)
theorem sk_istore_n {f : Fin 4} {i : Nat} {x : Int32} {L' : List (Nat × Value)} (d : decode (sk_cc M) pc = .ok (.istore_n f, 1)) (hi : (f : Nat) = i) (hn : i < sk_nl M) (hL : (i, Value.int x) :: L.filter (fun q => !(q.1 == i) && !(q.1 + 1 == i && q.2.category == 2)) = L') (h : sk_W Γ M mc ms (pc + 1) L' S g I J kc kn Q) : sk_W Γ M mc ms pc L (.int x :: S) g I J kc kn Q :=
  fun p e s m args below meth c H locs ls hC hH hS hl => lv_istore_n hC.1 hC.2.1 d hi hl hn (by rw [sk_trL_f1, ← hL]; rfl) (fun ls' hl' => h p e s m args below meth c H locs ls' hC hH hS hl')
theorem sk_istore {i : Nat} {x : Int32} {L' : List (Nat × Value)} (d : decode (sk_cc M) pc = .ok (.istore i, 2)) (hn : i < sk_nl M) (hL : (i, Value.int x) :: L.filter (fun q => !(q.1 == i) && !(q.1 + 1 == i && q.2.category == 2)) = L') (h : sk_W Γ M mc ms (pc + 2) L' S g I J kc kn Q) : sk_W Γ M mc ms pc L (.int x :: S) g I J kc kn Q :=
  fun p e s m args below meth c H locs ls hC hH hS hl => lv_istore hC.1 hC.2.1 d hl hn (by rw [sk_trL_f1, ← hL]; rfl) (fun ls' hl' => h p e s m args below meth c H locs ls' hC hH hS hl')
theorem sk_lload_n {f : Fin 4} {i j : Nat} {x : Int64} (d : decode (sk_cc M) pc = .ok (.lload_n f, 1)) (hi : (f : Nat) = i) (hk : L[j]? = some (i, .long x)) (h : sk_W Γ M mc ms (pc + 1) L (.long x :: S) g I J kc kn Q) : sk_W Γ M mc ms pc L S g I J kc kn Q :=
  fun p e s m args below meth c H locs ls hC hH hS hl => lv_lload_n hC.1 hC.2.1 d hi (lv_at hl j (sk_trL_at hk)) (h p e s m args below meth c H locs ls hC hH hS hl)
theorem sk_lload {i j : Nat} {x : Int64} (d : decode (sk_cc M) pc = .ok (.lload i, 2)) (hk : L[j]? = some (i, .long x)) (h : sk_W Γ M mc ms (pc + 2) L (.long x :: S) g I J kc kn Q) : sk_W Γ M mc ms pc L S g I J kc kn Q :=
  fun p e s m args below meth c H locs ls hC hH hS hl => lv_lload hC.1 hC.2.1 d (lv_at hl j (sk_trL_at hk)) (h p e s m args below meth c H locs ls hC hH hS hl)
theorem sk_lstore_n {f : Fin 4} {i : Nat} {x : Int64} {L' : List (Nat × Value)} (d : decode (sk_cc M) pc = .ok (.lstore_n f, 1)) (hi : (f : Nat) = i) (hn : i + 1 < sk_nl M) (hL : (i, Value.long x) :: L.filter (fun q => !(q.1 == i) && (!(q.1 == i + 1) && !(q.1 + 1 == i && q.2.category == 2))) = L') (h : sk_W Γ M mc ms (pc + 1) L' S g I J kc kn Q) : sk_W Γ M mc ms pc L (.long x :: S) g I J kc kn Q :=
  fun p e s m args below meth c H locs ls hC hH hS hl => lv_lstore_n hC.1 hC.2.1 d hi hl hn (by rw [sk_trL_f2, ← hL]; rfl) (fun ls' hl' => h p e s m args below meth c H locs ls' hC hH hS hl')
theorem sk_lstore {i : Nat} {x : Int64} {L' : List (Nat × Value)} (d : decode (sk_cc M) pc = .ok (.lstore i, 2)) (hn : i + 1 < sk_nl M) (hL : (i, Value.long x) :: L.filter (fun q => !(q.1 == i) && (!(q.1 == i + 1) && !(q.1 + 1 == i && q.2.category == 2))) = L') (h : sk_W Γ M mc ms (pc + 2) L' S g I J kc kn Q) : sk_W Γ M mc ms pc L (.long x :: S) g I J kc kn Q :=
  fun p e s m args below meth c H locs ls hC hH hS hl => lv_lstore hC.1 hC.2.1 d hl hn (by rw [sk_trL_f2, ← hL]; rfl) (fun ls' hl' => h p e s m args below meth c H locs ls' hC hH hS hl')
theorem sk_aload_n {f : Fin 4} {i j : Nat} {x : Nat} (d : decode (sk_cc M) pc = .ok (.aload_n f, 1)) (hi : (f : Nat) = i) (hk : L[j]? = some (i, .ref x)) (h : sk_W Γ M mc ms (pc + 1) L (.ref x :: S) g I J kc kn Q) : sk_W Γ M mc ms pc L S g I J kc kn Q :=
  fun p e s m args below meth c H locs ls hC hH hS hl => lv_aload_n hC.1 hC.2.1 d hi (lv_at hl j (sk_trL_at hk)) (h p e s m args below meth c H locs ls hC hH hS hl)
theorem sk_aload {i j : Nat} {x : Nat} (d : decode (sk_cc M) pc = .ok (.aload i, 2)) (hk : L[j]? = some (i, .ref x)) (h : sk_W Γ M mc ms (pc + 2) L (.ref x :: S) g I J kc kn Q) : sk_W Γ M mc ms pc L S g I J kc kn Q :=
  fun p e s m args below meth c H locs ls hC hH hS hl => lv_aload hC.1 hC.2.1 d (lv_at hl j (sk_trL_at hk)) (h p e s m args below meth c H locs ls hC hH hS hl)
theorem sk_astore_n {f : Fin 4} {i : Nat} {x : Nat} {L' : List (Nat × Value)} (d : decode (sk_cc M) pc = .ok (.astore_n f, 1)) (hi : (f : Nat) = i) (hn : i < sk_nl M) (hL : (i, Value.ref x) :: L.filter (fun q => !(q.1 == i) && !(q.1 + 1 == i && q.2.category == 2)) = L') (h : sk_W Γ M mc ms (pc + 1) L' S g I J kc kn Q) : sk_W Γ M mc ms pc L (.ref x :: S) g I J kc kn Q :=
  fun p e s m args below meth c H locs ls hC hH hS hl => lv_astore_n hC.1 hC.2.1 d hi hl hn (by rw [sk_trL_f1, ← hL]; rfl) (fun ls' hl' => h p e s m args below meth c H locs ls' hC hH hS hl')
theorem sk_astore {i : Nat} {x : Nat} {L' : List (Nat × Value)} (d : decode (sk_cc M) pc = .ok (.astore i, 2)) (hn : i < sk_nl M) (hL : (i, Value.ref x) :: L.filter (fun q => !(q.1 == i) && !(q.1 + 1 == i && q.2.category == 2)) = L') (h : sk_W Γ M mc ms (pc + 2) L' S g I J kc kn Q) : sk_W Γ M mc ms pc L (.ref x :: S) g I J kc kn Q :=
  fun p e s m args below meth c H locs ls hC hH hS hl => lv_astore hC.1 hC.2.1 d hl hn (by rw [sk_trL_f1, ← hL]; rfl) (fun ls' hl' => h p e s m args below meth c H locs ls' hC hH hS hl')
theorem sk_iinc {i j : Nat} {w : Int} {x v : Int32} {L' : List (Nat × Value)} (d : decode (sk_cc M) pc = .ok (.iinc i w, 3)) (hk : L[j]? = some (i, .int x)) (hv : x + Int32.ofInt w = v) (hn : i < sk_nl M) (hL : (i, Value.int v) :: L.filter (fun q => !(q.1 == i) && !(q.1 + 1 == i && q.2.category == 2)) = L') (h : sk_W Γ M mc ms (pc + 3) L' S g I J kc kn Q) : sk_W Γ M mc ms pc L S g I J kc kn Q :=
  fun p e s m args below meth c H locs ls hC hH hS hl => lv_iinc hC.1 hC.2.1 d hl (sk_trL_at hk) hv hn (by rw [sk_trL_f1, ← hL]; rfl) (fun ls' hl' => h p e s m args below meth c H locs ls' hC hH hS hl')
theorem sk_iadd {x y : Int32} (d : decode (sk_cc M) pc = .ok (.iadd, 1)) (h : sk_W Γ M mc ms (pc + 1) L (.int (x + y) :: S) g I J kc kn Q) : sk_W Γ M mc ms pc L (.int y :: .int x :: S) g I J kc kn Q :=
  fun p e s m args below meth c H locs ls hC hH hS hl => lv_iadd hC.1 hC.2.1 d (h p e s m args below meth c H locs ls hC hH hS hl)
theorem sk_isub {x y : Int32} (d : decode (sk_cc M) pc = .ok (.isub, 1)) (h : sk_W Γ M mc ms (pc + 1) L (.int (x - y) :: S) g I J kc kn Q) : sk_W Γ M mc ms pc L (.int y :: .int x :: S) g I J kc kn Q :=
  fun p e s m args below meth c H locs ls hC hH hS hl => lv_isub hC.1 hC.2.1 d (h p e s m args below meth c H locs ls hC hH hS hl)
theorem sk_imul {x y : Int32} (d : decode (sk_cc M) pc = .ok (.imul, 1)) (h : sk_W Γ M mc ms (pc + 1) L (.int (x * y) :: S) g I J kc kn Q) : sk_W Γ M mc ms pc L (.int y :: .int x :: S) g I J kc kn Q :=
  fun p e s m args below meth c H locs ls hC hH hS hl => lv_imul hC.1 hC.2.1 d (h p e s m args below meth c H locs ls hC hH hS hl)
theorem sk_iand {x y : Int32} (d : decode (sk_cc M) pc = .ok (.iand, 1)) (h : sk_W Γ M mc ms (pc + 1) L (.int (x &&& y) :: S) g I J kc kn Q) : sk_W Γ M mc ms pc L (.int y :: .int x :: S) g I J kc kn Q :=
  fun p e s m args below meth c H locs ls hC hH hS hl => lv_iand hC.1 hC.2.1 d (h p e s m args below meth c H locs ls hC hH hS hl)
theorem sk_ior {x y : Int32} (d : decode (sk_cc M) pc = .ok (.ior, 1)) (h : sk_W Γ M mc ms (pc + 1) L (.int (x ||| y) :: S) g I J kc kn Q) : sk_W Γ M mc ms pc L (.int y :: .int x :: S) g I J kc kn Q :=
  fun p e s m args below meth c H locs ls hC hH hS hl => lv_ior hC.1 hC.2.1 d (h p e s m args below meth c H locs ls hC hH hS hl)
theorem sk_ixor {x y : Int32} (d : decode (sk_cc M) pc = .ok (.ixor, 1)) (h : sk_W Γ M mc ms (pc + 1) L (.int (x ^^^ y) :: S) g I J kc kn Q) : sk_W Γ M mc ms pc L (.int y :: .int x :: S) g I J kc kn Q :=
  fun p e s m args below meth c H locs ls hC hH hS hl => lv_ixor hC.1 hC.2.1 d (h p e s m args below meth c H locs ls hC hH hS hl)
theorem sk_ishl {x y : Int32} (d : decode (sk_cc M) pc = .ok (.ishl, 1)) (h : sk_W Γ M mc ms (pc + 1) L (.int (x <<< (y &&& 31)) :: S) g I J kc kn Q) : sk_W Γ M mc ms pc L (.int y :: .int x :: S) g I J kc kn Q :=
  fun p e s m args below meth c H locs ls hC hH hS hl => lv_ishl hC.1 hC.2.1 d (h p e s m args below meth c H locs ls hC hH hS hl)
theorem sk_ishr {x y : Int32} (d : decode (sk_cc M) pc = .ok (.ishr, 1)) (h : sk_W Γ M mc ms (pc + 1) L (.int (x >>> (y &&& 31)) :: S) g I J kc kn Q) : sk_W Γ M mc ms pc L (.int y :: .int x :: S) g I J kc kn Q :=
  fun p e s m args below meth c H locs ls hC hH hS hl => lv_ishr hC.1 hC.2.1 d (h p e s m args below meth c H locs ls hC hH hS hl)
theorem sk_idiv {x y : Int32} (d : decode (sk_cc M) pc = .ok (.idiv, 1)) (hy : ¬ y = 0) (h : sk_W Γ M mc ms (pc + 1) L (.int (x / y) :: S) g I J kc kn Q) : sk_W Γ M mc ms pc L (.int y :: .int x :: S) g I J kc kn Q :=
  fun p e s m args below meth c H locs ls hC hH hS hl => lv_idiv hC.1 hC.2.1 d hy (h p e s m args below meth c H locs ls hC hH hS hl)
theorem sk_irem {x y : Int32} (d : decode (sk_cc M) pc = .ok (.irem, 1)) (hy : ¬ y = 0) (h : sk_W Γ M mc ms (pc + 1) L (.int (x - x / y * y) :: S) g I J kc kn Q) : sk_W Γ M mc ms pc L (.int y :: .int x :: S) g I J kc kn Q :=
  fun p e s m args below meth c H locs ls hC hH hS hl => lv_irem hC.1 hC.2.1 d hy (h p e s m args below meth c H locs ls hC hH hS hl)
theorem sk_ladd {x y : Int64} (d : decode (sk_cc M) pc = .ok (.ladd, 1)) (h : sk_W Γ M mc ms (pc + 1) L (.long (x + y) :: S) g I J kc kn Q) : sk_W Γ M mc ms pc L (.long y :: .long x :: S) g I J kc kn Q :=
  fun p e s m args below meth c H locs ls hC hH hS hl => lv_ladd hC.1 hC.2.1 d (h p e s m args below meth c H locs ls hC hH hS hl)
theorem sk_land {x y : Int64} (d : decode (sk_cc M) pc = .ok (.land, 1)) (h : sk_W Γ M mc ms (pc + 1) L (.long (x &&& y) :: S) g I J kc kn Q) : sk_W Γ M mc ms pc L (.long y :: .long x :: S) g I J kc kn Q :=
  fun p e s m args below meth c H locs ls hC hH hS hl => lv_land hC.1 hC.2.1 d (h p e s m args below meth c H locs ls hC hH hS hl)
theorem sk_lor {x y : Int64} (d : decode (sk_cc M) pc = .ok (.lor, 1)) (h : sk_W Γ M mc ms (pc + 1) L (.long (x ||| y) :: S) g I J kc kn Q) : sk_W Γ M mc ms pc L (.long y :: .long x :: S) g I J kc kn Q :=
  fun p e s m args below meth c H locs ls hC hH hS hl => lv_lor hC.1 hC.2.1 d (h p e s m args below meth c H locs ls hC hH hS hl)
theorem sk_lxor {x y : Int64} (d : decode (sk_cc M) pc = .ok (.lxor, 1)) (h : sk_W Γ M mc ms (pc + 1) L (.long (x ^^^ y) :: S) g I J kc kn Q) : sk_W Γ M mc ms pc L (.long y :: .long x :: S) g I J kc kn Q :=
  fun p e s m args below meth c H locs ls hC hH hS hl => lv_lxor hC.1 hC.2.1 d (h p e s m args below meth c H locs ls hC hH hS hl)
theorem sk_lshl {x : Int64} {y : Int32} (d : decode (sk_cc M) pc = .ok (.lshl, 1)) (h : sk_W Γ M mc ms (pc + 1) L (.long (x <<< (y.toInt64 &&& 63)) :: S) g I J kc kn Q) : sk_W Γ M mc ms pc L (.int y :: .long x :: S) g I J kc kn Q :=
  fun p e s m args below meth c H locs ls hC hH hS hl => lv_lshl hC.1 hC.2.1 d rfl (h p e s m args below meth c H locs ls hC hH hS hl)
theorem sk_lushr {x : Int64} {y : Int32} (d : decode (sk_cc M) pc = .ok (.lushr, 1)) (h : sk_W Γ M mc ms (pc + 1) L (.long ((x.toUInt64 >>> (y.toInt64.toUInt64 &&& Int64.toUInt64 63)).toInt64) :: S) g I J kc kn Q) : sk_W Γ M mc ms pc L (.int y :: .long x :: S) g I J kc kn Q :=
  fun p e s m args below meth c H locs ls hC hH hS hl => lv_lushr hC.1 hC.2.1 d rfl (h p e s m args below meth c H locs ls hC hH hS hl)
theorem sk_i2l {x : Int32} (d : decode (sk_cc M) pc = .ok (.i2l, 1)) (h : sk_W Γ M mc ms (pc + 1) L (.long x.toInt64 :: S) g I J kc kn Q) : sk_W Γ M mc ms pc L (.int x :: S) g I J kc kn Q :=
  fun p e s m args below meth c H locs ls hC hH hS hl => lv_i2l hC.1 hC.2.1 d rfl (h p e s m args below meth c H locs ls hC hH hS hl)
theorem sk_l2i {x : Int64} (d : decode (sk_cc M) pc = .ok (.l2i, 1)) (h : sk_W Γ M mc ms (pc + 1) L (.int x.toInt32 :: S) g I J kc kn Q) : sk_W Γ M mc ms pc L (.long x :: S) g I J kc kn Q :=
  fun p e s m args below meth c H locs ls hC hH hS hl => lv_l2i hC.1 hC.2.1 d rfl (h p e s m args below meth c H locs ls hC hH hS hl)
theorem sk_lcmp {x y : Int64} (d : decode (sk_cc M) pc = .ok (.lcmp, 1)) (h : sk_W Γ M mc ms (pc + 1) L (.int (lg_cmp x y) :: S) g I J kc kn Q) : sk_W Γ M mc ms pc L (.long y :: .long x :: S) g I J kc kn Q :=
  fun p e s m args below meth c H locs ls hC hH hS hl => W.lcmp hC.1 hC.2.1 d (h p e s m args below meth c H locs ls hC hH hS hl)
theorem sk_dup {v : Value} (d : decode (sk_cc M) pc = .ok (.dup, 1)) (hv : v.category = 1) (h : sk_W Γ M mc ms (pc + 1) L (v :: v :: S) g I J kc kn Q) : sk_W Γ M mc ms pc L (v :: S) g I J kc kn Q :=
  fun p e s m args below meth c H locs ls hC hH hS hl => lv_dup hC.1 hC.2.1 d ((sk_tr_cat Γ v).trans hv) (h p e s m args below meth c H locs ls hC hH hS hl)
theorem sk_pop {v : Value} (d : decode (sk_cc M) pc = .ok (.pop, 1)) (hv : v.category = 1) (h : sk_W Γ M mc ms (pc + 1) L S g I J kc kn Q) : sk_W Γ M mc ms pc L (v :: S) g I J kc kn Q :=
  fun p e s m args below meth c H locs ls hC hH hS hl => lv_pop hC.1 hC.2.1 d ((sk_tr_cat Γ v).trans hv) (h p e s m args below meth c H locs ls hC hH hS hl)
theorem sk_dup_x1 {v w : Value} (d : decode (sk_cc M) pc = .ok (.dup_x1, 1)) (hv : v.category = 1) (hw : w.category = 1) (h : sk_W Γ M mc ms (pc + 1) L (v :: w :: v :: S) g I J kc kn Q) : sk_W Γ M mc ms pc L (v :: w :: S) g I J kc kn Q :=
  fun p e s m args below meth c H locs ls hC hH hS hl => lv_dup_x1 hC.1 hC.2.1 d ((sk_tr_cat Γ v).trans hv) ((sk_tr_cat Γ w).trans hw) (h p e s m args below meth c H locs ls hC hH hS hl)
theorem sk_dup2 {v w : Value} (d : decode (sk_cc M) pc = .ok (.dup2, 1)) (hv : v.category = 1) (hw : w.category = 1) (h : sk_W Γ M mc ms (pc + 1) L (v :: w :: v :: w :: S) g I J kc kn Q) : sk_W Γ M mc ms pc L (v :: w :: S) g I J kc kn Q :=
  fun p e s m args below meth c H locs ls hC hH hS hl => lv_dup2_11 hC.1 hC.2.1 d ((sk_tr_cat Γ v).trans hv) ((sk_tr_cat Γ w).trans hw) (h p e s m args below meth c H locs ls hC hH hS hl)
theorem sk_if_eq {x : Int32} {off : Int} {tgt : Nat} (d : decode (sk_cc M) pc = .ok (.ifCond .eq off, 3)) (ht : (pc : Int) + off = (tgt : Int)) (kt : x = 0 → sk_W Γ M mc ms tgt L S g I J kc kn Q) (kf : ¬ x = 0 → sk_W Γ M mc ms (pc + 3) L S g I J kc kn Q) : sk_W Γ M mc ms pc L (.int x :: S) g I J kc kn Q :=
  fun p e s m args below meth c H locs ls hC hH hS hl => lv_if_eq hC.1 hC.2.1 d ht (fun q => kt q p e s m args below meth c H locs ls hC hH hS hl) (fun q => kf q p e s m args below meth c H locs ls hC hH hS hl)
theorem sk_icmp_eq {x y : Int32} {off : Int} {tgt : Nat} (d : decode (sk_cc M) pc = .ok (.if_icmp .eq off, 3)) (ht : (pc : Int) + off = (tgt : Int)) (kt : x = y → sk_W Γ M mc ms tgt L S g I J kc kn Q) (kf : ¬ x = y → sk_W Γ M mc ms (pc + 3) L S g I J kc kn Q) : sk_W Γ M mc ms pc L (.int y :: .int x :: S) g I J kc kn Q :=
  fun p e s m args below meth c H locs ls hC hH hS hl => lv_icmp_eq hC.1 hC.2.1 d ht (fun q => kt q p e s m args below meth c H locs ls hC hH hS hl) (fun q => kf q p e s m args below meth c H locs ls hC hH hS hl)
theorem sk_if_ne {x : Int32} {off : Int} {tgt : Nat} (d : decode (sk_cc M) pc = .ok (.ifCond .ne off, 3)) (ht : (pc : Int) + off = (tgt : Int)) (kt : ¬ x = 0 → sk_W Γ M mc ms tgt L S g I J kc kn Q) (kf : x = 0 → sk_W Γ M mc ms (pc + 3) L S g I J kc kn Q) : sk_W Γ M mc ms pc L (.int x :: S) g I J kc kn Q :=
  fun p e s m args below meth c H locs ls hC hH hS hl => lv_if_ne hC.1 hC.2.1 d ht (fun q => kt q p e s m args below meth c H locs ls hC hH hS hl) (fun q => kf q p e s m args below meth c H locs ls hC hH hS hl)
theorem sk_icmp_ne {x y : Int32} {off : Int} {tgt : Nat} (d : decode (sk_cc M) pc = .ok (.if_icmp .ne off, 3)) (ht : (pc : Int) + off = (tgt : Int)) (kt : ¬ x = y → sk_W Γ M mc ms tgt L S g I J kc kn Q) (kf : x = y → sk_W Γ M mc ms (pc + 3) L S g I J kc kn Q) : sk_W Γ M mc ms pc L (.int y :: .int x :: S) g I J kc kn Q :=
  fun p e s m args below meth c H locs ls hC hH hS hl => lv_icmp_ne hC.1 hC.2.1 d ht (fun q => kt q p e s m args below meth c H locs ls hC hH hS hl) (fun q => kf q p e s m args below meth c H locs ls hC hH hS hl)
theorem sk_if_lt {x : Int32} {off : Int} {tgt : Nat} (d : decode (sk_cc M) pc = .ok (.ifCond .lt off, 3)) (ht : (pc : Int) + off = (tgt : Int)) (kt : x < 0 → sk_W Γ M mc ms tgt L S g I J kc kn Q) (kf : ¬ x < 0 → sk_W Γ M mc ms (pc + 3) L S g I J kc kn Q) : sk_W Γ M mc ms pc L (.int x :: S) g I J kc kn Q :=
  fun p e s m args below meth c H locs ls hC hH hS hl => lv_if_lt hC.1 hC.2.1 d ht (fun q => kt q p e s m args below meth c H locs ls hC hH hS hl) (fun q => kf q p e s m args below meth c H locs ls hC hH hS hl)
theorem sk_icmp_lt {x y : Int32} {off : Int} {tgt : Nat} (d : decode (sk_cc M) pc = .ok (.if_icmp .lt off, 3)) (ht : (pc : Int) + off = (tgt : Int)) (kt : x < y → sk_W Γ M mc ms tgt L S g I J kc kn Q) (kf : ¬ x < y → sk_W Γ M mc ms (pc + 3) L S g I J kc kn Q) : sk_W Γ M mc ms pc L (.int y :: .int x :: S) g I J kc kn Q :=
  fun p e s m args below meth c H locs ls hC hH hS hl => lv_icmp_lt hC.1 hC.2.1 d ht (fun q => kt q p e s m args below meth c H locs ls hC hH hS hl) (fun q => kf q p e s m args below meth c H locs ls hC hH hS hl)
theorem sk_if_ge {x : Int32} {off : Int} {tgt : Nat} (d : decode (sk_cc M) pc = .ok (.ifCond .ge off, 3)) (ht : (pc : Int) + off = (tgt : Int)) (kt : 0 ≤ x → sk_W Γ M mc ms tgt L S g I J kc kn Q) (kf : ¬ 0 ≤ x → sk_W Γ M mc ms (pc + 3) L S g I J kc kn Q) : sk_W Γ M mc ms pc L (.int x :: S) g I J kc kn Q :=
  fun p e s m args below meth c H locs ls hC hH hS hl => lv_if_ge hC.1 hC.2.1 d ht (fun q => kt q p e s m args below meth c H locs ls hC hH hS hl) (fun q => kf q p e s m args below meth c H locs ls hC hH hS hl)
theorem sk_icmp_ge {x y : Int32} {off : Int} {tgt : Nat} (d : decode (sk_cc M) pc = .ok (.if_icmp .ge off, 3)) (ht : (pc : Int) + off = (tgt : Int)) (kt : y ≤ x → sk_W Γ M mc ms tgt L S g I J kc kn Q) (kf : ¬ y ≤ x → sk_W Γ M mc ms (pc + 3) L S g I J kc kn Q) : sk_W Γ M mc ms pc L (.int y :: .int x :: S) g I J kc kn Q :=
  fun p e s m args below meth c H locs ls hC hH hS hl => lv_icmp_ge hC.1 hC.2.1 d ht (fun q => kt q p e s m args below meth c H locs ls hC hH hS hl) (fun q => kf q p e s m args below meth c H locs ls hC hH hS hl)
theorem sk_if_gt {x : Int32} {off : Int} {tgt : Nat} (d : decode (sk_cc M) pc = .ok (.ifCond .gt off, 3)) (ht : (pc : Int) + off = (tgt : Int)) (kt : 0 < x → sk_W Γ M mc ms tgt L S g I J kc kn Q) (kf : ¬ 0 < x → sk_W Γ M mc ms (pc + 3) L S g I J kc kn Q) : sk_W Γ M mc ms pc L (.int x :: S) g I J kc kn Q :=
  fun p e s m args below meth c H locs ls hC hH hS hl => lv_if_gt hC.1 hC.2.1 d ht (fun q => kt q p e s m args below meth c H locs ls hC hH hS hl) (fun q => kf q p e s m args below meth c H locs ls hC hH hS hl)
theorem sk_icmp_gt {x y : Int32} {off : Int} {tgt : Nat} (d : decode (sk_cc M) pc = .ok (.if_icmp .gt off, 3)) (ht : (pc : Int) + off = (tgt : Int)) (kt : y < x → sk_W Γ M mc ms tgt L S g I J kc kn Q) (kf : ¬ y < x → sk_W Γ M mc ms (pc + 3) L S g I J kc kn Q) : sk_W Γ M mc ms pc L (.int y :: .int x :: S) g I J kc kn Q :=
  fun p e s m args below meth c H locs ls hC hH hS hl => lv_icmp_gt hC.1 hC.2.1 d ht (fun q => kt q p e s m args below meth c H locs ls hC hH hS hl) (fun q => kf q p e s m args below meth c H locs ls hC hH hS hl)
theorem sk_if_le {x : Int32} {off : Int} {tgt : Nat} (d : decode (sk_cc M) pc = .ok (.ifCond .le off, 3)) (ht : (pc : Int) + off = (tgt : Int)) (kt : x ≤ 0 → sk_W Γ M mc ms tgt L S g I J kc kn Q) (kf : ¬ x ≤ 0 → sk_W Γ M mc ms (pc + 3) L S g I J kc kn Q) : sk_W Γ M mc ms pc L (.int x :: S) g I J kc kn Q :=
  fun p e s m args below meth c H locs ls hC hH hS hl => lv_if_le hC.1 hC.2.1 d ht (fun q => kt q p e s m args below meth c H locs ls hC hH hS hl) (fun q => kf q p e s m args below meth c H locs ls hC hH hS hl)
theorem sk_icmp_le {x y : Int32} {off : Int} {tgt : Nat} (d : decode (sk_cc M) pc = .ok (.if_icmp .le off, 3)) (ht : (pc : Int) + off = (tgt : Int)) (kt : x ≤ y → sk_W Γ M mc ms tgt L S g I J kc kn Q) (kf : ¬ x ≤ y → sk_W Γ M mc ms (pc + 3) L S g I J kc kn Q) : sk_W Γ M mc ms pc L (.int y :: .int x :: S) g I J kc kn Q :=
  fun p e s m args below meth c H locs ls hC hH hS hl => lv_icmp_le hC.1 hC.2.1 d ht (fun q => kt q p e s m args below meth c H locs ls hC hH hS hl) (fun q => kf q p e s m args below meth c H locs ls hC hH hS hl)
theorem sk_goto {off : Int} {tgt : Nat} (d : decode (sk_cc M) pc = .ok (.goto off, 3)) (ht : (pc : Int) + off = (tgt : Int)) (h : sk_W Γ M mc ms tgt L S g I J kc kn Q) : sk_W Γ M mc ms pc L S g I J kc kn Q :=
  fun p e s m args below meth c H locs ls hC hH hS hl => lv_goto hC.1 hC.2.1 d ht (h p e s m args below meth c H locs ls hC hH hS hl)
theorem sk_tableOut {dflt lo hi : Int} {offs : Array Int} {len : Nat} {x : Int32} {tgt : Nat} (d : decode (sk_cc M) pc = .ok (.tableswitch dflt lo hi offs, len)) (hx : x.toInt < lo ∨ hi < x.toInt) (ht : (pc : Int) + dflt = (tgt : Int)) (h : sk_W Γ M mc ms tgt L S g I J kc kn Q) : sk_W Γ M mc ms pc L (.int x :: S) g I J kc kn Q :=
  fun p e s m args below meth c H locs ls hC hH hS hl => lv_tableOut hC.1 hC.2.1 d hx ht (h p e s m args below meth c H locs ls hC hH hS hl)
theorem sk_tableIn {dflt lo hi : Int} {offs : Array Int} {len : Nat} {x : Int32} {off : Int} {tgt : Nat} (d : decode (sk_cc M) pc = .ok (.tableswitch dflt lo hi offs, len)) (h1 : ¬ x.toInt < lo) (h2 : ¬ hi < x.toInt) (ho : offs[(x.toInt - lo).toNat]? = some off) (ht : (pc : Int) + off = (tgt : Int)) (h : sk_W Γ M mc ms tgt L S g I J kc kn Q) : sk_W Γ M mc ms pc L (.int x :: S) g I J kc kn Q :=
  fun p e s m args below meth c H locs ls hC hH hS hl => lv_tableIn hC.1 hC.2.1 d h1 h2 ho ht (h p e s m args below meth c H locs ls hC hH hS hl)
theorem sk_loc {L' : List (Nat × Value)} (ks : List Nat) (hL : lv_pick L ks = L') (h : sk_W Γ M mc ms pc L' S g I J kc kn Q) : sk_W Γ M mc ms pc L S g I J kc kn Q :=
  fun p e s m args below meth c H locs ls hC hH hS hl => h p e s m args below meth c H locs ls hC hH hS (lv_sub hl ks (by rw [← hL]; exact sk_pick Γ L ks))
end SKR
end
section
/-! rules over the heap -/
def sk_fl (own : String) (idx : Nat) (T : u_T) (j : Nat) : Prop := Cond.fieldLink own idx (T j).1 (T j).2.1 (T j).2.2.1 ∈ sk_ts ∨ ∃ host : String, Cond.fieldLinkNest own idx (T j).1 (T j).2.1 (T j).2.2.1 host ∈ sk_nw
/-- a row of a cell's numbers anew -/
def sk_set {α : Type} (I : Nat → α) (q : Nat) (f : α) : Nat → α := fun a => if a = q then f else I a
theorem sk_set_eq {α : Type} (I : Nat → α) (q : Nat) (f : α) : sk_set I q f q = f := if_pos rfl
theorem sk_set_ne {α : Type} (I : Nat → α) {q a : Nat} (f : α) (h : a ≠ q) : sk_set I q f a = I a := if_neg h
theorem sk_set_set {α : Type} (I : Nat → α) (q : Nat) (f f' : α) : sk_set (sk_set I q f) q f' = sk_set I q f' := by
  funext a
  by_cases h : a = q
  · subst h; rw [sk_set_eq, sk_set_eq]
  · rw [sk_set_ne _ _ h, sk_set_ne _ _ h, sk_set_ne _ _ h]
theorem sk_set_self {α : Type} (I : Nat → α) (q : Nat) : sk_set I q (I q) = I := by
  funext a
  by_cases h : a = q
  · subst h; rw [sk_set_eq]
  · rw [sk_set_ne _ _ h]
theorem sk_cell_off (Γ : sk_T) {R R' : sk_R} {I I' : sk_I} {J J' : sk_J} {q : Nat} (hR : R' q = R q) (hI : I' q = I q) (hJ : J' q = J q) (sp : Nat × Nat × Nat) : sk_cell Γ R' I' J' q sp = sk_cell Γ R I J q sp := by
  obtain ⟨t, a, b⟩ := sp
  have hf : ∀ kd j, sk_fv Γ kd R' I' J' q j = sk_fv Γ kd R I J q j := by
    intro kd j
    simp only [sk_fv, hR, hI, hJ]
  match t with
  | 0 => simp only [sk_cell, hf]
  | 1 => simp only [sk_cell, hI]
  | 2 => simp only [sk_cell, hI]
  | (n + 3) => simp only [sk_cell, hJ]
theorem sk_ws_set (Γ : sk_T) {g g' : sk_G} {I I' : sk_I} {J J' : sk_J} {q : Nat} {e : va_E} {sp : Nat × Nat × Nat} (hs : g'.2.1 = g.2.1) (hq : g.2.1[q]? = some sp) (he : sk_cell Γ g'.2.2 I' J' q sp = e)
    (hR : ∀ a, a ≠ q → g'.2.2 a = g.2.2 a) (hI : ∀ a, a ≠ q → I' a = I a) (hJ : ∀ a, a ≠ q → J' a = J a) : (sk_ws Γ g I J).set q (sk_ad Γ q, e) = sk_ws Γ g' I' J' := by
  apply List.ext_getElem?
  intro i
  have hl : q < (sk_ws Γ g I J).length := by
    have := (List.getElem?_eq_some_iff.mp hq).1
    simpa [sk_ws] using this
  by_cases h : i = q
  · subst h
    rw [List.getElem?_set_self hl, sk_wsAt Γ g' I' J' (q := i) (sp := sp) (by rw [hs]; exact hq), he]
  · rw [List.getElem?_set_ne (Ne.symm h)]
    simp only [sk_ws, List.getElem?_mapIdx, hs]
    cases hx : g.2.1[i]? with
    | none => rfl
    | some x => simp only [Option.map_some, sk_cell_off Γ (hR i h) (hI i h) (hJ i h)]
theorem sk_ws_push (Γ : sk_T) (g : sk_G) (I : sk_I) (J : sk_J) (sp : Nat × Nat × Nat) (b : Bool) : sk_ws Γ (b, g.2.1 ++ [sp], g.2.2) I J = sk_ws Γ g I J ++ [(sk_ad Γ g.2.1.length, sk_cell Γ g.2.2 I J g.2.1.length sp)] := by
  simp [sk_ws, List.mapIdx_concat]
section SKH
variable {Γ : sk_T} {M : sk_M} {mc ms pc : Nat} {L : List (Nat × Value)} {S : List Value} {g : sk_G} {I : sk_I} {J : sk_J} {kc kn : Nat} {Q : sk_Q}
theorem sk_getf {q ci N j idx : Nat} {C : String} {T : u_T} {v : Value} (d : decode (sk_cc M) pc = .ok (.getfield idx, 3)) (ho : g.2.1[q]? = some (0, ci, N)) (hc : sk_cl[ci]? = some (C, T, N)) (hj : j < N) (hf : sk_fl (sk_own M) idx T j)
    (hv : sk_fv Γ (sk_kd ci j) g.2.2 I J q j = sk_tr Γ v) (h : sk_W Γ M mc ms (pc + 3) L (v :: S) g I J kc kn Q) : sk_W Γ M mc ms pc L (.ref q :: S) g I J kc kn Q := by
  intro p e s m args below meth c H locs ls hC hH hS hl
  have he : (sk_ws Γ g I J)[q]? = some (sk_ad Γ q, .inr (ci, (List.range N).map (fun j => sk_fv Γ (sk_kd ci j) g.2.2 I J q j))) := sk_wsAt Γ g I J ho
  have hw : ((List.range N).map (fun j => sk_fv Γ (sk_kd ci j) g.2.2 I J q j))[j]? = some (sk_tr Γ v) := by
    rw [← hv]; simp [hj]
  rcases hf with hf | ⟨host, hf⟩
  · exact va_get (C := C) (T := T) (N := N) hC.1 hC.2.1 hC.2.2.2.2.2.2.1 (sk_lays hc) hC.2.2.2.2.2.1 hC.2.2.2.2.2.2.2.1.1 hH.1 q he hc j hj (hC.2.2.2.2.2.2.1 _ hf) (fun _ h9 => h9) hw d (h p e s m args below meth c H locs ls hC hH hS hl)
  · exact va_getN (C := C) (T := T) (N := N) hC.1 hC.2.1 hC.2.2.2.2.2.2.1 (sk_lays hc) hC.2.2.2.2.2.1 hC.2.2.2.2.2.2.2.1.1 hH.1 q he hc j hj (va_Nw.use rfl (hC.2.2.2.2.2.2.2.1.2.1 _ hf)) (fun _ h9 => h9) hw d (h p e s m args below meth c H locs ls hC hH hS hl)
theorem sk_getI {q ci N j idx : Nat} {C : String} {T : u_T} (d : decode (sk_cc M) pc = .ok (.getfield idx, 3)) (ho : g.2.1[q]? = some (0, ci, N)) (hc : sk_cl[ci]? = some (C, T, N)) (hj : j < N) (hf : sk_fl (sk_own M) idx T j)
    (hk : sk_kd ci j = 0) (h : sk_W Γ M mc ms (pc + 3) L (.int (I q j) :: S) g I J kc kn Q) : sk_W Γ M mc ms pc L (.ref q :: S) g I J kc kn Q := sk_getf d ho hc hj hf (by rw [hk]; rfl) h
theorem sk_getJ {q ci N j idx : Nat} {C : String} {T : u_T} (d : decode (sk_cc M) pc = .ok (.getfield idx, 3)) (ho : g.2.1[q]? = some (0, ci, N)) (hc : sk_cl[ci]? = some (C, T, N)) (hj : j < N) (hf : sk_fl (sk_own M) idx T j)
    (hk : sk_kd ci j = 1) (h : sk_W Γ M mc ms (pc + 3) L (.long (J q j) :: S) g I J kc kn Q) : sk_W Γ M mc ms pc L (.ref q :: S) g I J kc kn Q := sk_getf d ho hc hj hf (by rw [hk]; rfl) h
theorem sk_getR {q ci N j idx r : Nat} {C : String} {T : u_T} (d : decode (sk_cc M) pc = .ok (.getfield idx, 3)) (ho : g.2.1[q]? = some (0, ci, N)) (hc : sk_cl[ci]? = some (C, T, N)) (hj : j < N) (hf : sk_fl (sk_own M) idx T j)
    (hk : sk_kd ci j = 2) (hr : g.2.2 q j = some r) (h : sk_W Γ M mc ms (pc + 3) L (.ref r :: S) g I J kc kn Q) : sk_W Γ M mc ms pc L (.ref q :: S) g I J kc kn Q := sk_getf d ho hc hj hf (by rw [hk]; simp [sk_fv, hr, sk_tr]) h
theorem sk_stored {g' : sk_G} {I' : sk_I} {J' : sk_J} {H H' : Heap} {s : State} {locs : List Loc} {q j : Nat} {sp : Nat × Nat × Nat} (hF : sk_fix Γ s) (hH : sk_hp Γ g I J H) (hS : va_S (sk_A Γ) s.heap H locs) (hq : g.2.1[q]? = some sp) (hat : va_at (sk_D Γ) sk_cl (sk_ad Γ q, sk_cell Γ g'.2.2 I' J' q sp) H')
    (e2 : H'.size = H.size) (e3 : ∀ x : Nat, x ≠ sk_ad Γ q → H'[x]? = H[x]?) (hg1 : g'.1 = g.1) (hg2 : g'.2.1 = g.2.1) (hR : ∀ a, a ≠ q → g'.2.2 a = g.2.2 a) (hI : ∀ a, a ≠ q → I' a = I a) (hJ : ∀ a, a ≠ q → J' a = J a) :
    sk_hp Γ g' I' J' H' ∧ va_S (sk_A Γ) s.heap H' (locs ++ [⟨sk_ad Γ q, j⟩]) := by
  have hD := sk_apart (Γ := Γ) (g := g) I J hH.2.2.2 hF.2.2.2.2.2.2.2.2.2.1
  have he := sk_wsAt Γ g I J hq
  have hset := sk_ws_set Γ (g := g) (g' := g') (I := I) (I' := I') (J := J) (J' := J') hg2 hq rfl hR hI hJ
  have hP := hH.1.set hD he hat e3
  rw [hset] at hP
  exact ⟨⟨hP, by rw [e2]; exact hH.2.1, by rw [e2, hg1, hg2]; exact hH.2.2.1, by rw [hg2]; exact hH.2.2.2⟩, hS.put e2 e3 (hD.2 q _ he)⟩
theorem sk_putf {q ci N j idx : Nat} {C : String} {T : u_T} {v : Value} {ty : FieldType} {g' : sk_G} {I' : sk_I} {J' : sk_J} (d : decode (sk_cc M) pc = .ok (.putfield idx, 3)) (ho : g.2.1[q]? = some (0, ci, N)) (hc : sk_cl[ci]? = some (C, T, N)) (hj : j < N)
    (hf : Cond.fieldLink (sk_own M) idx (T j).1 (T j).2.1 (T j).2.2.1 ∈ sk_ts) (hfin : (T j).2.2.2 = false ∨ ((T j).2.2.2 = true ∧ (sk_y M).name = "<init>" ∧ (T j).1 = sk_own M)) (hd : parseFieldDescriptor (T j).2.2.1 = some ty) (hn : narrow ty (sk_tr Γ v) = sk_tr Γ v) (hfit : fits ty (sk_tr Γ v) = true)
    (hg1 : g'.1 = g.1) (hg2 : g'.2.1 = g.2.1) (hcell : ∀ i, i < N → sk_fv Γ (sk_kd ci i) g'.2.2 I' J' q i = if i = j then sk_tr Γ v else sk_fv Γ (sk_kd ci i) g.2.2 I J q i) (hR : ∀ a, a ≠ q → g'.2.2 a = g.2.2 a) (hI : ∀ a, a ≠ q → I' a = I a) (hJ : ∀ a, a ≠ q → J' a = J a)
    (h : sk_W Γ M mc ms (pc + 3) L S g' I' J' kc kn Q) : sk_W Γ M mc ms pc L (v :: .ref q :: S) g I J kc kn Q := by
  intro p e s m args below meth c H locs ls hC hH hS hl
  have hts := hC.2.2.2.2.2.2.1
  have hK := hC.2.2.2.2.2.2.2.1.1
  have he : (sk_ws Γ g I J)[q]? = some (sk_ad Γ q, .inr (ci, (List.range N).map (fun j => sk_fv Γ (sk_kd ci j) g.2.2 I J q j))) := sk_wsAt Γ g I J ho
  have hap := va_apart (own := sk_own M) hts (sk_lays hc) (sk_fty T) (sk_ftyOk hc) (sk_names hc) hK hc
  obtain ⟨r, h1, cell, q1, q2, q3, q4⟩ := hH.1 q _ he
  have hr : r = (C, T, N) := Option.some.inj (h1.symm.trans hc)
  subst hr
  obtain ⟨hSl, hfc, kC, hkC, hkind⟩ := hK.1 ci _ hc
  obtain ⟨cf, kf, fi, f, hi, hsl⟩ := hSl j hj
  have hst := (u_facts hfc hkC (u_lays hts (sk_lays hc) hj) hi).1
  have hlay := hts _ (sk_lays hc _ (u_in_lay hj))
  unfold u_lay at hlay
  have done : ∀ H' : Heap, H'[sk_ad Γ q]? = some (cell.setSlot f.slot (sk_tr Γ v)) → H'.size = H.size → (∀ x : Nat, x ≠ sk_ad Γ q → H'[x]? = H[x]?) →
      W p (sk_l Γ) e (sk_rm M mc ms) s m args below meth c H' (locs ++ [⟨sk_ad Γ q, f.slot⟩]) kc kn (sk_Fin Γ Q mc ms below args s) (F0 m (pc + 3) ls (S.map (sk_tr Γ))) := by
    intro H' e1 e2 e3
    rw [hsl] at e1
    have hat : va_at (sk_D Γ) sk_cl (sk_ad Γ q, sk_cell Γ g'.2.2 I' J' q (0, ci, N)) H' := by
      refine ⟨_, hc, t_OB.to (V := updV (vp_V ((List.range N).map (fun j => sk_fv Γ (sk_kd ci j) g.2.2 I J q j))) j (sk_tr Γ v)) ⟨_, e1, q2, q3, t_set q4 hap hj _⟩ (fun i hi9 => ?_)⟩
      show updV (vp_V ((List.range N).map (fun j => sk_fv Γ (sk_kd ci j) g.2.2 I J q j))) j (sk_tr Γ v) i = vp_V ((List.range N).map (fun j => sk_fv Γ (sk_kd ci j) g'.2.2 I' J' q j)) i
      have hi8 : i < N := hi9
      by_cases hij : i = j
      · subst hij
        simp [updV, vp_V, hi8, hcell i hi8]
      · simp [updV, vp_V, hi8, hcell i hi8, hij]
    obtain ⟨h5, h6⟩ := sk_stored (j := f.slot) hC.2.2.2.2.2.2.2.1 hH hS ho hat e2 e3 hg1 hg2 hR hI hJ
    exact h p e s m args below meth c H' _ ls hC h5 h6 hl
  rcases hfin with hfin | ⟨hfin, hin, hown⟩
  · rw [if_neg (by rw [hfin]; decide)] at hlay
    exact W.putK hC.1 hC.2.1 (f := f) ⟨hC.2.2.2.2.2.1, hts _ hf, ⟨_, _, _, hi⟩, hst⟩ (by rw [q2]; exact u_store hfc hkC hkind hlay hi hd hn hfit) q1 q3 (by rw [hsl]; exact k2_hasslot (q4 j hj)) rfl rfl d done
  · rw [if_pos hfin] at hlay
    have hcf : m.cls = cf := by
      obtain ⟨_, _, c', _, _, _, -, -, hf', -, -, -, hown2, -⟩ := Cond.laysFinal_spec hlay
      have e1 : c' = cf := by have := hi.symm.trans hf'; simp at this; exact this.1.symm
      rw [hown] at hown2
      rw [← e1]; exact Option.some.inj (hC.2.2.2.2.2.1.symm.trans hown2)
    exact W.putFinK hC.1 hC.2.1 hC.2.2.2.2.2.1 (hts _ hf) hi hst hcf (hC.2.2.2.2.2.2.2.2.2.1.trans hin) (by rw [q2]; exact u_fits hfc hkC hkind (Or.inr hlay) hi hd hn hfit) q1 q3 (by rw [hsl]; exact k2_hasslot (q4 j hj)) rfl rfl d done
/-- an int field -/
theorem sk_putI {q ci N j idx : Nat} {C : String} {T : u_T} {v : Int32} {ty : FieldType} (d : decode (sk_cc M) pc = .ok (.putfield idx, 3)) (ho : g.2.1[q]? = some (0, ci, N)) (hc : sk_cl[ci]? = some (C, T, N)) (hj : j < N)
    (hf : Cond.fieldLink (sk_own M) idx (T j).1 (T j).2.1 (T j).2.2.1 ∈ sk_ts) (hfin : (T j).2.2.2 = false ∨ ((T j).2.2.2 = true ∧ (sk_y M).name = "<init>" ∧ (T j).1 = sk_own M)) (hd : parseFieldDescriptor (T j).2.2.1 = some ty) (hk : sk_kd ci j = 0) (hn : narrow ty (.int v) = .int v) (hfit : fits ty (.int v) = true)
    (h : sk_W Γ M mc ms (pc + 3) L S g (sk_set I q (upd (I q) j v)) J kc kn Q) : sk_W Γ M mc ms pc L (.int v :: .ref q :: S) g I J kc kn Q := by
  refine sk_putf d ho hc hj hf hfin hd hn hfit rfl rfl (fun i hi => ?_) (fun _ _ => rfl) (fun a ha => sk_set_ne _ _ ha) (fun _ _ => rfl) h
  by_cases hij : i = j
  · subst hij
    simp [sk_fv, hk, sk_set, upd, sk_tr]
  · rw [if_neg hij]
    simp only [sk_fv, sk_set_eq]
    rw [show upd (I q) j v i = I q i from if_neg hij]
theorem sk_putJ {q ci N j idx : Nat} {C : String} {T : u_T} {v : Int64} (d : decode (sk_cc M) pc = .ok (.putfield idx, 3)) (ho : g.2.1[q]? = some (0, ci, N)) (hc : sk_cl[ci]? = some (C, T, N)) (hj : j < N)
    (hf : Cond.fieldLink (sk_own M) idx (T j).1 (T j).2.1 (T j).2.2.1 ∈ sk_ts) (hfin : (T j).2.2.2 = false ∨ ((T j).2.2.2 = true ∧ (sk_y M).name = "<init>" ∧ (T j).1 = sk_own M)) (hd : parseFieldDescriptor (T j).2.2.1 = some .long) (hk : sk_kd ci j = 1)
    (h : sk_W Γ M mc ms (pc + 3) L S g I (sk_set J q (vp_updL (J q) j v)) kc kn Q) : sk_W Γ M mc ms pc L (.long v :: .ref q :: S) g I J kc kn Q := by
  refine sk_putf d ho hc hj hf hfin hd rfl rfl rfl rfl (fun i hi => ?_) (fun _ _ => rfl) (fun _ _ => rfl) (fun a ha => sk_set_ne _ _ ha) h
  by_cases hij : i = j
  · subst hij
    simp [sk_fv, hk, sk_set, vp_updL, sk_tr]
  · rw [if_neg hij]
    simp only [sk_fv, sk_set_eq]
    rw [show vp_updL (J q) j v i = J q i from if_neg hij]
def sk_updR (f : Nat → Option Nat) (k : Nat) (x : Option Nat) : Nat → Option Nat := fun j => if j = k then x else f j
theorem sk_putR {q ci N j idx r : Nat} {C : String} {T : u_T} {ty : FieldType} (d : decode (sk_cc M) pc = .ok (.putfield idx, 3)) (ho : g.2.1[q]? = some (0, ci, N)) (hc : sk_cl[ci]? = some (C, T, N)) (hj : j < N)
    (hf : Cond.fieldLink (sk_own M) idx (T j).1 (T j).2.1 (T j).2.2.1 ∈ sk_ts) (hfin : (T j).2.2.2 = false ∨ ((T j).2.2.2 = true ∧ (sk_y M).name = "<init>" ∧ (T j).1 = sk_own M)) (hd : parseFieldDescriptor (T j).2.2.1 = some ty) (hk : sk_kd ci j = 2) (hn : ∀ a : Nat, narrow ty (.ref a) = .ref a) (hfit : ∀ a : Nat, fits ty (.ref a) = true)
    (h : sk_W Γ M mc ms (pc + 3) L S (g.1, g.2.1, sk_set g.2.2 q (sk_updR (g.2.2 q) j (some r))) I J kc kn Q) : sk_W Γ M mc ms pc L (.ref r :: .ref q :: S) g I J kc kn Q := by
  refine sk_putf (g' := (g.1, g.2.1, sk_set g.2.2 q (sk_updR (g.2.2 q) j (some r)))) d ho hc hj hf hfin hd (hn _) (hfit _) rfl rfl (fun i hi => ?_) (fun a ha => sk_set_ne _ _ ha) (fun _ _ => rfl) (fun _ _ => rfl) h
  by_cases hij : i = j
  · subst hij
    simp [sk_fv, hk, sk_set, sk_updR, sk_tr]
  · rw [if_neg hij]
    simp only [sk_fv, sk_set_eq]
    rw [show sk_updR (g.2.2 q) j (some r) i = g.2.2 q i from if_neg hij]
theorem sk_iald {q n z : Nat} {i : Int32} (d : decode (sk_cc M) pc = .ok (.iaload, 1)) (ho : g.2.1[q]? = some (1, n, z)) (hin : vp_in i n) (h : sk_W Γ M mc ms (pc + 1) L (.int (I q i.toNatClampNeg) :: S) g I J kc kn Q) : sk_W Γ M mc ms pc L (.int i :: .ref q :: S) g I J kc kn Q := by
  intro p e s m args below meth c H locs ls hC hH hS hl
  have he : (sk_ws Γ g I J)[q]? = some (sk_ad Γ q, .inl (sk_id Γ 0, n, .inl (I q))) := sk_wsAt Γ g I J ho
  exact va_iald hC.1 hC.2.1 hC.2.2.2.2.2.2.2.1.1 hH.1 q 0 he rfl hin d (h p e s m args below meth c H locs ls hC hH hS hl)
theorem sk_zald {q n z : Nat} {i : Int32} (d : decode (sk_cc M) pc = .ok (.baload, 1)) (ho : g.2.1[q]? = some (2, n, z)) (hin : vp_in i n) (h : sk_W Γ M mc ms (pc + 1) L (.int (I q i.toNatClampNeg) :: S) g I J kc kn Q) : sk_W Γ M mc ms pc L (.int i :: .ref q :: S) g I J kc kn Q := by
  intro p e s m args below meth c H locs ls hC hH hS hl
  have he : (sk_ws Γ g I J)[q]? = some (sk_ad Γ q, .inl (sk_id Γ 1, n, .inl (I q))) := sk_wsAt Γ g I J ho
  exact va_zald hC.1 hC.2.1 hC.2.2.2.2.2.2.2.1.1 hH.1 q 1 he rfl hin d (h p e s m args below meth c H locs ls hC hH hS hl)
theorem sk_lald {q n z : Nat} {i : Int32} (d : decode (sk_cc M) pc = .ok (.laload, 1)) (ho : g.2.1[q]? = some (3, n, z)) (hin : vp_in i n) (h : sk_W Γ M mc ms (pc + 1) L (.long (J q i.toNatClampNeg) :: S) g I J kc kn Q) : sk_W Γ M mc ms pc L (.int i :: .ref q :: S) g I J kc kn Q := by
  intro p e s m args below meth c H locs ls hC hH hS hl
  have he : (sk_ws Γ g I J)[q]? = some (sk_ad Γ q, .inl (sk_id Γ 2, n, .inr (.inl (J q)))) := sk_wsAt Γ g I J ho
  exact va_lald hC.1 hC.2.1 hC.2.2.2.2.2.2.2.1.1 hH.1 q 2 he rfl hin d (h p e s m args below meth c H locs ls hC hH hS hl)
theorem sk_iast {q n z : Nat} {i x : Int32} (d : decode (sk_cc M) pc = .ok (.iastore, 1)) (ho : g.2.1[q]? = some (1, n, z)) (hin : vp_in i n) (h : sk_W Γ M mc ms (pc + 1) L S g (sk_set I q (upd (I q) i.toNatClampNeg x)) J kc kn Q) : sk_W Γ M mc ms pc L (.int x :: .int i :: .ref q :: S) g I J kc kn Q := by
  intro p e s m args below meth c H locs ls hC hH hS hl
  have he : (sk_ws Γ g I J)[q]? = some (sk_ad Γ q, .inl (sk_id Γ 0, n, .inl (I q))) := sk_wsAt Γ g I J ho
  refine W.iast hC.1 hC.2.1 (hH.1 q _ he) ((hC.2.2.2.2.2.2.2.1.1.2 0 _ rfl).1 n (fun j => .int (I q j))) (fun q => by cases q) (by show ¬ (i < 0 ∨ (arrV _ _ _).slots.size ≤ _); rw [arrV_size]; exact hin) rfl rfl d fun H1 e1 z1 oq => ?_
  have hat : va_at (sk_D Γ) sk_cl (sk_ad Γ q, sk_cell Γ g.2.2 (sk_set I q (upd (I q) i.toNatClampNeg x)) J q (1, n, z)) H1 := by
    show H1[sk_ad Γ q]? = some (vp_cell _ (n, .inl (sk_set I q (upd (I q) i.toNatClampNeg x) q)))
    rw [e1, sk_set_eq]
    rw [vp_cell_i, vp_cell_i, arrV_store]
    congr 2
    funext y
    by_cases hq : y = i.toNatClampNeg
    · subst hq
      simp [updV, upd]
    · simp [updV, upd, hq]
  obtain ⟨h5, h6⟩ := sk_stored (g' := g) (J' := J) (j := i.toNatClampNeg) hC.2.2.2.2.2.2.2.1 hH hS ho hat z1 oq rfl rfl (fun _ _ => rfl) (fun a ha => sk_set_ne _ _ ha) (fun _ _ => rfl)
  exact h p e s m args below meth c H1 _ ls hC h5 h6 hl
theorem sk_zast {q n z : Nat} {i x : Int32} (d : decode (sk_cc M) pc = .ok (.bastore, 1)) (ho : g.2.1[q]? = some (2, n, z)) (hin : vp_in i n) (hx : vp_nar .boolean x = x) (h : sk_W Γ M mc ms (pc + 1) L S g (sk_set I q (upd (I q) i.toNatClampNeg x)) J kc kn Q) : sk_W Γ M mc ms pc L (.int x :: .int i :: .ref q :: S) g I J kc kn Q := by
  intro p e s m args below meth c H locs ls hC hH hS hl
  have he : (sk_ws Γ g I J)[q]? = some (sk_ad Γ q, .inl (sk_id Γ 1, n, .inl (I q))) := sk_wsAt Γ g I J ho
  refine W.zast hC.1 hC.2.1 (hH.1 q _ he) ((hC.2.2.2.2.2.2.2.1.1.2 1 _ rfl).1 n (fun j => .int (I q j))) (fun q => by cases q) (by show ¬ (i < 0 ∨ (arrV _ _ _).slots.size ≤ _); rw [arrV_size]; exact hin) rfl rfl d fun H1 e1 z1 oq => ?_
  have hat : va_at (sk_D Γ) sk_cl (sk_ad Γ q, sk_cell Γ g.2.2 (sk_set I q (upd (I q) i.toNatClampNeg x)) J q (2, n, z)) H1 := by
    show H1[sk_ad Γ q]? = some (vp_cell _ (n, .inl (sk_set I q (upd (I q) i.toNatClampNeg x) q)))
    rw [e1, sk_set_eq]
    rw [vp_cell_i, vp_cell_i, arrV_store]
    congr 2
    funext y
    by_cases hq : y = i.toNatClampNeg
    · subst hq
      have hx' : narrow .boolean (.int x) = .int x := by
        have h9 : ∀ v : Value, narrow .boolean (.int x) = v → (∃ y, v = .int y) → v = .int x := by
          intro v hv ⟨y, hy⟩
          unfold vp_nar at hx
          rw [hv, hy] at hx
          rw [hy]; exact congrArg Value.int hx
        exact h9 _ rfl ⟨_, rfl⟩
      simp [updV, upd, hx']
    · simp [updV, upd, hq]
  obtain ⟨h5, h6⟩ := sk_stored (g' := g) (J' := J) (j := i.toNatClampNeg) hC.2.2.2.2.2.2.2.1 hH hS ho hat z1 oq rfl rfl (fun _ _ => rfl) (fun a ha => sk_set_ne _ _ ha) (fun _ _ => rfl)
  exact h p e s m args below meth c H1 _ ls hC h5 h6 hl
theorem sk_last {q n z : Nat} {i : Int32} {x : Int64} (d : decode (sk_cc M) pc = .ok (.lastore, 1)) (ho : g.2.1[q]? = some (3, n, z)) (hin : vp_in i n) (h : sk_W Γ M mc ms (pc + 1) L S g I (sk_set J q (vp_updL (J q) i.toNatClampNeg x)) kc kn Q) : sk_W Γ M mc ms pc L (.long x :: .int i :: .ref q :: S) g I J kc kn Q := by
  intro p e s m args below meth c H locs ls hC hH hS hl
  have he : (sk_ws Γ g I J)[q]? = some (sk_ad Γ q, .inl (sk_id Γ 2, n, .inr (.inl (J q)))) := sk_wsAt Γ g I J ho
  refine W.last hC.1 hC.2.1 (hH.1 q _ he) ((hC.2.2.2.2.2.2.2.1.1.2 2 _ rfl).1 n (fun j => .long (J q j))) (fun q => by cases q) (by show ¬ (i < 0 ∨ (arrV _ _ _).slots.size ≤ _); rw [arrV_size]; exact hin) rfl rfl d fun H1 e1 z1 oq => ?_
  have hat : va_at (sk_D Γ) sk_cl (sk_ad Γ q, sk_cell Γ g.2.2 I (sk_set J q (vp_updL (J q) i.toNatClampNeg x)) q (3, n, z)) H1 := by
    show H1[sk_ad Γ q]? = some (vp_cell _ (n, .inr (.inl (sk_set J q (vp_updL (J q) i.toNatClampNeg x) q))))
    rw [e1, sk_set_eq]
    rw [vp_cell_l, vp_cell_l, arrV_store]
    congr 2
    funext y
    by_cases hq : y = i.toNatClampNeg
    · subst hq
      simp [updV, vp_updL]
    · simp [updV, vp_updL, hq]
  obtain ⟨h5, h6⟩ := sk_stored (g' := g) (I' := I) (j := i.toNatClampNeg) hC.2.2.2.2.2.2.2.1 hH hS ho hat z1 oq rfl rfl (fun _ _ => rfl) (fun _ _ => rfl) (fun a ha => sk_set_ne _ _ ha)
  exact h p e s m args below meth c H1 _ ls hC h5 h6 hl
/-- the script -/
theorem sk_sald {i : Int32} (d : decode (sk_cc M) pc = .ok (.iaload, 1)) (hin : vp_in i (sk_len Γ)) (h : sk_W Γ M mc ms (pc + 1) L (.int (sk_xs Γ i.toNatClampNeg) :: S) g I J kc kn Q) : sk_W Γ M mc ms pc L (.int i :: .ref sk_scr :: S) g I J kc kn Q := by
  intro p e s m args below meth c H locs ls hC hH hS hl
  have hX := hC.2.2.2.2.2.2.2.1.2.2.2.2.2.2.2.1
  have hlt := hC.2.2.2.2.2.2.2.1.2.2.2.2.2.2.2.2.1
  exact va_sld hC.1 hC.2.1 hX (Nat.lt_of_lt_of_le hlt hC.2.2.2.2.2.2.2.2.2.2) (fun z => by unfold sk_A at z; omega) hS hin d (h p e s m args below meth c H locs ls hC hH hS hl)
theorem sk_slen (d : decode (sk_cc M) pc = .ok (.arraylength, 1)) (h : sk_W Γ M mc ms (pc + 1) L (.int (Int32.ofNat (sk_len Γ)) :: S) g I J kc kn Q) : sk_W Γ M mc ms pc L (.ref sk_scr :: S) g I J kc kn Q := by
  intro p e s m args below meth c H locs ls hC hH hS hl
  have hX := hC.2.2.2.2.2.2.2.1.2.2.2.2.2.2.2.1
  have hlt := hC.2.2.2.2.2.2.2.1.2.2.2.2.2.2.2.2.1
  exact va_slen hC.1 hC.2.1 hX (Nat.lt_of_lt_of_le hlt hC.2.2.2.2.2.2.2.2.2.2) (fun z => by unfold sk_A at z; omega) hS d (h p e s m args below meth c H locs ls hC hH hS hl)
/-- the static table -/
theorem sk_gets {idx : Nat} {host : String} (d : decode (sk_cc M) pc = .ok (.getstatic idx, 3)) (hf : Cond.fieldLinkNest (sk_own M) idx "StuckLines" "SOURCE_IN_VECTORS" "[J" host ∈ sk_nw) (h : sk_W Γ M mc ms (pc + 3) L (.ref sk_sta :: S) g I J kc kn Q) : sk_W Γ M mc ms pc L S g I J kc kn Q := by
  intro p e s m args below meth c H locs ls hC hH hS hl
  exact va_getsN hC.1 hC.2.1 hC.2.2.2.2.2.2.2.1.2.2.1 hS hC.2.2.2.2.2.1 (va_Nw.use rfl (hC.2.2.2.2.2.2.2.1.2.1 _ hf)) (fun _ h9 => h9) d (h p e s m args below meth c H locs ls hC hH hS hl)
theorem sk_tald {i : Int32} (d : decode (sk_cc M) pc = .ok (.laload, 1)) (hin : vp_in i 6) (h : sk_W Γ M mc ms (pc + 1) L (.long (sk_siv i.toNatClampNeg) :: S) g I J kc kn Q) : sk_W Γ M mc ms pc L (.int i :: .ref sk_sta :: S) g I J kc kn Q := by
  intro p e s m args below meth c H locs ls hC hH hS hl
  exact va_tl (v := .long (sk_siv i.toNatClampNeg)) hC.1 hC.2.1 hC.2.2.2.2.2.2.2.1.2.2.2.1 hS hin rfl d (h p e s m args below meth c H locs ls hC hH hS hl)
end SKH
end
section
/-! ends, calls, throws -/
section SKC
variable {Γ : sk_T} {M : sk_M} {mc ms pc : Nat} {L : List (Nat × Value)} {S : List Value} {g : sk_G} {I : sk_I} {J : sk_J} {kc kn : Nat} {Q : sk_Q}
theorem sk_retW {p : Program} {e : Env} {R : Room} {s : State} {m : MethodId} {args : Array Value} {below : List Frame} {meth : Method} {c : Code} {H : Heap} {locs : List Loc} {f : JFrame} (k : W p (sk_l Γ) e R s m args below meth c H locs mc ms (MQ below (sk_Qr Γ Q) args s mc ms (sk_A Γ)) f) : W p (sk_l Γ) e R s m args below meth c H locs mc ms (sk_Fin Γ Q mc ms below args s) f := by
  intro T hT X
  obtain ⟨t, a1, o, b1, b2, b3, b4⟩ := k T hT X
  exact ⟨t, a1, o, b1, b2, Or.inl ⟨b3, b4⟩⟩
theorem sk_ireturn {v : Int32} (d : decode (sk_cc M) pc = .ok (.ireturn, 1)) (hr : sk_ret M = some .int) (hk : kc ≤ mc) (hn : kn ≤ ms) (hq : Q (.inl (some (.int v))) g I J) : sk_W Γ M mc ms pc L [.int v] g I J kc kn Q := by
  intro p e s m args below meth c H locs ls hC hH hS hl
  refine W.widen hk hn (sk_retW ?_)
  exact W.iret hC.1 hC.2.1 (hC.2.2.2.1.trans hr) (fun t ht hW => ⟨some (.int v), g, I, J, rfl, hq, by rw [ht]; exact hH, hS.F ht⟩) hS.2.2 d hC.2.2.2.2.1
theorem sk_zreturn {v : Int32} (d : decode (sk_cc M) pc = .ok (.ireturn, 1)) (hr : sk_ret M = some .boolean) (hv : narrow .boolean (.int v) = .int v) (hk : kc ≤ mc) (hn : kn ≤ ms) (hq : Q (.inl (some (.int v))) g I J) : sk_W Γ M mc ms pc L [.int v] g I J kc kn Q := by
  intro p e s m args below meth c H locs ls hC hH hS hl
  refine W.widen hk hn (sk_retW ?_)
  exact W.zret hC.1 hC.2.1 (hC.2.2.2.1.trans hr) hv (fun t ht hW => ⟨some (.int v), g, I, J, rfl, hq, by rw [ht]; exact hH, hS.F ht⟩) hS.2.2 d hC.2.2.2.2.1
theorem sk_lreturn {v : Int64} (d : decode (sk_cc M) pc = .ok (.lreturn, 1)) (hr : sk_ret M = some .long) (hk : kc ≤ mc) (hn : kn ≤ ms) (hq : Q (.inl (some (.long v))) g I J) : sk_W Γ M mc ms pc L [.long v] g I J kc kn Q := by
  intro p e s m args below meth c H locs ls hC hH hS hl
  refine W.widen hk hn (sk_retW ?_)
  exact W.lret hC.1 hC.2.1 (hC.2.2.2.1.trans hr) (fun t ht hW => ⟨some (.long v), g, I, J, rfl, hq, by rw [ht]; exact hH, hS.F ht⟩) hS.2.2 d hC.2.2.2.2.1
theorem sk_vreturn (d : decode (sk_cc M) pc = .ok (.return_, 1)) (hr : sk_ret M = none) (hk : kc ≤ mc) (hn : kn ≤ ms) (hq : Q (.inl none) g I J) : sk_W Γ M mc ms pc L [] g I J kc kn Q := by
  intro p e s m args below meth c H locs ls hC hH hS hl
  refine W.widen hk hn (sk_retW ?_)
  exact W.vret hC.1 hC.2.1 (hC.2.2.2.1.trans hr) (fun t ht hW => ⟨none, g, I, J, rfl, hq, by rw [ht]; exact hH, hS.F ht⟩) hS.2.2 d hC.2.2.2.2.1
/-- a body gives the contract -/
theorem sk_spec {as : List Value} (hy : plainName (sk_y M).cls = true) (hown : (sk_y M).cls = sk_own M) (hn : (lg_sl as).length ≤ sk_nl M) (h : sk_W Γ M mc ms 0 (lv_args 0 as) [] g I J 0 0 Q) : sk_S Γ M mc ms as g I J Q := by
  have his : ∀ (args : Array Value) (s : State) (m : MethodId), (headSpec (sk_head M :: sk_ts) (sk_rm M mc ms)).pre.before args s = true → s.methodNamed? (sk_y M) = some m →
      ∃ meth c, s.vm.method? m = some meth ∧ meth.code = some c ∧ c.code = sk_cc M ∧ c.maxLocals = sk_nl M ∧ meth.sig.returnType = sk_ret M ∧ meth.locks = false ∧ c.exceptionTable.toList = tableOf (sk_tab M) := by
    intro args s m h hn
    have hh := atoms_spec (ws := sk_head M :: sk_ts) h _ List.mem_cons_self
    by_cases ht : sk_tab M = []
    · rw [sk_head, if_pos ht] at hh
      obtain ⟨meth, c, h1, h2, h3, h4, h5, h6, h7, -⟩ := Cond.code_spec hn hh
      exact ⟨meth, c, h1, h2, h3, h4, h5, h6, by rw [ht, Array.isEmpty_iff.mp h7]; rfl⟩
    · rw [sk_head, if_neg ht] at hh
      obtain ⟨m9, meth, c, hn9, h1, h2, h3, h4, h7, h5, h6, -⟩ := Cond.codeWith_spec hh
      cases hn.symm.trans hn9
      exact ⟨meth, c, h1, h2, h3, h4, h5, h6, by rw [← h7, table_eq]⟩
  refine MetFree.of_bodyS (code := sk_cc M) (maxLocals := sk_nl M) (ret := sk_ret M) hy (fun args s m h hn => ?_) ?_
  · obtain ⟨meth, c, h1, h2, h3, h4, h5, h6, -⟩ := his args s m h hn
    exact ⟨meth, c, h1, h2, h3, h4, h5, h6⟩
  · intro p e s m args below meth c s₁ B hml hv _
    obtain ⟨rfl, hw⟩ := hv
    have hts := atoms_spec (ws := sk_head M :: sk_ts) B.pre
    have X0 : Stand p (sk_l Γ) e (sk_rm M mc ms) s m ((as.map (sk_tr Γ)).toArray) below meth c s₁ [] 0 0 := Stand.of_body B
    have htab : c.exceptionTable.toList = tableOf (sk_tab M) := by
      obtain ⟨meth9, c9, h1, h2, -, -, -, -, h7⟩ := his _ s m B.pre B.named
      cases Option.some.inj (h1.symm.trans B.method)
      cases Option.some.inj (h2.symm.trans X0.code)
      exact h7
    have hC : sk_cx Γ M p s m ((as.map (sk_tr Γ)).toArray) meth c := ⟨B.exec, B.bytes, hml, B.returns, B.notSynchronized, hown ▸ findClass_of_methodNamed B.named, fun w h => hts w (List.mem_cons_of_mem _ h), hw.2, htab, (name_of_methodNamed B.named B.method).1, hw.1.2.1⟩
    have hl := lv_entry (as.map (sk_tr Γ)) (n := sk_nl M) (by rw [sk_sl]; exact hn)
    have hh0 : s₁.heap = s.heap := by rw [B.state]; rfl
    have K := h p e s m _ below meth c s.heap [] _ hC hw.1 va_S.rf (by rw [← sk_args]; exact hl)
    obtain ⟨t, a1, o, b1, b2, b3⟩ := K s₁ hh0 X0
    rw [lg_entry_eq]
    exact ⟨t, o, a1, b1, b2, b3⟩
theorem sk_goodIn {ws : List Cond} (h : ∀ w ∈ ws, w ∈ sk_ts) : GoodIn sk_ts ws := fun w hw => ⟨h w hw, good_of_word (sk_good w (h w hw))⟩
theorem sk_pay {s : State} {args : Array Value} (hts : ∀ w ∈ sk_ts, w.before args s = true) {w : Cond} (hw : w ∈ sk_ts) : ∀ (a' : Array Value) (U : State), s.WarmedH U.vm → w.before a' U = true := fun a' U hW => word_at hW (good_of_word (sk_good w hw)) (hts w hw)
/-- into a method and back, by its contract -/
theorem sk_back {M' : sk_M} {mc' ms' : Nat} {as : List Value} {Q' : sk_Q} {p : Program} {e : Env} {R : Room} {s T : State} {m mk : MethodId} {args : Array Value} {below : List Frame} {meth : Method} {c : Code} {locs : List Loc} {f : JFrame} {ig : Instr}
    (X : Stand p (sk_l Γ) e R s m args below meth c T locs kc kn) (hg : f.method = m) (hsize : f.locals.size = c.maxLocals) (hdg : decode c.code f.pc = .ok (ig, 3)) (hW : 2 * f.monitorRoom + (f.stack.map fun v => v.category).sum ≤ 8) (hn : T.methodNamed? (sk_y M') = some mk)
    (hM : sk_S Γ M' mc' ms' as g I J Q') (hws : ∀ w ∈ sk_head M' :: sk_ts, ∀ (a' : Array Value) (U : State), s.WarmedH U.vm → w.before a' U = true) (hini : ∀ (a' : Array Value) (U : State), s.WarmedH U.vm → (Cond.initialized (sk_y M').cls).before a' U = true)
    (hfr : sk_fr M' + 1 ≤ R.frames) (hlo : 8 + (sk_nl M' + 11) + sk_lo M' ≤ R.locals) (hc : kc + mc' ≤ R.cells) (hs : kn + ms' ≤ R.slots) (hw : sk_world Γ g I J T) :
    (∃ (r : Option Value) (g' : sk_G) (I' : sk_I) (J' : sk_J) (T' : State) (L' : List Loc), Stand p (sk_l Γ) e R s m args below meth c T' (locs ++ L') (kc + mc') (kn + ms') ∧ (∀ z ∈ L', sk_A Γ z.base) ∧ sk_hp Γ g' I' J' T'.heap ∧ va_F (sk_A Γ) T T' ∧ Q' (.inl r) g' I' J' ∧
      Steps p.tables e below (doInvoke e (T.setTop f) [] mk (as.map (sk_tr Γ)).toArray).1 (T'.setTop { f with pc := f.pc + 3, stack := (r.map (sk_tr Γ)).toList ++ f.stack })) ∨
    (∃ (q : Addr) (E : String) (ce : Cell) (g' : sk_G) (I' : sk_I) (J' : sk_J) (T' : State) (L' : List Loc), Stand p (sk_l Γ) e R s m args below meth c T' (locs ++ L') (kc + mc') (kn + ms') ∧ (∀ z ∈ L', sk_A Γ z.base) ∧ sk_hp Γ g' I' J' T'.heap ∧ va_F (sk_A Γ) T T' ∧ Q' (.inr E) g' I' J' ∧ T'.heap[q]? = some ce ∧ ce.vm = .none ∧ s.vm.findClass E = some ce.cls ∧
      Steps p.tables e below (doInvoke e (T.setTop f) [] mk (as.map (sk_tr Γ)).toArray).1 ((T'.setTop f).pushFrame (.throwing q))) := by
  generalize ha : (as.map (sk_tr Γ)).toArray = a
  have h1 : (headSpec (sk_head M' :: sk_ts) (sk_rm M' mc' ms')).pre.before a T = true := atoms_intro fun w hw => hws w hw _ _ X.warmed
  have h2 := hws _ List.mem_cons_self a T X.warmed
  have hPc : va_Pc (as.map (sk_tr Γ)) (sk_world Γ g I J) a (T.calling f mk a) := sk_blind Γ _ g I J _ _ _ _ ⟨ha.symm, hw⟩
  obtain ⟨methY, cY, hmY, hcY, hlY⟩ : ∃ methY cY, T.vm.method? mk = some methY ∧ methY.code = some cY ∧ cY.maxLocals = sk_nl M' := by
    by_cases ht : sk_tab M' = []
    · rw [sk_head, if_pos ht] at h2
      obtain ⟨methY, cY, q1, q2, -, q4, -⟩ := Cond.code_spec hn h2
      exact ⟨methY, cY, q1, q2, q4⟩
    · rw [sk_head, if_neg ht] at h2
      obtain ⟨m9, methY, cY, hn9, q1, q2, -, q4, -⟩ := Cond.codeWith_spec h2
      cases Option.some.inj (hn9.symm.trans hn)
      exact ⟨methY, cY, q1, q2, q4⟩
  obtain ⟨kY, hkY, -⟩ := className_of_methodNamed hn
  have hinitY : kY.init = .initialized := Cond.initialized_spec (findClass_of_methodNamed hn) hkY (hini a T X.warmed)
  have h : At T f.method c below := by rw [hg]; exact X.here
  have happ : (headSpec (sk_head M' :: sk_ts) (sk_rm M' mc' ms')).appliesLoose (sk_y M') e.platform (T.calling f mk a) = true :=
    Spec.appliesLoose_calling (g := f) h hdg hn hkY hinitY (X.room_calling (g := f) (R' := sk_rm M' mc' ms') hsize hmY hcY hfr (by rw [hlY]; show _ + _ + sk_lo M' ≤ _; omega) hc hs) h1
  obtain ⟨mid, hmid⟩ := h.above
  have hfrm : (T.setTop f).frames = (.java f :: mid) ++ below := by rw [State.frames_setTop' f h.top, hmid]; rfl
  obtain ⟨o, s₂, hsteps, -, hend, hq⟩ := Steps.callFree hM p X.admits X.cas X.clock (acts := []) hfrm happ hPc trivial
  have hq' : sk_End Γ Q' mc' ms' a (T.calling f mk a) o s₂ := hq
  rw [State.frames_setTop' f h.top] at hend
  obtain ⟨g₀, hg0⟩ := Option.isSome_iff_exists.mp h.top
  obtain ⟨r, hr⟩ := State.topJava?_eq_some.mp hg0
  have hr' : (({ T with heap := s₂.heap, slotsUsed := s₂.slotsUsed } : State).setVm s₂.vm).frames = .java g₀ :: r := hr
  have common : ∀ L9 : List Loc, (T.calling f mk a).WarmedH s₂.vm → (T.calling f mk a).sameButNew ({ s₂ with vm := (T.calling f mk a).vm } : State) L9 mc' ms' →
      Stand p (sk_l Γ) e R s m args below meth c (({ T with heap := s₂.heap, slotsUsed := s₂.slotsUsed } : State).setVm s₂.vm) (locs ++ L9) (kc + mc') (kn + ms') ∧
      s₂ = ({ (T.calling f mk a).setFrames s₂.frames with heap := s₂.heap, slotsUsed := s₂.slotsUsed } : State).setVm s₂.vm := by
    intro L9 hW₂ hsm
    obtain ⟨e2, q2, q3, q4, q5, q6⟩ := hsm
    have hW' : T.WarmedH s₂.vm := hW₂
    have hsame : T.sameButNew ({ T with heap := s₂.heap, slotsUsed := s₂.slotsUsed } : State) L9 mc' ms' := by
      refine ⟨?_, q2, q3, q4, q5, q6⟩
      obtain ⟨t, ht, -⟩ := State.frames_cons hr
      show ({ T with heap := s₂.heap, slotsUsed := s₂.slotsUsed } : State) = { T.setFrames T.frames with heap := s₂.heap, slotsUsed := s₂.slotsUsed }
      rw [State.setFrames_self ht]
    refine ⟨⟨X.admits, X.cas, X.clock, X.frames, X.room, X.hears, X.method, X.code, (X.here.setHeapUsed s₂.heap s₂.slotsUsed).setVm hW'.alike, X.tail, State.WarmedH.trans X.warmed hW', X.limits, X.bytes, X.same.trans (hsame.setVm s.vm)⟩, ?_⟩
    have : s₂ = ({ s₂ with vm := (T.calling f mk a).vm } : State).setVm s₂.vm := rfl
    rw [e2] at this
    exact this
  rcases hq' with ⟨⟨v, g', I', J', rfl, hQ, hH, hF⟩, L9, ⟨-, hW₂, hsm⟩, hL⟩ | ⟨q, E, ce, g', I', J', L9, rfl, hQ, hH, hF, hce, hcv, hcl, hW₂, hsm, hL⟩
  · obtain ⟨XN, e3⟩ := common L9 hW₂ hsm
    obtain ⟨c₂, i₂, len₂, hc₂, hd₂, hf₂⟩ := hend
    have hW' : T.WarmedH s₂.vm := hW₂
    have hcc : c₂ = c := by
      have h1 : s₂.code? f.method = T.code? f.method := by
        rw [State.code?_eq, State.code?_eq, hW'.alike.method?]
      exact Option.some.inj (hc₂.symm.trans (h1.trans h.code))
    subst hcc
    have hlen : len₂ = 3 := by rw [hdg] at hd₂; cases hd₂; rfl
    subst hlen
    have hs₂ : s₂ = (({ T with heap := s₂.heap, slotsUsed := s₂.slotsUsed } : State).setVm s₂.vm).setTop { f with pc := f.pc + 3, stack := (v.map (sk_tr Γ)).toList ++ f.stack } := by
      refine e3.trans ?_
      rw [hf₂, State.calling_eq h.top, State.setFrames_setFrames, State.setTop_of_frames _ hr', hr]
      rfl
    refine Or.inl ⟨v, g', I', J', _, L9, XN, hL, hH, hF, hQ, ?_⟩
    rw [← hs₂]
    exact hsteps
  · obtain ⟨XN, e3⟩ := common L9 hW₂ hsm
    have hf₂ : s₂.frames = .throwing q :: .java f :: T.frames.tail := hend
    have hs₂ : s₂ = ((({ T with heap := s₂.heap, slotsUsed := s₂.slotsUsed } : State).setVm s₂.vm).setTop f).pushFrame (.throwing q) := by
      refine e3.trans ?_
      rw [hf₂, State.calling_eq h.top, State.setFrames_setFrames, State.pushFrame, State.frames_setTop _ hr', State.setTop_of_frames _ hr', State.setFrames_setFrames, hr]
      rfl
    have hcl' : s.vm.findClass E = some ce.cls := by
      have h9 : T.vm.findClass E = some ce.cls := hcl
      rw [X.warmed.alike.findClass] at h9
      exact h9
    refine Or.inr ⟨q, E, ce, g', I', J', _, L9, XN, hL, hH, hF, hQ, hce, hcv, hcl', ?_⟩
    rw [← hs₂]
    exact hsteps
end SKC
end
section
/-! calls -/
section SKD
variable {Γ : sk_T} {M : sk_M} {mc ms pc : Nat} {L : List (Nat × Value)} {S : List Value} {g : sk_G} {I : sk_I} {J : sk_J} {kc kn : Nat} {Q : sk_Q}
theorem sk_sumCat (Γ : sk_T) (S : List Value) : ((S.map (sk_tr Γ)).map fun v => v.category).sum = (S.map fun v => v.category).sum := by
  rw [List.map_map]
  congr 1
  apply List.map_congr_left
  intro v _
  exact sk_tr_cat Γ v
/-- the words of a callee hold wherever the caller's do -/
theorem sk_wsOf {M' : sk_M} {s : State} {args : Array Value} (hts : ∀ w ∈ sk_ts, w.before args s = true) (hh : sk_head M' ∈ sk_ts) : ∀ w ∈ sk_head M' :: sk_ts, ∀ (a' : Array Value) (U : State), s.WarmedH U.vm → w.before a' U = true := by
  intro w hw
  rcases List.mem_cons.mp hw with rfl | hw
  · exact sk_pay hts hh
  · exact sk_pay hts hw
/-- what comes behind a call -/
theorem sk_after {M' : sk_M} {mc' ms' : Nat} {as : List Value} {Q' : sk_Q} {p : Program} {e : Env} {s T T₁ : State} {m mk : MethodId} {args : Array Value} {below : List Frame} {meth : Method} {c : Code} {locs : List Loc} {ls : Array Slot} {f0 : JFrame} {ig : Instr}
    (hC : sk_cx Γ M p s m args meth c) (hl : lv_has ls (sk_nl M) (sk_trL Γ L)) (hH : sk_hp Γ g I J T₁.heap) (hS : va_S (sk_A Γ) s.heap T₁.heap locs) (X : Stand p (sk_l Γ) e (sk_rm M mc ms) s m args below meth c T₁ locs kc kn)
    (hdg : decode c.code pc = .ok (ig, 3)) (hcat : (S.map fun v => v.category).sum ≤ 8) (hn : T₁.methodNamed? (sk_y M') = some mk) (hh : sk_head M' ∈ sk_ts) (hini : Cond.initialized (sk_y M').cls ∈ sk_ts)
    (hR : sk_fr M' + 1 ≤ sk_fr M ∧ 8 + (sk_nl M' + 11) + sk_lo M' ≤ sk_lo M) (hf : kc + mc' ≤ mc ∧ kn + ms' ≤ ms) (hs : sk_S Γ M' mc' ms' as g I J Q')
    (hst : ∀ t, Steps p.tables e below (doInvoke e (T₁.setTop (F0 m pc ls (S.map (sk_tr Γ)))) [] mk (as.map (sk_tr Γ)).toArray).1 t → Steps p.tables e below (T.setTop f0) t)
    (kk : ∀ (r : Option Value) (g' : sk_G) (I' : sk_I) (J' : sk_J), Q' (.inl r) g' I' J' → sk_W Γ M mc ms (pc + 3) L (r.toList ++ S) g' I' J' (kc + mc') (kn + ms') Q)
    (kx : ∀ (E : String) (g' : sk_G) (I' : sk_I) (J' : sk_J), Q' (.inr E) g' I' J' → sk_X Γ M mc ms pc L E g' I' J' (kc + mc') (kn + ms') Q) :
    ∃ t, Steps p.tables e below (T.setTop f0) t ∧ sk_Fin Γ Q mc ms below args s t := by
  have hts := hC.2.2.2.2.2.2.1
  have keep : ∀ (T' : State) (L' : List Loc), va_F (sk_A Γ) T₁ T' → (∀ z ∈ L', sk_A Γ z.base) → va_S (sk_A Γ) s.heap T'.heap (locs ++ L') := fun T' L' hF hL =>
    ⟨Nat.le_trans hS.1 hF.1, fun q h1 h2 => (hF.2 q (Nat.lt_of_lt_of_le h1 hS.1) h2).trans (hS.2.1 q h1 h2), fun q hq => (List.mem_append.mp hq).elim (hS.2.2 q) (hL q)⟩
  have hroom : 2 * (F0 m pc ls (S.map (sk_tr Γ))).monitorRoom + ((F0 m pc ls (S.map (sk_tr Γ))).stack.map fun v => v.category).sum ≤ 8 := lv_room (by rw [sk_sumCat]; exact hcat)
  rcases sk_back X (f := F0 m pc ls (S.map (sk_tr Γ))) rfl (hl.1.trans hC.2.2.1.symm) hdg hroom hn hs (sk_wsOf hts hh) (sk_pay hts hini) hR.1 hR.2 hf.1 hf.2 ⟨hH, sk_move hC.2.2.2.2.2.2.2.1 hS.2.1 X.warmed⟩ with ⟨r, g', I', J', T', L', XN, hL, hH', hF, hQ, st⟩ | ⟨q, E, ce, g', I', J', T', L', XN, hL, hH', hF, hQ, hce, hcv, hcl, st⟩
  · obtain ⟨t2, a1, b1⟩ := kk r g' I' J' hQ p e s m args below meth c T'.heap (locs ++ L') ls hC hH' (keep T' L' hF hL) hl T' rfl XN
    refine ⟨t2, hst t2 (st.trans ?_), b1⟩
    have e9 : (r.toList ++ S).map (sk_tr Γ) = (r.map (sk_tr Γ)).toList ++ S.map (sk_tr Γ) := by cases r <;> rfl
    rw [e9] at a1
    exact a1
  · obtain ⟨t2, a1, b1⟩ := kx E g' I' J' hQ p e s m args below meth c T' (locs ++ L') ls (S.map (sk_tr Γ)) q ce hC hH' (keep T' L' hF hL) hl hce hcv hcl XN
    exact ⟨t2, hst t2 (st.trans a1), b1⟩
theorem sk_callV {M' : sk_M} {mc' ms' : Nat} {Q' : sk_Q} {q ci N idx : Nat} {C : String} {T9 : u_T} {as S' : List Value} (d : decode (sk_cc M) pc = .ok (.invokevirtual idx, 3)) (ho : g.2.1[q]? = some (0, ci, N)) (hc : sk_cl[ci]? = some (C, T9, N))
    (h1 : Cond.methodLink (sk_own M) idx (sk_y M') ∈ sk_ts) (h2 : Cond.instanceMethod (sk_y M') ∈ sk_ts) (h3 : Cond.selects C (sk_y M') (sk_y M') ∈ sk_ts) (h4 : Cond.initialized (sk_y M').cls ∈ sk_ts) (h5 : Cond.code (sk_y M') (sk_cc M') (sk_nl M') (sk_ret M') ∈ sk_ts) (ht : sk_tab M' = [])
    (hd : (sk_y M').cls ≠ "java/lang/invoke/MethodHandle" ∧ (sk_y M').cls ≠ "java/lang/invoke/VarHandle" ∧ (parseMethodDescriptor (sk_y M').desc).map (fun d => d.parameters.length) = some as.length)
    (hR : sk_fr M' + 1 ≤ sk_fr M ∧ 8 + (sk_nl M' + 11) + sk_lo M' ≤ sk_lo M) (hf : kc + mc' ≤ mc ∧ kn + ms' ≤ ms) (hcat : (S.map fun v => v.category).sum ≤ 8) (hst : as.reverse ++ .ref q :: S = S')
    (hs : sk_S Γ M' mc' ms' (.ref q :: as) g I J Q') (kk : ∀ (r : Option Value) (g' : sk_G) (I' : sk_I) (J' : sk_J), Q' (.inl r) g' I' J' → sk_W Γ M mc ms (pc + 3) L (r.toList ++ S) g' I' J' (kc + mc') (kn + ms') Q)
    (kx : ∀ (E : String) (g' : sk_G) (I' : sk_I) (J' : sk_J), Q' (.inr E) g' I' J' → sk_X Γ M mc ms pc L E g' I' J' (kc + mc') (kn + ms') Q) : sk_W Γ M mc ms pc L S' g I J kc kn Q := by
  subst hst
  intro p e s m args below meth c H locs ls hC hH hS hl T hT X
  subst hT
  have hts := hC.2.2.2.2.2.2.1
  have he : (sk_ws Γ g I J)[q]? = some (sk_ad Γ q, .inr (ci, (List.range N).map (fun j => sk_fv Γ (sk_kd ci j) g.2.2 I J q j))) := sk_wsAt Γ g I J ho
  obtain ⟨cellB, hcB, hoB, hclB⟩ := va_recv hC.2.2.2.2.2.2.2.1.1 hH.1 hc he
  obtain ⟨mk, methM, hnamed, hmethM, hstM, habM⟩ := Cond.instanceMethod_spec (hts _ h2)
  obtain ⟨methM', cM, hmethM', -, -, -, -, -, -, hsigM⟩ := Cond.code_spec hnamed (hts _ h5)
  cases hmethM.symm.trans hmethM'
  obtain ⟨c2, r2, m2, q1, q2, q3, q4, kP, hkP, hkPi⟩ := Cond.selects_spec (hts _ h3)
  cases hclB.symm.trans q1
  cases (State.methodFound?_of_named hnamed ⟨hd.1, hd.2.1⟩).symm.trans q2
  cases hnamed.symm.trans q3
  have hselP : selectMethod e.platform s.vm cellB.cls mk = .method mk := by rw [Launch.admits_selectMethod X.admits]; exact q4
  have hlen : ((as.map (sk_tr Γ)).length = methM.sig.parameters.length) := by
    have h9 := hd.2.2
    rw [hsigM] at h9
    rw [List.length_map]
    exact (Option.some.inj h9).symm
  have hdg : decode c.code pc = .ok (.invokevirtual idx, 3) := by rw [hC.2.1]; exact d
  obtain ⟨vm₁, X₁, hstep₁⟩ := X.invokevirtual hC.1 hC.2.2.2.2.2.1 (hts _ h1) hnamed hmethM hstM hkP hkPi ⟨hd.1, hd.2.1⟩ (a := sk_ad Γ q) (cell := cellB) hcB
    (fun z h => by rw [h] at hoB; cases hoB) hselP hmethM habM hkP hkPi (g := F0 m pc ls ((as.reverse ++ .ref q :: S).map (sk_tr Γ))) rfl (argsL := as.map (sk_tr Γ)) (rest := S.map (sk_tr Γ)) hlen (by simp [sk_tr]) hdg
  exact sk_after (T₁ := T.setVm vm₁) (as := .ref q :: as) hC hl hH hS X₁ hdg hcat (X₁.named hnamed) (by rw [sk_head, if_pos ht]; exact h5) h4 hR hf hs (fun t h => hstep₁ _ fun acts => by rw [doInvoke_state]; exact h) kk kx
theorem sk_callS {M' : sk_M} {mc' ms' : Nat} {Q' : sk_Q} {idx : Nat} {as S' : List Value} (d : decode (sk_cc M) pc = .ok (.invokestatic idx, 3))
    (h1 : Cond.methodLink (sk_own M) idx (sk_y M') ∈ sk_ts) (h2 : Cond.static (sk_y M') ∈ sk_ts) (h4 : Cond.initialized (sk_y M').cls ∈ sk_ts) (h5 : sk_head M' ∈ sk_ts)
    (hd : (sk_y M').cls ≠ "java/lang/invoke/MethodHandle" ∧ (sk_y M').cls ≠ "java/lang/invoke/VarHandle" ∧ (parseMethodDescriptor (sk_y M').desc).map (fun d => d.parameters.length) = some as.length)
    (hR : sk_fr M' + 1 ≤ sk_fr M ∧ 8 + (sk_nl M' + 11) + sk_lo M' ≤ sk_lo M) (hf : kc + mc' ≤ mc ∧ kn + ms' ≤ ms) (hcat : (S.map fun v => v.category).sum ≤ 8) (hst : as.reverse ++ S = S')
    (hs : sk_S Γ M' mc' ms' as g I J Q') (kk : ∀ (r : Option Value) (g' : sk_G) (I' : sk_I) (J' : sk_J), Q' (.inl r) g' I' J' → sk_W Γ M mc ms (pc + 3) L (r.toList ++ S) g' I' J' (kc + mc') (kn + ms') Q)
    (kx : ∀ (E : String) (g' : sk_G) (I' : sk_I) (J' : sk_J), Q' (.inr E) g' I' J' → sk_X Γ M mc ms pc L E g' I' J' (kc + mc') (kn + ms') Q) : sk_W Γ M mc ms pc L S' g I J kc kn Q := by
  subst hst
  intro p e s m args below meth c H locs ls hC hH hS hl T hT X
  subst hT
  have hts := hC.2.2.2.2.2.2.1
  obtain ⟨mk, methM, hnamed, hmethM, hsigM⟩ : ∃ mk methM, s.methodNamed? (sk_y M') = some mk ∧ s.vm.method? mk = some methM ∧ parseMethodDescriptor (sk_y M').desc = some methM.sig := by
    have h9 := hts _ h5
    by_cases ht : sk_tab M' = []
    · rw [sk_head, if_pos ht] at h9
      obtain ⟨mk, hnamed⟩ := Cond.code_named h9
      obtain ⟨methM, cM, hmethM, -, -, -, -, -, -, hsigM⟩ := Cond.code_spec hnamed h9
      exact ⟨mk, methM, hnamed, hmethM, hsigM⟩
    · rw [sk_head, if_neg ht] at h9
      obtain ⟨mk, methM, cM, hnamed, hmethM, -, -, -, -, -, -, hsigM⟩ := Cond.codeWith_spec h9
      exact ⟨mk, methM, hnamed, hmethM, hsigM⟩
  have hstatic : methM.isStatic = true := Cond.static_spec hnamed hmethM (hts _ h2)
  obtain ⟨kP, hkP, -⟩ := className_of_methodNamed hnamed
  have hinitP : kP.init = .initialized := Cond.initialized_spec (findClass_of_methodNamed hnamed) hkP (hts _ h4)
  have hlen : ((as.map (sk_tr Γ)).length = methM.sig.parameters.length) := by
    have h9 := hd.2.2
    rw [hsigM] at h9
    rw [List.length_map]
    exact (Option.some.inj h9).symm
  have hdg : decode c.code pc = .ok (.invokestatic idx, 3) := by rw [hC.2.1]; exact d
  obtain ⟨vm₁, X₁, hstep₁⟩ := X.invokestatic hC.1 hC.2.2.2.2.2.1 (hts _ h1) hnamed hmethM hstatic hkP hinitP ⟨hd.1, hd.2.1⟩ (g := F0 m pc ls ((as.reverse ++ S).map (sk_tr Γ))) rfl (argsL := as.map (sk_tr Γ)) (rest := S.map (sk_tr Γ)) hlen (by simp) hdg
  exact sk_after (T₁ := T.setVm vm₁) (as := as) hC hl hH hS X₁ hdg hcat (X₁.named hnamed) h5 h4 hR hf hs (fun t h => hstep₁ _ fun acts => by rw [doInvoke_state]; exact h) kk kx
/-- a constructor -/
theorem sk_callI {M' : sk_M} {mc' ms' : Nat} {Q' : sk_Q} {q idx : Nat} {as S' : List Value} (d : decode (sk_cc M) pc = .ok (.invokespecial idx, 3))
    (h1 : Cond.methodLink (sk_own M) idx (sk_y M') ∈ sk_ts ∨ ∃ host : String, Cond.methodLinkNest (sk_own M) idx (sk_y M') host ∈ sk_nw) (h2 : Cond.instanceMethod (sk_y M') ∈ sk_ts) (h4 : Cond.initialized (sk_y M').cls ∈ sk_ts) (h5 : Cond.code (sk_y M') (sk_cc M') (sk_nl M') none ∈ sk_ts) (ht : sk_tab M' = []) (hret : sk_ret M' = none) (hnm : (sk_y M').name = "<init>")
    (hd : (sk_y M').cls ≠ "java/lang/invoke/MethodHandle" ∧ (sk_y M').cls ≠ "java/lang/invoke/VarHandle" ∧ (parseMethodDescriptor (sk_y M').desc).map (fun d => d.parameters.length) = some as.length)
    (hR : sk_fr M' + 1 ≤ sk_fr M ∧ 8 + (sk_nl M' + 11) + sk_lo M' ≤ sk_lo M) (hf : kc + mc' ≤ mc ∧ kn + ms' ≤ ms) (hcat : (S.map fun v => v.category).sum ≤ 8) (hst : as.reverse ++ .ref q :: S = S')
    (hs : sk_S Γ M' mc' ms' (.ref q :: as) g I J Q') (kk : ∀ (r : Option Value) (g' : sk_G) (I' : sk_I) (J' : sk_J), Q' (.inl r) g' I' J' → sk_W Γ M mc ms (pc + 3) L (r.toList ++ S) g' I' J' (kc + mc') (kn + ms') Q)
    (kx : ∀ (E : String) (g' : sk_G) (I' : sk_I) (J' : sk_J), Q' (.inr E) g' I' J' → sk_X Γ M mc ms pc L E g' I' J' (kc + mc') (kn + ms') Q) : sk_W Γ M mc ms pc L S' g I J kc kn Q := by
  subst hst
  intro p e s m args below meth c H locs ls hC hH hS hl T hT X
  subst hT
  have hts := hC.2.2.2.2.2.2.1
  have hpl : e.platform.magicAccessors = ({} : Platform).magicAccessors := by rw [X.admits.platform]
  have hlen : ∀ sig, parseMethodDescriptor (sk_y M').desc = some sig → (as.map (sk_tr Γ)).length = sig.parameters.length := by
    intro sig h
    have h9 := hd.2.2
    rw [h] at h9
    rw [List.length_map]
    exact (Option.some.inj h9).symm
  have hdg : decode c.code pc = .ok (.invokespecial idx, 3) := by rw [hC.2.1]; exact d
  have hh : sk_head M' ∈ sk_ts := by rw [sk_head, if_pos ht, hret]; exact h5
  rcases h1 with h1 | ⟨host, h1⟩
  · obtain ⟨mk, methM, cM, kP, vm₁, hnamed, hmethM, hcodeM, -, hlocalsM, -, hkP, -, hW₁, hstep₁⟩ := Steps.initColdArgs (e := e) X.here hC.1 X.warmed hpl hC.2.2.2.2.2.1 hnm ⟨hd.1, hd.2.1⟩ (hts _ h1) (hts _ h2) (hts _ h5) (f := F0 m pc ls ((as.reverse ++ .ref q :: S).map (sk_tr Γ))) (argsL := as.map (sk_tr Γ)) (a := sk_ad Γ q) (rest := S.map (sk_tr Γ)) rfl hlen (by simp [sk_tr]) hdg
    have X₁ := X.noted hW₁
    exact sk_after (T₁ := T.setVm vm₁) (as := .ref q :: as) hC hl hH hS X₁ hdg hcat (X₁.named hnamed) hh h4 hR hf hs (fun t h => hstep₁ _ fun acts => by rw [doInvoke_state]; exact h) kk kx
  · obtain ⟨mk, methM, cM, kP, vm₁, hnamed, hmethM, hcodeM, -, hlocalsM, -, hkP, -, hW₁, hstep₁⟩ := Steps.initColdArgsNest (e := e) X.here hC.1 X.warmed hpl hC.2.2.2.2.2.1 hnm ⟨hd.1, hd.2.1⟩ (va_Nw.use rfl (hC.2.2.2.2.2.2.2.1.2.1 _ h1)) (hts _ h2) (hts _ h5) (f := F0 m pc ls ((as.reverse ++ .ref q :: S).map (sk_tr Γ))) (argsL := as.map (sk_tr Γ)) (a := sk_ad Γ q) (rest := S.map (sk_tr Γ)) rfl hlen (by simp [sk_tr]) hdg
    have X₁ := X.noted hW₁
    exact sk_after (T₁ := T.setVm vm₁) (as := .ref q :: as) hC hl hH hS X₁ hdg hcat (X₁.named hnamed) hh h4 hR hf hs (fun t h => hstep₁ _ fun acts => by rw [doInvoke_state]; exact h) kk kx
/-- Object.<init> -/
theorem sk_objInit {q idx : Nat} (d : decode (sk_cc M) pc = .ok (.invokespecial idx, 3)) (h1 : Cond.methodLink (sk_own M) idx ⟨"java/lang/Object", "<init>", "()V"⟩ ∈ sk_ts) (h2 : Cond.instanceMethod ⟨"java/lang/Object", "<init>", "()V"⟩ ∈ sk_ts) (h3 : Cond.code ⟨"java/lang/Object", "<init>", "()V"⟩ ⟨#[0xb1]⟩ 1 none ∈ sk_ts)
    (hf : 1 ≤ sk_fr M) (hlo : 20 ≤ sk_lo M) (hcat : (S.map fun v => v.category).sum ≤ 8) (h : sk_W Γ M mc ms (pc + 3) L S g I J kc kn Q) : sk_W Γ M mc ms pc L (.ref q :: S) g I J kc kn Q := by
  intro p e s m args below meth c H locs ls hC hH hS hl
  have hts := hC.2.2.2.2.2.2.1
  have hroom : 2 * (F0 m pc ls (.ref (sk_ad Γ q) :: S.map (sk_tr Γ))).monitorRoom + ((S.map (sk_tr Γ)).map fun v => v.category).sum ≤ 8 := lv_room (by rw [sk_sumCat]; exact hcat)
  exact W.objInit hC.1 hC.2.1 hC.2.2.2.2.2.1 (hts _ h1) (hts _ h2) (hts _ h3) rfl (hl.1.trans hC.2.2.1.symm) rfl d hf (Nat.le_trans (Nat.add_le_add_right hroom 12) hlo) (h p e s m args below meth c H locs ls hC hH hS hl)
theorem sk_pushed {H H' : Heap} {s : State} {locs : List Loc} {sp : Nat × Nat × Nat} (hH : sk_hp Γ g I J H) (hS : va_S (sk_A Γ) s.heap H locs) (hx : g.1 = true) (hl : g.2.1.length < 900) (hat : va_at (sk_D Γ) sk_cl (sk_ad Γ g.2.1.length, sk_cell Γ g.2.2 I J g.2.1.length sp) H') (e2 : H'.size = H.size + 1) (e3 : ∀ x : Nat, x < H.size → H'[x]? = H[x]?) :
    sk_hp Γ (true, g.2.1 ++ [sp], g.2.2) I J H' ∧ va_S (sk_A Γ) s.heap H' locs := by
  have hz := hH.2.2.1 hx
  have hb := hH.2.1
  refine ⟨⟨?_, by rw [e2]; omega, fun _ => by rw [e2, hz, List.length_append]; rfl, by rw [List.length_append]; show _ + 1 < 1000; omega⟩, ⟨by rw [e2]; exact Nat.le_succ_of_le hS.1, fun x h1 h2 => (e3 x (Nat.lt_of_lt_of_le h1 hS.1)).trans (hS.2.1 x h1 h2), hS.2.2⟩⟩
  rw [sk_ws_push Γ g I J sp true]
  refine (hH.1.kept (fun k x hx9 => e3 x.1 ((hH.1 k x hx9).lt))).app (fun k x hk => ?_)
  have hk1 : k < 1 := (List.getElem?_eq_some_iff.mp hk).1
  rw [show k = 0 by omega] at hk
  cases hk
  exact hat
theorem sk_newa {t : Nat} {n : Int32} {N : Nat} {atype : ArrayType} (d : decode (sk_cc M) pc = .ok (.newarray atype, 2)) (hw : Cond.arrayClass (newarray.typeOf atype) ∈ sk_ts) (ht : (t = 1 ∧ newarray.typeOf atype = .int) ∨ (t = 2 ∧ newarray.typeOf atype = .boolean) ∨ (t = 3 ∧ newarray.typeOf atype = .long))
    (hn : ¬ n < 0) (hN : n.toNatClampNeg = N) (hb : N ≤ 65536) (hx : g.1 = true) (hlen : g.2.1.length < 900) (hI : ∀ j, I g.2.1.length j = 0) (hJ : ∀ j, J g.2.1.length j = 0) (hf : kc + 1 ≤ mc ∧ kn + N ≤ ms)
    (h : sk_W Γ M mc ms (pc + 2) L (.ref g.2.1.length :: S) (true, g.2.1 ++ [(t, N, 0)], g.2.2) I J (kc + 1) (kn + N) Q) : sk_W Γ M mc ms pc L (.int n :: S) g I J kc kn Q := by
  intro p e s m args below meth c H locs ls hC hH hS hl
  have hts := hC.2.2.2.2.2.2.1
  have hK := hC.2.2.2.2.2.2.2.1.1
  have had : sk_ad Γ g.2.1.length = H.size := by rw [hC.2.2.2.2.2.2.2.1.2.2.2.2.2.2.2.2.2.1 _ (by omega), hH.2.2.1 hx]
  have hbytes : N * componentBytes (newarray.typeOf atype) ≤ 536870912 := by
    have h8 : componentBytes (newarray.typeOf atype) ≤ 8 := by rcases ht with ⟨-, h⟩ | ⟨-, h⟩ | ⟨-, h⟩ <;> rw [h] <;> decide
    exact Nat.le_trans (Nat.mul_le_mul hb h8) (by decide)
  refine va_newaK hC.1 hC.2.1 (hts _ hw) rfl d rfl hn hN hbytes hf.1 hf.2 rfl fun H1 cA e1 z1 o1 hAr hNm => ?_
  have hat : va_at (sk_D Γ) sk_cl (sk_ad Γ g.2.1.length, sk_cell Γ g.2.2 I J g.2.1.length (t, N, 0)) H1 := by
    have zI : I g.2.1.length = fun _ => 0 := funext hI
    have zJ : J g.2.1.length = fun _ => 0 := funext hJ
    rcases ht with ⟨rfl, ht⟩ | ⟨rfl, ht⟩ | ⟨rfl, ht⟩
    · have hcA : cA = sk_id Γ 0 := by
        have h9 : s.vm.findClass ("[" ++ FieldType.int.toString) = some (sk_id Γ 0) := (hK.2 0 _ rfl).2
        rw [ht] at hNm
        exact Option.some.inj (hNm.symm.trans h9)
      show H1[sk_ad Γ g.2.1.length]? = some (vp_cell (sk_id Γ 0) (N, .inl (I g.2.1.length)))
      rw [had, e1, hcA, ht, zI]
      rfl
    · have hcA : cA = sk_id Γ 1 := by
        have h9 : s.vm.findClass ("[" ++ FieldType.boolean.toString) = some (sk_id Γ 1) := (hK.2 1 _ rfl).2
        rw [ht] at hNm
        exact Option.some.inj (hNm.symm.trans h9)
      show H1[sk_ad Γ g.2.1.length]? = some (vp_cell (sk_id Γ 1) (N, .inl (I g.2.1.length)))
      rw [had, e1, hcA, ht, zI]
      rfl
    · have hcA : cA = sk_id Γ 2 := by
        have h9 : s.vm.findClass ("[" ++ FieldType.long.toString) = some (sk_id Γ 2) := (hK.2 2 _ rfl).2
        rw [ht] at hNm
        exact Option.some.inj (hNm.symm.trans h9)
      show H1[sk_ad Γ g.2.1.length]? = some (vp_cell (sk_id Γ 2) (N, .inr (.inl (J g.2.1.length))))
      rw [had, e1, hcA, ht, zJ]
      rfl
  obtain ⟨h5, h6⟩ := sk_pushed hH hS hx hlen hat z1 o1
  have h7 := h p e s m args below meth c H1 locs ls hC h5 h6 hl
  have e9 : (Value.ref g.2.1.length :: S).map (sk_tr Γ) = Value.ref H.size :: S.map (sk_tr Γ) := by
    show Value.ref (sk_ad Γ g.2.1.length) :: _ = _
    rw [had]
  rw [e9] at h7
  exact h7
theorem sk_new {ci N idx : Nat} {C : String} {T : u_T} (d : decode (sk_cc M) pc = .ok (.new idx, 3)) (hc : sk_cl[ci]? = some (C, T, N)) (h1 : Cond.classLink (sk_own M) idx C ∈ sk_ts) (h2 : Cond.instantiable C N ∈ sk_ts) (h3 : Cond.initialized C ∈ sk_ts)
    (hx : g.1 = true) (hlen : g.2.1.length < 900) (hI : ∀ j, I g.2.1.length j = 0) (hJ : ∀ j, J g.2.1.length j = 0) (hR : ∀ j, g.2.2 g.2.1.length j = none) (hf : kc + 1 ≤ mc ∧ kn + N ≤ ms)
    (h : sk_W Γ M mc ms (pc + 3) L (.ref g.2.1.length :: S) (true, g.2.1 ++ [(0, ci, N)], g.2.2) I J (kc + 1) (kn + N) Q) : sk_W Γ M mc ms pc L S g I J kc kn Q := by
  intro p e s m args below meth c H locs ls hC hH hS hl
  have hts := hC.2.2.2.2.2.2.1
  have hK := hC.2.2.2.2.2.2.2.1.1
  have hKn := hK.1 ci _ hc
  have had : sk_ad Γ g.2.1.length = H.size := by rw [hC.2.2.2.2.2.2.2.1.2.2.2.2.2.2.2.2.2.1 _ (by omega), hH.2.2.1 hx]
  refine W.newcK hC.1 hC.2.1 hC.2.2.2.2.2.1 (hts _ h1) (hts _ h2) (hts _ h3) rfl d hf.1 hf.2 hKn.2.1 rfl fun H1 kC hkC e1 z1 o1 => ?_
  have hat : va_at (sk_D Γ) sk_cl (sk_ad Γ g.2.1.length, sk_cell Γ g.2.2 I J g.2.1.length (0, ci, N)) H1 := by
    refine ⟨_, hc, ?_⟩
    rw [had]
    refine (u_born (sk_fty T) hts (sk_lays hc) hKn hkC e1 (sk_ftyOk hc)).to (fun j hj => ?_)
    have hj9 : j < N := hj
    rw [sk_dflt hc hj9]
    have e7 : sk_fv Γ (sk_kd ci j) g.2.2 I J g.2.1.length j = sk_dfv (sk_kd ci j) := by
      simp only [sk_fv, sk_dfv, hI, hJ, hR]
      generalize sk_kd ci j = z
      match z with
      | 0 => rfl
      | 1 => rfl
      | (n + 2) => rfl
    simp [vp_V, hj9, e7]
  obtain ⟨h5, h6⟩ := sk_pushed hH hS hx hlen hat z1 o1
  have h7 := h p e s m args below meth c H1 locs ls hC h5 h6 hl
  have e9 : (Value.ref g.2.1.length :: S).map (sk_tr Γ) = Value.ref H.size :: S.map (sk_tr Γ) := by
    show Value.ref (sk_ad Γ g.2.1.length) :: _ = _
    rw [had]
  rw [e9] at h7
  exact h7
end SKD
end
section
/-! throws and catches -/
section SKX
variable {Γ : sk_T} {M : sk_M} {mc ms pc : Nat} {L : List (Nat × Value)} {S : List Value} {g : sk_G} {I : sk_I} {J : sk_J} {kc kn : Nat} {Q : sk_Q}
/-- out of the method, uncaught -/
theorem sk_xout {E : String} (ht : sk_tab M = []) (hk : kc ≤ mc) (hn : kn ≤ ms) (hq : Q (.inr E) g I J) : sk_X Γ M mc ms pc L E g I J kc kn Q := by
  intro p e s m args below meth c T locs ls st q ce hC hH hS hl hce hcv hcl X
  have hout : ∀ x ∈ c.exceptionTable.toList, covers x pc = false := by
    rw [hC.2.2.2.2.2.2.2.2.1, ht]
    intro x hx
    cases hx
  obtain ⟨st1, hrun, hend, hW, hsm⟩ := X.leaveThrown q (g := F0 m pc ls st) rfl rfl rfl hout hC.2.2.2.2.1
  exact ⟨_, st1, .threw q, hrun, hend, Or.inr ⟨q, E, ce, g, I, J, locs, rfl, hq, hH, ⟨hS.1, hS.2.1⟩, hce, hcv, hcl, hW, hsm.mono hk hn, hS.2.2⟩⟩
/-- caught; the handler stores it in local i -/
theorem sk_xcatch {E name : String} {i : Nat} {L' : List (Nat × Value)} (pre : List (Nat × Nat × Nat × Nat)) (x : Nat × Nat × Nat × Nat) (suf : List (Nat × Nat × Nat × Nat)) (len : Nat) (hsp : sk_tab M = pre ++ x :: suf)
    (hpass : ∀ z ∈ pre, z.2.2.2 ≠ 0 ∧ ∃ nm : String, Cond.classLink (sk_own M) z.2.2.2 nm ∈ sk_ts ∧ sk_nc E nm = true) (hcov : covers ⟨x.1, x.2.1, x.2.2.1, x.2.2.2⟩ pc = true) (h0 : x.2.2.2 ≠ 0) (hlk : Cond.classLink (sk_own M) x.2.2.2 name ∈ sk_ts) (hcast : Cond.castable E name ∈ sk_nw)
    (d : (∃ f : Fin 4, decode (sk_cc M) x.2.2.1 = .ok (.astore_n f, 1) ∧ (f : Nat) = i ∧ len = 1) ∨ (decode (sk_cc M) x.2.2.1 = .ok (.astore i, 2) ∧ len = 2)) (hn : i < sk_nl M) (hL : L.filter (fun q => !(q.1 == i) && !(q.1 + 1 == i && q.2.category == 2)) = L')
    (h : sk_W Γ M mc ms (x.2.2.1 + len) L' [] g I J kc kn Q) : sk_X Γ M mc ms pc L E g I J kc kn Q := by
  intro p e s m args below meth c T locs ls st q ce hC hH hS hl hce hcv hcl X
  have hts := hC.2.2.2.2.2.2.1
  have hfix := hC.2.2.2.2.2.2.2.1
  have hpl : e.platform.magicAccessors = ({} : Platform).magicAccessors := by rw [X.admits.platform]
  obtain ⟨c3, c4, hc3, hc4, hasg⟩ := Cond.castable_spec (va_Nw.use rfl (hfix.2.1 _ hcast) : (Cond.castable E name).before args s = true)
  cases Option.some.inj (hc3.symm.trans hcl)
  obtain ⟨c5, hc5, hcl5⟩ := Cond.classLink_spec hC.2.2.2.2.2.1 (hts _ hlk) e.platform hpl
  cases Option.some.inj (hc4.symm.trans hc5)
  obtain ⟨vm', X', st9⟩ := X.thenCaughtThrough q (g := F0 m pc ls st) rfl (Steps.refl _) hce (by rw [hcv]; rfl) (by obtain ⟨k9, h9, -⟩ := Vm.findClass_spec hcl; exact ⟨k9, h9⟩) (tableOf pre) ⟨x.1, x.2.1, x.2.2.1, x.2.2.2⟩ (tableOf suf) (by rw [hC.2.2.2.2.2.2.2.2.1, hsp]; simp [tableOf])
    (fun z hz => by
      obtain ⟨y, hy, rfl⟩ := List.mem_map.mp hz
      obtain ⟨hz0, nm, hl1, hn1⟩ := hpass y hy
      obtain ⟨c6, hc6, hcl6⟩ := Cond.classLink_spec hC.2.2.2.2.2.1 (hts _ hl1) e.platform hpl
      obtain ⟨a8, b8, h1, h2, h3⟩ := hfix.2.2.2.2.2.2.2.2.2.2.2 E nm hn1
      cases Option.some.inj (h1.symm.trans hcl)
      cases Option.some.inj (h2.symm.trans hc6)
      exact Or.inr ⟨hz0, _, hcl6, h3⟩) hcov (Or.inr ⟨h0, c4, hcl5, hasg⟩)
  have key : ∀ ls' : Array Slot, lv_has ls' (sk_nl M) ((i, Value.ref q) :: (sk_trL Γ L).filter (fun q => !(q.1 == i) && !(q.1 + 1 == i && q.2.category == 2))) → W p (sk_l Γ) e (sk_rm M mc ms) s m args below meth c T.heap locs kc kn (sk_Fin Γ Q mc ms below args s) (F0 m (x.2.2.1 + len) ls' []) := by
    intro ls' hl'
    refine h p e s m args below meth c T.heap locs ls' hC hH hS ?_
    rw [sk_trL_f1, hL] at hl'
    exact ⟨hl'.1, hl'.2.1, fun z hz => hl'.2.2 z (List.mem_cons_of_mem _ hz)⟩
  have K : W p (sk_l Γ) e (sk_rm M mc ms) s m args below meth c T.heap locs kc kn (sk_Fin Γ Q mc ms below args s) (F0 m x.2.2.1 ls [.ref q]) := by
    rcases d with ⟨f, d, hi, rfl⟩ | ⟨d, rfl⟩
    · exact lv_astore_n hC.1 hC.2.1 d hi hl hn rfl key
    · exact lv_astore hC.1 hC.2.1 d hl hn rfl key
  obtain ⟨t, a1, b1⟩ := K (T.setVm vm') rfl X'
  exact ⟨t, st9.trans a1, b1⟩
/-- the frame as if the method were called in this heap -/
theorem sk_rebase {p : Program} {e : Env} {R R' : Room} {s T : State} {m : MethodId} {args : Array Value} {below : List Frame} {meth : Method} {c : Code} {locs : List Loc} (X : Stand p (sk_l Γ) e R s m args below meth c T locs kc kn) (hf : R'.frames ≤ R.frames) (hl : R'.locals ≤ R.locals) (hc : kc + R'.cells ≤ R.cells) (hs : kn + R'.slots ≤ R.slots) :
    Stand p (sk_l Γ) e R' ((T.setVm s.vm).setFrames (.invoking m args :: below)) m args below meth c T [] 0 0 := by
  have htop : (T.setVm s.vm).topJava?.isSome := X.here.top
  have hF : ((T.setVm s.vm).setFrames (.invoking m args :: below)).frames = .invoking m args :: below := State.frames_setFrames _ (State.cur_lt_of_top htop)
  obtain ⟨g₀, hg0⟩ := Option.isSome_iff_exists.mp htop
  obtain ⟨r, hr⟩ := State.topJava?_eq_some.mp hg0
  obtain ⟨t, ht, -⟩ := State.frames_cons hr
  have nil : (T.heap.toList.drop T.heap.size) = [] := List.drop_eq_nil_of_le (Nat.le_of_eq Array.length_toList)
  have room : ((T.setVm s.vm).setFrames (.invoking m args :: below)).hasRoom e.platform R' = true := by
    have h := X.room
    have hU : ((T.setVm s.vm).setFrames (.invoking m args :: below)).localsInUse = s.localsInUse := by
      rw [State.localsInUse_invoking hF (meth := meth) (c := c) X.method X.code, State.localsInUse_invoking X.frames X.method X.code]
    have hl9 : e.platform.stackLimits (T.setVm s.vm).me = e.platform.stackLimits s.me := X.limits
    have hb9 : (T.setVm s.vm).me.stackBytes = s.me.stackBytes := X.bytes
    have q1 := X.heapSize
    have q2 := X.used
    simp only [State.hasRoom, Bool.and_eq_true, decide_eq_true_eq] at h ⊢
    obtain ⟨⟨⟨⟨h1, h2, h3, h4, h5, h6⟩, h7⟩, h8⟩, h9⟩ := h
    rw [X.frames, List.length_cons] at h2 h3
    simp only [hF, hU, List.length_cons, State.stackLimits_setFrames, State.stackBytes_setFrames, hl9, hb9]
    have hz1 : T.heap.size + R'.cells ≤ e.platform.maxCells := by omega
    have hz2 : T.slotsUsed + R'.slots ≤ e.platform.maxSlots := by omega
    exact ⟨⟨⟨⟨by omega, by omega, by omega, by omega, by omega, h6⟩, hz1⟩, hz2⟩, X.book⟩
  refine ⟨X.admits, X.cas, X.clock, hF, room, X.hears, X.method, X.code, X.here, X.tail, X.warmed, ?_, ?_, ?_, Nat.le_refl _, Nat.le_refl _, ?_, ?_, fun a c9 h9 => ⟨c9, h9, rfl, rfl, fun _ _ => rfl⟩⟩
  · rw [State.stackLimits_setFrames]; rfl
  · rw [State.stackBytes_setFrames]; rfl
  · show T.setVm s.vm = { ((T.setVm s.vm).setFrames (.invoking m args :: below)).setFrames (T.setVm s.vm).frames with heap := T.heap, slotsUsed := T.slotsUsed }
    rw [State.setFrames_setFrames, State.setFrames_self ht]
    rfl
  · show T.slotsUsed = T.slotsUsed + ((T.heap.toList.drop T.heap.size).map (·.slots.size)).sum
    rw [nil]; rfl
  · show ((T.heap.toList.drop T.heap.size).map (·.slots.size)).sum ≤ 0
    rw [nil]; exact Nat.le_refl _
/-- the words of a throw: of the tables, of the list sk_nw, or of the two statics -/
def sk_thr (w : Cond) : Bool := decide (w ∈ lw_tbl) && goodWord w || decide (w ∈ sk_nw) || decide (w = .isRef (.static Bundle.tN "UNASSIGNED_STACK" Bundle.steD)) || decide (w = .isRef (.static Bundle.tN "SUPPRESSED_SENTINEL" Bundle.listD)) || decide (w = .laysStatic Bundle.tN "UNASSIGNED_STACK" Bundle.steD) || decide (w = .laysStatic Bundle.tN "SUPPRESSED_SENTINEL" Bundle.listD)
theorem sk_goodTab {w : Cond} (h : goodWord w = true) {A A' : Array Value} {u U : State} (hv : u.vm = U.vm) (hb : w.before A u = true) : w.before A' U = true := by
  rcases good_of_word h with h | ⟨ty, rfl⟩
  · simp only [Bool.and_eq_true] at h
    exact va_tabs h.1 hv hb
  · exact word_at (s := u) (U := U) (by rw [← hv]; exact State.WarmedH.refl u) (Or.inr ⟨ty, rfl⟩) hb
theorem sk_nwTab {w : Cond} (h : sk_isN w = true) : w.onTables = true := by
  cases w <;> first | rfl | cases h
/-- 'throw new E("text")': new; dup; ldc; invokespecial; athrow -/
theorem sk_throwS {cls text : String} {ik is ic i : Nat} (d0 : decode (sk_cc M) pc = .ok (.new ik, 3)) (d3 : decode (sk_cc M) (pc + 3) = .ok (.dup, 1)) (d4 : decode (sk_cc M) (pc + 4) = .ok (.ldc is, 2)) (d6 : decode (sk_cc M) (pc + 6) = .ok (.invokespecial ic, 3)) (d9 : decode (sk_cc M) (pc + 9) = .ok (.athrow, 1))
    (hown : sk_own M = "StuckLines") (hcls : Bundle.fit cls = true) (h1 : Cond.classLink (sk_own M) ik cls ∈ sk_ts) (h2 : Cond.initialized cls ∈ sk_ts) (hstr : sk_str[i]? = some (is, text)) (hat : (Bundle.ownAtoms (sk_own M) ic cls ["java/lang/RuntimeException", "java/lang/Exception"]).all sk_thr = true) (ht : sk_tab M = [])
    (hR : 6 ≤ sk_fr M ∧ 90 ≤ sk_lo M) (hcat : (S.map fun v => v.category).sum ≤ 8) (hf : kc + 1 ≤ mc ∧ kn + 6 ≤ ms) (hq : Q (.inr cls) (false, g.2.1, g.2.2) I J) : sk_W Γ M mc ms pc L S g I J kc kn Q := by
  intro p e s m args below meth c H locs ls hC hH hS hl T hT X
  subst hT
  have hts := hC.2.2.2.2.2.2.1
  have hfix := hC.2.2.2.2.2.2.2.1
  have htr : e.platform.stackTraces = false := (show e.platform.stackTraces = (sk_l Γ).stackTraces by rw [X.admits.platform]).trans hfix.2.2.2.2.2.2.2.2.2.2.1
  have Y := sk_rebase X (R' := { frames := sk_fr M, locals := sk_lo M, cells := 1, slots := 6 }) (Nat.le_refl _) (Nat.le_refl _) hf.1 hf.2
  obtain ⟨s', hA⟩ : ∃ z, z = (T.setVm s.vm).setFrames (.invoking m args :: below) := ⟨_, rfl⟩
  rw [← hA] at Y
  have hvm : s'.vm = s.vm := by rw [hA]; rfl
  have hhp : s'.heap = T.heap := by rw [hA]; rfl
  have hW0 : s.WarmedH s'.vm := by rw [hvm]; exact State.WarmedH.refl s
  have hfix' : sk_fix Γ s' := sk_move hfix (fun q a b => by rw [hhp]; exact hS.2.1 q a b) hW0
  have h : ∀ w ∈ Bundle.ownAtoms (sk_own M) ic cls ["java/lang/RuntimeException", "java/lang/Exception"], w.before args s' = true := by
    intro w hw
    have h9 := List.all_eq_true.mp hat w hw
    simp only [sk_thr, Bool.or_eq_true, Bool.and_eq_true, decide_eq_true_eq] at h9
    rcases h9 with ((((⟨q1, q2⟩ | q) | rfl) | rfl) | rfl) | rfl
    · exact sk_goodTab q2 hvm.symm (hts w (List.mem_filter.mpr ⟨q1, q2⟩))
    · exact va_Nw.use (sk_nwTab (sk_nw_ok w q)) (hfix'.2.1 w q)
    · exact sk_isRef hfix'.2.2.2.2.1.1
    · exact sk_isRef hfix'.2.2.2.2.2.1.1
    · exact hfix'.2.2.2.2.1.2.word
    · exact hfix'.2.2.2.2.2.1.2.word
  have hown' : s'.vm.findClass (sk_own M) = some m.cls := by rw [hvm]; exact hC.2.2.2.2.2.1
  have hins : (Cond.instantiable cls 6).before args s' = true := h _ (by simp [Bundle.ownAtoms])
  have hb := hC.2.1
  obtain ⟨vm₁, cX, kX, hfX, hkX, -, -, X₁, st1⟩ := Y.newCold hC.1 (own := sk_own M) (C := cls) (index := ik) (n := 6) hown' (sk_goodTab (sk_good _ h1) hvm.symm (hts _ h1)) hins (sk_goodTab (sk_good _ h2) hvm.symm (hts _ h2))
    (g := F0 m pc ls (S.map (sk_tr Γ))) rfl (by rw [hb]; exact d0) (Nat.le_refl _) (Nat.le_refl _)
  generalize hT1 : (T.setVm vm₁).pushCell { cls := cX, slots := kX.instanceTypes.map defaultValue, vm := .none } = T1 at X₁ st1
  have hcat1 : (Value.ref T.heap.size).category = 1 := rfl
  have hcellA : T1.heap[T.heap.size]? = some (freshCell cX kX) := by rw [← hT1]; exact State.heap_pushCell_size _ _
  have d3' : decode c.code (pc + 3) = .ok (.dup, 1) := by rw [hb]; exact d3
  have d4' : decode c.code (pc + 4) = .ok (.ldc is, 2) := by rw [hb]; exact d4
  have hstr' : vk_R (sk_own M) is text (sk_sa Γ i) s' := by rw [hown]; exact hfix'.2.2.2.2.2.2.1 i _ hstr
  have hout : ∀ x ∈ c.exceptionTable.toList, covers x (pc + 6 + 3) = false := by
    rw [hC.2.2.2.2.2.2.2.2.1, ht]
    intro x hx
    cases hx
  have hsum : ((S.map (sk_tr Γ)).map fun v => v.category).sum ≤ 8 := by rw [sk_sumCat]; exact hcat
  obtain ⟨U, hsteps, hrun, hend, hW, hsame, ce, hce, hO⟩ := X₁.ctorThrowS hC.1 htr (own := sk_own M) (cls := cls) (names := ["java/lang/RuntimeException", "java/lang/Exception"]) (ic := ic) hown' hcls (by decide +kernel) h (fun x hx => nomatch hx) hfX hkX hcellA (by rw [hhp]; exact Nat.le_refl _) (msg := .ref (sk_sa Γ i)) rfl
    (g := { method := m, pc := pc + 6, locals := ls, stack := .ref (sk_sa Γ i) :: .ref T.heap.size :: .ref T.heap.size :: S.map (sk_tr Γ), locked := none }) rfl (hl.1.trans hC.2.2.1.symm) rfl rfl (rest := S.map (sk_tr Γ)) rfl
    (by rw [hb]; exact d6) (by rw [hb]; exact d9) hout hR.1 (by
      have hz : 2 * (F0 m pc ls (S.map (sk_tr Γ))).monitorRoom + ((S.map (sk_tr Γ)).map fun v => v.category).sum ≤ 8 := lv_room hsum
      have hz2 : 2 * (F0 m pc ls (S.map (sk_tr Γ))).monitorRoom = 2 * ({ method := m, pc := pc + 6, locals := ls, stack := .ref (sk_sa Γ i) :: .ref T.heap.size :: .ref T.heap.size :: S.map (sk_tr Γ), locked := none } : JFrame).monitorRoom := rfl
      have hz3 := hR.2
      simp only [List.map_cons, List.sum_cons, hcat1, List.length_cons, List.length_nil]
      show _ ≤ sk_lo M
      omega) hC.2.2.2.2.1
  obtain ⟨e1, e2, e3, e4, e5, e6⟩ := id hsame
  have hWs : s.WarmedH U.vm := State.WarmedH.trans hW0 hW
  have old : ∀ q : Nat, q < T.heap.size → U.heap[q]? = T.heap[q]? := by
    intro q hq
    have hq' : q < s'.heap.size := by rw [hhp]; exact hq
    obtain ⟨c9, f1, f2, f3, f4⟩ := e6 q _ (Array.getElem?_eq_getElem hq')
    have hs9 : c9.slots = (s'.heap[q]).slots := Array.ext_getElem? fun j => f4 j (by simp)
    have h9 : c9 = s'.heap[q] := by rw [hs9] at f2; exact f2
    have f5 : U.heap[q]? = some c9 := f1
    rw [f5, h9, ← hhp, Array.getElem?_eq_getElem hq']
  have hge : T.heap.size ≤ U.heap.size := by rw [← hhp]; exact e2
  have hall : s.sameButNew ({ U with vm := s.vm } : State) locs mc ms := by
    subst hA
    have h2 : (T.setVm s.vm).sameButNew ({ U with vm := s.vm } : State) [] (0 + 1) (0 + 6) := by
      rw [State.setFrames_setFrames] at e1
      exact ⟨e1, e2, e3, e4, e5, e6⟩
    have h3 := X.same.trans h2
    rw [List.append_nil] at h3
    exact h3.mono hf.1 hf.2
  have hH' : sk_hp Γ (false, g.2.1, g.2.2) I J U.heap := ⟨hH.1.kept (fun k x hx => old x.1 ((hH.1 k x hx).lt)), Nat.le_trans hH.2.1 hge, (fun h => by cases h), hH.2.2.2⟩
  refine ⟨U, ?_, .threw T.heap.size, hrun, hend, Or.inr ⟨T.heap.size, cls, ce, (false, g.2.1, g.2.2), I, J, locs, rfl, hq, hH', ⟨Nat.le_trans hS.1 hge, fun q a b => (old q (Nat.lt_of_lt_of_le a hS.1)).trans (hS.2.1 q a b)⟩, hce, hO.vm, ?_, hWs, hall, hS.2.2⟩⟩
  · refine st1 _ ?_
    show Steps p.tables e below (T1.setTop { method := m, pc := pc + 3, locals := ls, stack := .ref T.heap.size :: S.map (sk_tr Γ), locked := none }) _
    have hexec := hC.1
    jvm_step X₁.here [X₁.here.top, hexec, d3', Value.category]
    exact X₁.ldcString hC.1 (own := sk_own M) (text := text) (index := is) (a := sk_sa Γ i) hown' hstr'.1 hstr'.2
      (g := { method := m, pc := pc + 4, locals := ls, stack := .ref T.heap.size :: .ref T.heap.size :: S.map (sk_tr Γ), locked := none }) rfl d4' _ hsteps
  · have h9 := hO.cls
    rw [hvm] at h9
    exact h9
end SKX
end
section
/-! the start: the claim out of the law walked in small (the words lw_ are the skeleton's) -/
def R_law : String := "StuckLinesLaw"
def lw_P (b : Addr) (xs : List Int32) (args : Array Value) (s : State) : Prop := args = #[.ref b] ∧ s.IntsAt b xs ∧ xs.length ≤ 2560 ∧ (Jvm.Cond.and given_1 narrow_1).before args s = true
def lw_Q (_ : Array Value) (s : State) (o : Outcome) (t : State) : Prop := o = .returned (some (.int 1)) ∧ Framed s o t [] 1101 25936
def lw_Z (below : List Frame) (a : Array Value) (s : State) : State → Prop := fun t => ∃ o, t.status = .running ∧ Ended t below o ∧ lw_Q a s o t
/-- what holds at the law's entry: the machine, the code, the tables' words (any of lw_tbl by 'hts w (by decide +kernel)'), the script of L ints xs at the cell b, what the Statement gives of the start (any of its parts by flat_of_before) -/
def lw_At (p : Program) (s : State) (m : MethodId) (meth : Method) (c : Code) (b L : Nat) (xs : Nat → Int32) : Prop :=
  p.tables.exec = Jvm.exec ∧ c.code = code ∧ meth.sig.returnType = ret ∧ c.maxLocals = 8 ∧ s.vm.findClass R_law = some m.cls ∧ (∀ w ∈ lw_tbl, w.before #[Value.ref b] s = true) ∧ va_X b L xs s s.heap ∧ b < s.heap.size ∧ meth.locks = false ∧ (Jvm.Cond.and given_1 narrow_1).before #[Value.ref b] s = true
abbrev m_law : sk_M := ("StuckLinesLaw", x, code, 8, some .boolean, [], 12, 434)
def sk_g0 : sk_G := (true, [], fun _ _ => none)
def sk_i0 : sk_I := fun _ _ => 0
def sk_j0 : sk_J := fun _ _ => 0
theorem sk_instT : ∀ q ∈ sk_cl, Cond.instantiable q.1 q.2.2 ∈ lw_tbl := by
  intro q h
  refine List.mem_append_right _ ?_
  unfold sk_cl at h
  rcases List.mem_cons.mp h with rfl | h
  · exact List.mem_of_getElem? (i := 16) (by decide +kernel)
  rcases List.mem_cons.mp h with rfl | h
  · exact List.mem_of_getElem? (i := 24) (by decide +kernel)
  rcases List.mem_cons.mp h with rfl | h
  · exact List.mem_of_getElem? (i := 97) (by decide +kernel)
  rcases List.mem_cons.mp h with rfl | h
  · exact List.mem_of_getElem? (i := 126) (by decide +kernel)
  rcases List.mem_cons.mp h with rfl | h
  · exact List.mem_of_getElem? (i := 150) (by decide +kernel)
  rcases List.mem_cons.mp h with rfl | h
  · exact List.mem_of_getElem? (i := 168) (by decide +kernel)
  rcases List.mem_cons.mp h with rfl | h
  · exact List.mem_of_getElem? (i := 193) (by decide +kernel)
  rcases List.mem_cons.mp h with rfl | h
  · exact List.mem_of_getElem? (i := 679) (by decide +kernel)
  · cases h
theorem sk_arrOf {args : Array Value} {s : State} {ty : FieldType} (hty : ∀ C, ty ≠ .object C) (h : (Cond.arrayClass ty).before args s = true) : ∃ cA, ArrOfT s cA ty ∧ va_RA s cA ty := by
  obtain ⟨cA, kA, comp, h1, h2, h3⟩ := Cond.arrayClass_spec h
  refine ⟨cA, fun n z => ⟨fun k h => (by cases h), kA, h2, comp, h3⟩, ?_⟩
  cases ty <;> first | exact h1 | exact absurd rfl (hty _)
theorem sk_strW : ∀ (i : Nat) (q : Nat × String), sk_str[i]? = some q → Cond.stringRef "StuckLines" q.1 q.2 ∈ lw_tbl ∧ Cond.exactly (.string "StuckLines" q.1) "java/lang/String" ∈ flatC (Jvm.Cond.and given_1 narrow_1) := by
  intro i q h
  match i, h with
  | 0, h => cases h; exact ⟨List.mem_append_right _ (List.mem_of_getElem? (i := 404) (by decide +kernel)), by decide +kernel⟩
  | 1, h => cases h; exact ⟨List.mem_append_right _ (List.mem_of_getElem? (i := 457) (by decide +kernel)), by decide +kernel⟩
  | 2, h => cases h; exact ⟨List.mem_append_right _ (List.mem_of_getElem? (i := 464) (by decide +kernel)), by decide +kernel⟩
  | 3, h => cases h; exact ⟨List.mem_append_right _ (List.mem_of_getElem? (i := 478) (by decide +kernel)), by decide +kernel⟩
  | 4, h => cases h; exact ⟨List.mem_append_right _ (List.mem_of_getElem? (i := 489) (by decide +kernel)), by decide +kernel⟩
  | 5, h => cases h; exact ⟨List.mem_append_right _ (List.mem_of_getElem? (i := 509) (by decide +kernel)), by decide +kernel⟩
  | 6, h => cases h; exact ⟨List.mem_append_right _ (List.mem_of_getElem? (i := 529) (by decide +kernel)), by decide +kernel⟩
  | 7, h => cases h; exact ⟨List.mem_append_right _ (List.mem_of_getElem? (i := 557) (by decide +kernel)), by decide +kernel⟩
  | 8, h => cases h; exact ⟨List.mem_append_right _ (List.mem_of_getElem? (i := 570) (by decide +kernel)), by decide +kernel⟩
  | 9, h => cases h; exact ⟨List.mem_append_right _ (List.mem_of_getElem? (i := 579) (by decide +kernel)), by decide +kernel⟩
  | 10, h => cases h; exact ⟨List.mem_append_right _ (List.mem_of_getElem? (i := 602) (by decide +kernel)), by decide +kernel⟩
  | 11, h => cases h; exact ⟨List.mem_append_right _ (List.mem_of_getElem? (i := 639) (by decide +kernel)), by decide +kernel⟩
  | 12, h => cases h; exact ⟨List.mem_append_right _ (List.mem_of_getElem? (i := 640) (by decide +kernel)), by decide +kernel⟩
  | 13, h => cases h; exact ⟨List.mem_append_right _ (List.mem_of_getElem? (i := 672) (by decide +kernel)), by decide +kernel⟩
  | 14, h => cases h; exact ⟨List.mem_append_right _ (List.mem_of_getElem? (i := 673) (by decide +kernel)), by decide +kernel⟩
  | (n + 15), h => simp [sk_str] at h
theorem sk_ncW : ∀ E F : String, sk_nc E F = true → Cond.not (.castable E F) ∈ flatC (Jvm.Cond.and given_1 narrow_1) := by
  intro E F h
  simp only [sk_nc, Bool.and_eq_true, decide_eq_true_eq, List.mem_cons, List.not_mem_nil, or_false] at h
  obtain ⟨⟨hne, hE⟩, hF⟩ := h
  rcases hE with rfl | rfl | rfl <;> rcases hF with rfl | rfl | rfl <;> first | exact absurd rfl hne | decide +kernel
theorem sk_elemW : ∀ j : Nat, j < 6 → Cond.eq (.elem (.static "StuckLines" "SOURCE_IN_VECTORS" "[J") (.int (Int32.ofNat j))) (.long (sk_siv j)) ∈ flatC (Jvm.Cond.and given_1 narrow_1) := by
  intro j hj
  match j, hj with
  | 0, _ => decide +kernel
  | 1, _ => decide +kernel
  | 2, _ => decide +kernel
  | 3, _ => decide +kernel
  | 4, _ => decide +kernel
  | 5, _ => decide +kernel
  | (n + 6), h => omega
set_option maxHeartbeats 4000000 in
/-- what holds at the law's entry, in the words of the walk -/
theorem sk_start {p : Program} {s : State} {m : MethodId} {meth : Method} {c : Code} {l : Launch} {b L : Nat} {xs : Nat → Int32} (hst : l.stackTraces = false) (htab : c.exceptionTable.toList = []) (hnm : meth.name = "law") (C0 : lw_At p s m meth c b L xs) : ∃ Γ : sk_T, sk_l Γ = l ∧ sk_len Γ = L ∧ sk_xs Γ = xs ∧ sk_b Γ = s.heap.size ∧ sk_ad Γ sk_scr = b ∧ sk_cx Γ m_law p s m #[Value.ref b] meth c ∧ sk_hp Γ sk_g0 sk_i0 sk_j0 s.heap := by
  obtain ⟨hexec, hcode, hret, hml, hown, hts, hX, hbl, hlocks, hgiven⟩ := C0
  have hs := flat_of_before _ hgiven
  have hA : ∀ a : Nat, a < s.heap.size → ¬ (s.heap.size ≤ a) := fun a h => by omega
  have hcl : ∀ ci : Nat, ∃ z : ClassId × (Nat → Nat), ∀ q : vw_C, sk_cl[ci]? = some q → u_Kn s q.1 q.2.1 q.2.2 z.1 z.2 := by
    intro ci
    cases hq : sk_cl[ci]? with
    | none => exact ⟨(0, fun _ => 0), fun q h => by cases h⟩
    | some q =>
      obtain ⟨C, T, N⟩ := q
      obtain ⟨cC, iS, hk⟩ := u_known (C := C) (T := T) (N := N) (n := N) hts (fun w hw => sk_tbl _ (sk_lays hq w hw)) (hts _ (sk_instT _ (List.mem_of_getElem? hq)))
      exact ⟨(cC, iS), fun q h => by cases h; exact hk⟩
  obtain ⟨fD, hD⟩ := Classical.axiomOfChoice hcl
  obtain ⟨cI, hI1, hI2⟩ := sk_arrOf (fun C h => by cases h) (hts (.arrayClass .int) (List.mem_append_right _ (List.mem_of_getElem? (i := 94) (by decide +kernel))))
  obtain ⟨cZ, hZ1, hZ2⟩ := sk_arrOf (fun C h => by cases h) (hts (.arrayClass .boolean) (List.mem_append_right _ (List.mem_of_getElem? (i := 95) (by decide +kernel))))
  obtain ⟨cJ, hJ1, hJ2⟩ := sk_arrOf (fun C h => by cases h) (hts (.arrayClass .long) (List.mem_append_right _ (List.mem_of_getElem? (i := 124) (by decide +kernel))))
  obtain ⟨t, hte, hT⟩ := va_Tof (tm := .static "StuckLines" "SOURCE_IN_VECTORS" "[J") (ty := .long) (N := 6) (f := fun j => .long (sk_siv j)) (A := fun q => s.heap.size ≤ q) (by decide) (hs _ (by decide +kernel)) (va_eqt (hs (.eq (.length (.static "StuckLines" "SOURCE_IN_VECTORS" "[J")) (.int 6)) (by decide +kernel))) (fun j hj => va_eqtl (hs _ (sk_elemW j hj))) hA
  have hZ : va_Z "StuckLines" "SOURCE_IN_VECTORS" "[J" (.ref t) (fun q => s.heap.size ≤ q) s s.heap := va_Zof (hts _ (List.mem_append_right _ (List.mem_of_getElem? (i := 281) (by decide +kernel)))) (hts _ (List.mem_append_right _ (List.mem_of_getElem? (i := 1) (by decide +kernel)))) hte hA
  have hsr : ∀ i : Nat, ∃ a : Nat, ∀ q : Nat × String, sk_str[i]? = some q → vk_R "StuckLines" q.1 q.2 a s := by
    intro i
    cases hq : sk_str[i]? with
    | none => exact ⟨0, fun q h => by cases h⟩
    | some q =>
      obtain ⟨w1, w2⟩ := sk_strW i q hq
      obtain ⟨a, -, -, -, ha, -⟩ := Cond.exactly_spec (hs _ w2)
      exact ⟨a, fun q' h => by cases h; exact vk_R.of (hts _ w1) ha⟩
  obtain ⟨sa, hsa⟩ := Classical.axiomOfChoice hsr
  have hU1 := hts (.laysStatic Bundle.tN "UNASSIGNED_STACK" Bundle.steD) (List.mem_append_right _ (List.mem_of_getElem? (i := 390) (by decide +kernel)))
  have hU2 := hts (.laysStatic Bundle.tN "SUPPRESSED_SENTINEL" Bundle.listD) (List.mem_append_right _ (List.mem_of_getElem? (i := 392) (by decide +kernel)))
  have hU3 := hts (.initialized Bundle.tN) (List.mem_append_right _ (List.mem_of_getElem? (i := 9) (by decide +kernel)))
  refine ⟨(l, s.heap.size, (fun c => (fD c).1, fun c => (fD c).2), (fun k => if k = 0 then cI else if k = 1 then cZ else cJ), (fun k => if k = sk_scr then b else if k = sk_sta then t else s.heap.size + k), L, xs, sa), rfl, rfl, rfl, rfl, rfl, ?_, ?_⟩
  · refine ⟨hexec, hcode, hml, hret, hlocks, hown, fun w hw => hts w (sk_tbl w hw), ?_, by rw [htab]; rfl, hnm, Nat.le_refl _⟩
    refine ⟨⟨fun ci q hq => hD ci q hq, fun k q hk => ?_⟩, fun w hw => va_Nw.of (sk_nwTab (sk_nw_ok w hw)) (hts w (sk_nw_tbl w hw)), hZ, hT, ⟨va_Zqof hU1 hU3 (hs _ (by decide +kernel)) hA, sk_L.of hU1 hA⟩, ⟨va_Zqof hU2 hU3 (hs _ (by decide +kernel)) hA, sk_L.of hU2 hA⟩, fun i q hq => hsa i q hq, hX, hbl, fun k hk => ?_, hst, fun E F hE => va_Nc.of (hs _ (sk_ncW E F hE))⟩
    · match k, hk with
      | 0, hk => cases hk; exact ⟨hI1, hI2⟩
      | 1, hk => cases hk; exact ⟨hZ1, hZ2⟩
      | 2, hk => cases hk; exact ⟨hJ1, hJ2⟩
      | (n + 3), hk => simp at hk
    · show (if k = sk_scr then b else if k = sk_sta then t else s.heap.size + k) = s.heap.size + k
      rw [if_neg (by unfold sk_scr; omega), if_neg (by unfold sk_sta; omega)]
  · refine ⟨fun k q hk => ?_, Nat.le_refl _, fun _ => rfl, by decide⟩
    simp [sk_ws, sk_g0] at hk
end
section
/-! the cells that the law makes; rules over them: printed by wip/whole/gen_meth.py -/
def sk_SH : List (Nat × Nat × Nat) := [(0, 0, 6), (0, 1, 15), (1, 26, 0), (1, 26, 0), (2, 26, 0), (1, 27, 0), (1, 78, 0), (1, 78, 0), (1, 12, 0), (1, 26, 0), (1, 6, 0), (0, 2, 7), (3, 6, 0), (3, 6, 0), (3, 26, 0), (3, 26, 0), (0, 3, 5), (3, 2508, 0), (3, 209, 0), (1, 209, 0), (0, 2, 7), (3, 6, 0), (3, 6, 0), (3, 26, 0), (3, 26, 0), (0, 4, 3), (0, 2, 7), (3, 6, 0), (3, 6, 0), (3, 26, 0), (3, 26, 0), (0, 2, 7), (3, 6, 0), (3, 6, 0), (3, 26, 0), (3, 26, 0), (0, 5, 6), (1, 64, 0), (0, 6, 4), (1, 16, 0), (1, 16, 0), (0, 7, 29), (1, 26, 0), (1, 26, 0), (1, 78, 0), (1, 26, 0), (1, 6, 0), (2, 6, 0), (1, 6, 0), (1, 6, 0), (1, 12, 0), (1, 104, 0), (1, 104, 0), (1, 26, 0), (1, 12, 0), (1, 13312, 0), (1, 64, 0), (1, 64, 0), (2, 64, 0), (1, 16, 0), (1, 16, 0), (3, 1, 0)]
def sk_RT : List (List (Option Nat)) := [[some 1, some 11, some 16, some 25, some 36, some 38], [none, none, none, none, none, none, some 2, some 3, some 4, some 5, some 6, some 7, some 8, some 9, some 10], [], [], [], [], [], [], [], [], [], [some 1, some 12, some 13, some 14, some 15, none, none], [], [], [], [], [some 1, some 20, some 17, some 18, some 19], [], [], [], [some 1, some 21, some 22, some 23, some 24, none, none], [], [], [], [], [some 1, some 26, some 31], [some 1, some 27, some 28, some 29, some 30, none, none], [], [], [], [], [some 1, some 32, some 33, some 34, some 35, none, none], [], [], [], [], [some 1, some 16, some 37, none, none, none], [], [some 16, some 39, some 40, none], [], [], [none, none, some 42, some 43, some 44, some 45, none, some 46, some 47, some 48, none, some 49, none, some 50, none, some 51, some 52, some 53, some 54, none, some 55, some 56, none, none, some 57, some 58, none, some 59, some 60], [], [], [], [], [], [], [], [], [], [], [], [], [], [], [], [], [], [], [], []]
def sk_RR : sk_R := fun q j => (sk_RT.getD q []).getD j none
def sk_gg : sk_G := (false, sk_SH, sk_RR)
theorem sh_0 : sk_gg.2.1[0]? = some (0, 0, 6) := rfl
theorem sh_1 : sk_gg.2.1[1]? = some (0, 1, 15) := rfl
theorem sh_2 : sk_gg.2.1[2]? = some (1, 26, 0) := rfl
theorem sh_3 : sk_gg.2.1[3]? = some (1, 26, 0) := rfl
theorem sh_4 : sk_gg.2.1[4]? = some (2, 26, 0) := rfl
theorem sh_5 : sk_gg.2.1[5]? = some (1, 27, 0) := rfl
theorem sh_6 : sk_gg.2.1[6]? = some (1, 78, 0) := rfl
theorem sh_7 : sk_gg.2.1[7]? = some (1, 78, 0) := rfl
theorem sh_8 : sk_gg.2.1[8]? = some (1, 12, 0) := rfl
theorem sh_9 : sk_gg.2.1[9]? = some (1, 26, 0) := rfl
theorem sh_10 : sk_gg.2.1[10]? = some (1, 6, 0) := rfl
theorem sh_11 : sk_gg.2.1[11]? = some (0, 2, 7) := rfl
theorem sh_12 : sk_gg.2.1[12]? = some (3, 6, 0) := rfl
theorem sh_13 : sk_gg.2.1[13]? = some (3, 6, 0) := rfl
theorem sh_14 : sk_gg.2.1[14]? = some (3, 26, 0) := rfl
theorem sh_15 : sk_gg.2.1[15]? = some (3, 26, 0) := rfl
theorem sh_16 : sk_gg.2.1[16]? = some (0, 3, 5) := rfl
theorem sh_17 : sk_gg.2.1[17]? = some (3, 2508, 0) := rfl
theorem sh_18 : sk_gg.2.1[18]? = some (3, 209, 0) := rfl
theorem sh_19 : sk_gg.2.1[19]? = some (1, 209, 0) := rfl
theorem sh_20 : sk_gg.2.1[20]? = some (0, 2, 7) := rfl
theorem sh_21 : sk_gg.2.1[21]? = some (3, 6, 0) := rfl
theorem sh_22 : sk_gg.2.1[22]? = some (3, 6, 0) := rfl
theorem sh_23 : sk_gg.2.1[23]? = some (3, 26, 0) := rfl
theorem sh_24 : sk_gg.2.1[24]? = some (3, 26, 0) := rfl
theorem sh_25 : sk_gg.2.1[25]? = some (0, 4, 3) := rfl
theorem sh_26 : sk_gg.2.1[26]? = some (0, 2, 7) := rfl
theorem sh_27 : sk_gg.2.1[27]? = some (3, 6, 0) := rfl
theorem sh_28 : sk_gg.2.1[28]? = some (3, 6, 0) := rfl
theorem sh_29 : sk_gg.2.1[29]? = some (3, 26, 0) := rfl
theorem sh_30 : sk_gg.2.1[30]? = some (3, 26, 0) := rfl
theorem sh_31 : sk_gg.2.1[31]? = some (0, 2, 7) := rfl
theorem sh_32 : sk_gg.2.1[32]? = some (3, 6, 0) := rfl
theorem sh_33 : sk_gg.2.1[33]? = some (3, 6, 0) := rfl
theorem sh_34 : sk_gg.2.1[34]? = some (3, 26, 0) := rfl
theorem sh_35 : sk_gg.2.1[35]? = some (3, 26, 0) := rfl
theorem sh_36 : sk_gg.2.1[36]? = some (0, 5, 6) := rfl
theorem sh_37 : sk_gg.2.1[37]? = some (1, 64, 0) := rfl
theorem sh_38 : sk_gg.2.1[38]? = some (0, 6, 4) := rfl
theorem sh_39 : sk_gg.2.1[39]? = some (1, 16, 0) := rfl
theorem sh_40 : sk_gg.2.1[40]? = some (1, 16, 0) := rfl
theorem sh_41 : sk_gg.2.1[41]? = some (0, 7, 29) := rfl
theorem sh_42 : sk_gg.2.1[42]? = some (1, 26, 0) := rfl
theorem sh_43 : sk_gg.2.1[43]? = some (1, 26, 0) := rfl
theorem sh_44 : sk_gg.2.1[44]? = some (1, 78, 0) := rfl
theorem sh_45 : sk_gg.2.1[45]? = some (1, 26, 0) := rfl
theorem sh_46 : sk_gg.2.1[46]? = some (1, 6, 0) := rfl
theorem sh_47 : sk_gg.2.1[47]? = some (2, 6, 0) := rfl
theorem sh_48 : sk_gg.2.1[48]? = some (1, 6, 0) := rfl
theorem sh_49 : sk_gg.2.1[49]? = some (1, 6, 0) := rfl
theorem sh_50 : sk_gg.2.1[50]? = some (1, 12, 0) := rfl
theorem sh_51 : sk_gg.2.1[51]? = some (1, 104, 0) := rfl
theorem sh_52 : sk_gg.2.1[52]? = some (1, 104, 0) := rfl
theorem sh_53 : sk_gg.2.1[53]? = some (1, 26, 0) := rfl
theorem sh_54 : sk_gg.2.1[54]? = some (1, 12, 0) := rfl
theorem sh_55 : sk_gg.2.1[55]? = some (1, 13312, 0) := rfl
theorem sh_56 : sk_gg.2.1[56]? = some (1, 64, 0) := rfl
theorem sh_57 : sk_gg.2.1[57]? = some (1, 64, 0) := rfl
theorem sh_58 : sk_gg.2.1[58]? = some (2, 64, 0) := rfl
theorem sh_59 : sk_gg.2.1[59]? = some (1, 16, 0) := rfl
theorem sh_60 : sk_gg.2.1[60]? = some (1, 16, 0) := rfl
theorem sh_61 : sk_gg.2.1[61]? = some (3, 1, 0) := rfl
theorem rr_0_0 : sk_gg.2.2 0 0 = some 1 := rfl
theorem rr_0_1 : sk_gg.2.2 0 1 = some 11 := rfl
theorem rr_0_2 : sk_gg.2.2 0 2 = some 16 := rfl
theorem rr_0_3 : sk_gg.2.2 0 3 = some 25 := rfl
theorem rr_0_4 : sk_gg.2.2 0 4 = some 36 := rfl
theorem rr_0_5 : sk_gg.2.2 0 5 = some 38 := rfl
theorem rr_1_6 : sk_gg.2.2 1 6 = some 2 := rfl
theorem rr_1_7 : sk_gg.2.2 1 7 = some 3 := rfl
theorem rr_1_8 : sk_gg.2.2 1 8 = some 4 := rfl
theorem rr_1_9 : sk_gg.2.2 1 9 = some 5 := rfl
theorem rr_1_10 : sk_gg.2.2 1 10 = some 6 := rfl
theorem rr_1_11 : sk_gg.2.2 1 11 = some 7 := rfl
theorem rr_1_12 : sk_gg.2.2 1 12 = some 8 := rfl
theorem rr_1_13 : sk_gg.2.2 1 13 = some 9 := rfl
theorem rr_1_14 : sk_gg.2.2 1 14 = some 10 := rfl
theorem rr_11_0 : sk_gg.2.2 11 0 = some 1 := rfl
theorem rr_11_1 : sk_gg.2.2 11 1 = some 12 := rfl
theorem rr_11_2 : sk_gg.2.2 11 2 = some 13 := rfl
theorem rr_11_3 : sk_gg.2.2 11 3 = some 14 := rfl
theorem rr_11_4 : sk_gg.2.2 11 4 = some 15 := rfl
theorem rr_16_0 : sk_gg.2.2 16 0 = some 1 := rfl
theorem rr_16_1 : sk_gg.2.2 16 1 = some 20 := rfl
theorem rr_16_2 : sk_gg.2.2 16 2 = some 17 := rfl
theorem rr_16_3 : sk_gg.2.2 16 3 = some 18 := rfl
theorem rr_16_4 : sk_gg.2.2 16 4 = some 19 := rfl
theorem rr_20_0 : sk_gg.2.2 20 0 = some 1 := rfl
theorem rr_20_1 : sk_gg.2.2 20 1 = some 21 := rfl
theorem rr_20_2 : sk_gg.2.2 20 2 = some 22 := rfl
theorem rr_20_3 : sk_gg.2.2 20 3 = some 23 := rfl
theorem rr_20_4 : sk_gg.2.2 20 4 = some 24 := rfl
theorem rr_25_0 : sk_gg.2.2 25 0 = some 1 := rfl
theorem rr_25_1 : sk_gg.2.2 25 1 = some 26 := rfl
theorem rr_25_2 : sk_gg.2.2 25 2 = some 31 := rfl
theorem rr_26_0 : sk_gg.2.2 26 0 = some 1 := rfl
theorem rr_26_1 : sk_gg.2.2 26 1 = some 27 := rfl
theorem rr_26_2 : sk_gg.2.2 26 2 = some 28 := rfl
theorem rr_26_3 : sk_gg.2.2 26 3 = some 29 := rfl
theorem rr_26_4 : sk_gg.2.2 26 4 = some 30 := rfl
theorem rr_31_0 : sk_gg.2.2 31 0 = some 1 := rfl
theorem rr_31_1 : sk_gg.2.2 31 1 = some 32 := rfl
theorem rr_31_2 : sk_gg.2.2 31 2 = some 33 := rfl
theorem rr_31_3 : sk_gg.2.2 31 3 = some 34 := rfl
theorem rr_31_4 : sk_gg.2.2 31 4 = some 35 := rfl
theorem rr_36_0 : sk_gg.2.2 36 0 = some 1 := rfl
theorem rr_36_1 : sk_gg.2.2 36 1 = some 16 := rfl
theorem rr_36_2 : sk_gg.2.2 36 2 = some 37 := rfl
theorem rr_38_0 : sk_gg.2.2 38 0 = some 16 := rfl
theorem rr_38_1 : sk_gg.2.2 38 1 = some 39 := rfl
theorem rr_38_2 : sk_gg.2.2 38 2 = some 40 := rfl
theorem rr_41_2 : sk_gg.2.2 41 2 = some 42 := rfl
theorem rr_41_3 : sk_gg.2.2 41 3 = some 43 := rfl
theorem rr_41_4 : sk_gg.2.2 41 4 = some 44 := rfl
theorem rr_41_5 : sk_gg.2.2 41 5 = some 45 := rfl
theorem rr_41_7 : sk_gg.2.2 41 7 = some 46 := rfl
theorem rr_41_8 : sk_gg.2.2 41 8 = some 47 := rfl
theorem rr_41_9 : sk_gg.2.2 41 9 = some 48 := rfl
theorem rr_41_11 : sk_gg.2.2 41 11 = some 49 := rfl
theorem rr_41_13 : sk_gg.2.2 41 13 = some 50 := rfl
theorem rr_41_15 : sk_gg.2.2 41 15 = some 51 := rfl
theorem rr_41_16 : sk_gg.2.2 41 16 = some 52 := rfl
theorem rr_41_17 : sk_gg.2.2 41 17 = some 53 := rfl
theorem rr_41_18 : sk_gg.2.2 41 18 = some 54 := rfl
theorem rr_41_20 : sk_gg.2.2 41 20 = some 55 := rfl
theorem rr_41_21 : sk_gg.2.2 41 21 = some 56 := rfl
theorem rr_41_24 : sk_gg.2.2 41 24 = some 57 := rfl
theorem rr_41_25 : sk_gg.2.2 41 25 = some 58 := rfl
theorem rr_41_27 : sk_gg.2.2 41 27 = some 59 := rfl
theorem rr_41_28 : sk_gg.2.2 41 28 = some 60 := rfl
/-- what a link of a call says -/
def sk_lkV (own : String) (idx : Nat) (M' : sk_M) (na : Nat) : Prop := Cond.methodLink own idx (sk_y M') ∈ sk_ts ∧ Cond.instanceMethod (sk_y M') ∈ sk_ts ∧ Cond.selects (sk_y M').cls (sk_y M') (sk_y M') ∈ sk_ts ∧ Cond.initialized (sk_y M').cls ∈ sk_ts ∧ Cond.code (sk_y M') (sk_cc M') (sk_nl M') (sk_ret M') ∈ sk_ts ∧ sk_tab M' = [] ∧
  ((sk_y M').cls ≠ "java/lang/invoke/MethodHandle" ∧ (sk_y M').cls ≠ "java/lang/invoke/VarHandle" ∧ (parseMethodDescriptor (sk_y M').desc).map (fun d => d.parameters.length) = some na)
def sk_lkS (own : String) (idx : Nat) (M' : sk_M) (na : Nat) : Prop := Cond.methodLink own idx (sk_y M') ∈ sk_ts ∧ Cond.static (sk_y M') ∈ sk_ts ∧ Cond.initialized (sk_y M').cls ∈ sk_ts ∧ sk_head M' ∈ sk_ts ∧
  ((sk_y M').cls ≠ "java/lang/invoke/MethodHandle" ∧ (sk_y M').cls ≠ "java/lang/invoke/VarHandle" ∧ (parseMethodDescriptor (sk_y M').desc).map (fun d => d.parameters.length) = some na)
def sk_lkI (own : String) (idx : Nat) (M' : sk_M) (na : Nat) : Prop := (Cond.methodLink own idx (sk_y M') ∈ sk_ts ∨ ∃ host : String, Cond.methodLinkNest own idx (sk_y M') host ∈ sk_nw) ∧ Cond.instanceMethod (sk_y M') ∈ sk_ts ∧ Cond.initialized (sk_y M').cls ∈ sk_ts ∧ Cond.code (sk_y M') (sk_cc M') (sk_nl M') none ∈ sk_ts ∧ sk_tab M' = [] ∧ sk_ret M' = none ∧ (sk_y M').name = "<init>" ∧
  ((sk_y M').cls ≠ "java/lang/invoke/MethodHandle" ∧ (sk_y M').cls ≠ "java/lang/invoke/VarHandle" ∧ (parseMethodDescriptor (sk_y M').desc).map (fun d => d.parameters.length) = some na)
def sk_fg (own : String) (idx ci N j k : Nat) : Prop := ∃ (C : String) (T : u_T), sk_cl[ci]? = some (C, T, N) ∧ j < N ∧ sk_fl own idx T j ∧ sk_kd ci j = k
def sk_fp (own : String) (idx ci N j k : Nat) (ty : FieldType) (fin : Bool) : Prop := ∃ (C : String) (T : u_T), sk_cl[ci]? = some (C, T, N) ∧ j < N ∧ Cond.fieldLink own idx (T j).1 (T j).2.1 (T j).2.2.1 ∈ sk_ts ∧ (T j).2.2.2 = fin ∧ parseFieldDescriptor (T j).2.2.1 = some ty ∧ sk_kd ci j = k ∧ (T j).1 = own
def sk_nwc (own : String) (idx ci N : Nat) : Prop := ∃ (C : String) (T : u_T), sk_cl[ci]? = some (C, T, N) ∧ Cond.classLink own idx C ∈ sk_ts ∧ Cond.instantiable C N ∈ sk_ts ∧ Cond.initialized C ∈ sk_ts
def sk_th (ik is ic i : Nat) (cls : String) : Prop := Bundle.fit cls = true ∧ Cond.classLink "StuckLines" ik cls ∈ sk_ts ∧ Cond.initialized cls ∈ sk_ts ∧ ∃ text : String, sk_str[i]? = some (is, text) ∧ (Bundle.ownAtoms "StuckLines" ic cls ["java/lang/RuntimeException", "java/lang/Exception"]).all sk_thr = true
/-- what comes behind a call that answers an int, a long, nothing; that throws -/
def sk_Ki (K : Int32 → sk_I → sk_J → Prop) : sk_Q := fun r g I J => ∃ v : Int32, r = .inl (some (.int v)) ∧ g = sk_gg ∧ K v I J
def sk_Kl (K : Int64 → sk_I → sk_J → Prop) : sk_Q := fun r g I J => ∃ v : Int64, r = .inl (some (.long v)) ∧ g = sk_gg ∧ K v I J
def sk_Kv (K : sk_I → sk_J → Prop) : sk_Q := fun r g I J => r = .inl none ∧ g = sk_gg ∧ K I J
def sk_Kx (K : String → sk_I → sk_J → Prop) : sk_Q := fun r g I J => ∃ E : String, r = .inr E ∧ g = sk_gg ∧ K E I J
section SKQ
variable {Γ : sk_T} {M : sk_M} {mc ms pc : Nat} {L : List (Nat × Value)} {S : List Value} {I : sk_I} {J : sk_J} {kc kn : Nat} {Q : sk_Q} {g : sk_G}
theorem q_getI {q ci N j idx : Nat} (d : decode (sk_cc M) pc = .ok (.getfield idx, 3)) (hf : sk_fg (sk_own M) idx ci N j 0) (ho : g.2.1[q]? = some (0, ci, N)) (h : sk_W Γ M mc ms (pc + 3) L (.int (I q j) :: S) g I J kc kn Q) : sk_W Γ M mc ms pc L (.ref q :: S) g I J kc kn Q := by
  obtain ⟨C, T, h1, h2, h3, h4⟩ := hf
  exact sk_getI d ho h1 h2 h3 h4 h
theorem q_getJ {q ci N j idx : Nat} (d : decode (sk_cc M) pc = .ok (.getfield idx, 3)) (hf : sk_fg (sk_own M) idx ci N j 1) (ho : g.2.1[q]? = some (0, ci, N)) (h : sk_W Γ M mc ms (pc + 3) L (.long (J q j) :: S) g I J kc kn Q) : sk_W Γ M mc ms pc L (.ref q :: S) g I J kc kn Q := by
  obtain ⟨C, T, h1, h2, h3, h4⟩ := hf
  exact sk_getJ d ho h1 h2 h3 h4 h
theorem q_getR {q ci N j idx r : Nat} (d : decode (sk_cc M) pc = .ok (.getfield idx, 3)) (hf : sk_fg (sk_own M) idx ci N j 2) (ho : g.2.1[q]? = some (0, ci, N)) (hr : g.2.2 q j = some r) (h : sk_W Γ M mc ms (pc + 3) L (.ref r :: S) g I J kc kn Q) : sk_W Γ M mc ms pc L (.ref q :: S) g I J kc kn Q := by
  obtain ⟨C, T, h1, h2, h3, h4⟩ := hf
  exact sk_getR d ho h1 h2 h3 h4 hr h
theorem q_putI {q ci N j idx : Nat} {v : Int32} {fin : Bool} (d : decode (sk_cc M) pc = .ok (.putfield idx, 3)) (hf : sk_fp (sk_own M) idx ci N j 0 .int fin) (ho : g.2.1[q]? = some (0, ci, N)) (hi : fin = false ∨ (sk_y M).name = "<init>") (h : sk_W Γ M mc ms (pc + 3) L S g (sk_set I q (upd (I q) j v)) J kc kn Q) : sk_W Γ M mc ms pc L (.int v :: .ref q :: S) g I J kc kn Q := by
  obtain ⟨C, T, h1, h2, h3, h4, h5, h6, h7⟩ := hf
  refine sk_putI d ho h1 h2 h3 ?_ h5 h6 rfl rfl h
  cases fin
  · exact Or.inl h4
  · exact Or.inr ⟨h4, hi.resolve_left (by decide), h7⟩
theorem q_putZ {q ci N j idx : Nat} {v : Int32} {fin : Bool} (d : decode (sk_cc M) pc = .ok (.putfield idx, 3)) (hf : sk_fp (sk_own M) idx ci N j 0 .boolean fin) (ho : g.2.1[q]? = some (0, ci, N)) (hi : fin = false ∨ (sk_y M).name = "<init>") (hv : v = 0 ∨ v = 1) (h : sk_W Γ M mc ms (pc + 3) L S g (sk_set I q (upd (I q) j v)) J kc kn Q) : sk_W Γ M mc ms pc L (.int v :: .ref q :: S) g I J kc kn Q := by
  obtain ⟨C, T, h1, h2, h3, h4, h5, h6, h7⟩ := hf
  refine sk_putI d ho h1 h2 h3 ?_ h5 h6 (by rcases hv with rfl | rfl <;> rfl) (by rcases hv with rfl | rfl <;> rfl) h
  cases fin
  · exact Or.inl h4
  · exact Or.inr ⟨h4, hi.resolve_left (by decide), h7⟩
theorem q_zreturn {v : Int32} (d : decode (sk_cc M) pc = .ok (.ireturn, 1)) (hr : sk_ret M = some .boolean) (hv : v = 0 ∨ v = 1) (hk : kc ≤ mc) (hn : kn ≤ ms) (hq : Q (.inl (some (.int v))) g I J) : sk_W Γ M mc ms pc L [.int v] g I J kc kn Q :=
  sk_zreturn d hr (by rcases hv with rfl | rfl <;> rfl) hk hn hq
theorem q_zast {q n z : Nat} {i x : Int32} (d : decode (sk_cc M) pc = .ok (.bastore, 1)) (ho : g.2.1[q]? = some (2, n, z)) (hin : vp_in i n) (hx : x = 0 ∨ x = 1) (h : sk_W Γ M mc ms (pc + 1) L S g (sk_set I q (upd (I q) i.toNatClampNeg x)) J kc kn Q) : sk_W Γ M mc ms pc L (.int x :: .int i :: .ref q :: S) g I J kc kn Q :=
  sk_zast d ho hin (by rcases hx with rfl | rfl <;> rfl) h
theorem q_putJ {q ci N j idx : Nat} {v : Int64} {fin : Bool} (d : decode (sk_cc M) pc = .ok (.putfield idx, 3)) (hf : sk_fp (sk_own M) idx ci N j 1 .long fin) (ho : g.2.1[q]? = some (0, ci, N)) (hi : fin = false ∨ (sk_y M).name = "<init>") (h : sk_W Γ M mc ms (pc + 3) L S g I (sk_set J q (vp_updL (J q) j v)) kc kn Q) : sk_W Γ M mc ms pc L (.long v :: .ref q :: S) g I J kc kn Q := by
  obtain ⟨C, T, h1, h2, h3, h4, h5, h6, h7⟩ := hf
  refine sk_putJ d ho h1 h2 h3 ?_ h5 h6 h
  cases fin
  · exact Or.inl h4
  · exact Or.inr ⟨h4, hi.resolve_left (by decide), h7⟩
theorem q_putR {q ci N j idx r : Nat} {ty : FieldType} {fin : Bool} (d : decode (sk_cc M) pc = .ok (.putfield idx, 3)) (hf : sk_fp (sk_own M) idx ci N j 2 ty fin) (ho : g.2.1[q]? = some (0, ci, N)) (hi : fin = false ∨ (sk_y M).name = "<init>") (hn : ∀ a : Nat, narrow ty (.ref a) = .ref a) (hfit : ∀ a : Nat, fits ty (.ref a) = true)
    (h : sk_W Γ M mc ms (pc + 3) L S (g.1, g.2.1, sk_set g.2.2 q (sk_updR (g.2.2 q) j (some r))) I J kc kn Q) : sk_W Γ M mc ms pc L (.ref r :: .ref q :: S) g I J kc kn Q := by
  obtain ⟨C, T, h1, h2, h3, h4, h5, h6, h7⟩ := hf
  refine sk_putR d ho h1 h2 h3 ?_ h5 h6 hn hfit h
  cases fin
  · exact Or.inl h4
  · exact Or.inr ⟨h4, hi.resolve_left (by decide), h7⟩
theorem q_new {ci N idx : Nat} (d : decode (sk_cc M) pc = .ok (.new idx, 3)) (hn : sk_nwc (sk_own M) idx ci N) (hx : g.1 = true) (hlen : g.2.1.length < 900) (hI : ∀ j, I g.2.1.length j = 0) (hJ : ∀ j, J g.2.1.length j = 0) (hR : ∀ j, g.2.2 g.2.1.length j = none) (hf : kc + 1 ≤ mc ∧ kn + N ≤ ms)
    (h : sk_W Γ M mc ms (pc + 3) L (.ref g.2.1.length :: S) (true, g.2.1 ++ [(0, ci, N)], g.2.2) I J (kc + 1) (kn + N) Q) : sk_W Γ M mc ms pc L S g I J kc kn Q := by
  obtain ⟨C, T, h1, h2, h3, h4⟩ := hn
  exact sk_new d h1 h2 h3 h4 hx hlen hI hJ hR hf h
/-- a call that returns -/
theorem q_callV {M' : sk_M} {Q' : sk_Q} {q ci N idx na : Nat} {as S' : List Value} (d : decode (sk_cc M) pc = .ok (.invokevirtual idx, 3)) (hl : sk_lkV (sk_own M) idx M' na) (ho : sk_gg.2.1[q]? = some (0, ci, N)) (hc : ∃ T9, sk_cl[ci]? = some ((sk_y M').cls, T9, N)) (hna : as.length = na)
    (hR : sk_fr M' + 1 ≤ sk_fr M ∧ 8 + (sk_nl M' + 11) + sk_lo M' ≤ sk_lo M) (hcat : (S.map fun v => v.category).sum ≤ 8) (hst : as.reverse ++ .ref q :: S = S') (hk : kc ≤ mc) (hk' : kn ≤ ms)
    (hs : sk_S Γ M' 0 0 (.ref q :: as) sk_gg I J Q') (kk : ∀ (r : Option Value) (g' : sk_G) (I' : sk_I) (J' : sk_J), Q' (.inl r) g' I' J' → sk_W Γ M mc ms (pc + 3) L (r.toList ++ S) g' I' J' kc kn Q) (kx : ∀ (E : String) (g' : sk_G) (I' : sk_I) (J' : sk_J), ¬ Q' (.inr E) g' I' J') : sk_W Γ M mc ms pc L S' sk_gg I J kc kn Q := by
  obtain ⟨h1, h2, h3, h4, h5, h6, h7⟩ := hl
  obtain ⟨T9, hc⟩ := hc
  subst hna
  exact sk_callV d ho hc h1 h2 h3 h4 h5 h6 h7 hR ⟨hk, hk'⟩ hcat hst hs kk (fun E g' I' J' h => absurd h (kx E g' I' J'))
theorem q_callVi {M' : sk_M} {q ci N idx na : Nat} {as S' : List Value} (d : decode (sk_cc M) pc = .ok (.invokevirtual idx, 3)) (hl : sk_lkV (sk_own M) idx M' na) (ho : sk_gg.2.1[q]? = some (0, ci, N)) (hc : ∃ T9, sk_cl[ci]? = some ((sk_y M').cls, T9, N)) (hna : as.length = na)
    (hR : sk_fr M' + 1 ≤ sk_fr M ∧ 8 + (sk_nl M' + 11) + sk_lo M' ≤ sk_lo M) (hcat : (S.map fun v => v.category).sum ≤ 8) (hst : as.reverse ++ .ref q :: S = S') (hk : kc ≤ mc) (hk' : kn ≤ ms)
    (hs : sk_S Γ M' 0 0 (.ref q :: as) sk_gg I J (sk_Ki fun v I' J' => sk_W Γ M mc ms (pc + 3) L (.int v :: S) sk_gg I' J' kc kn Q)) : sk_W Γ M mc ms pc L S' sk_gg I J kc kn Q :=
  q_callV d hl ho hc hna hR hcat hst hk hk' hs (fun r g' I' J' h => by obtain ⟨v, h1, h2, h3⟩ := h; cases h1; subst h2; exact h3) (fun E g' I' J' h => by obtain ⟨v, h1, -⟩ := h; cases h1)
theorem q_callVl {M' : sk_M} {q ci N idx na : Nat} {as S' : List Value} (d : decode (sk_cc M) pc = .ok (.invokevirtual idx, 3)) (hl : sk_lkV (sk_own M) idx M' na) (ho : sk_gg.2.1[q]? = some (0, ci, N)) (hc : ∃ T9, sk_cl[ci]? = some ((sk_y M').cls, T9, N)) (hna : as.length = na)
    (hR : sk_fr M' + 1 ≤ sk_fr M ∧ 8 + (sk_nl M' + 11) + sk_lo M' ≤ sk_lo M) (hcat : (S.map fun v => v.category).sum ≤ 8) (hst : as.reverse ++ .ref q :: S = S') (hk : kc ≤ mc) (hk' : kn ≤ ms)
    (hs : sk_S Γ M' 0 0 (.ref q :: as) sk_gg I J (sk_Kl fun v I' J' => sk_W Γ M mc ms (pc + 3) L (.long v :: S) sk_gg I' J' kc kn Q)) : sk_W Γ M mc ms pc L S' sk_gg I J kc kn Q :=
  q_callV d hl ho hc hna hR hcat hst hk hk' hs (fun r g' I' J' h => by obtain ⟨v, h1, h2, h3⟩ := h; cases h1; subst h2; exact h3) (fun E g' I' J' h => by obtain ⟨v, h1, -⟩ := h; cases h1)
theorem q_callVv {M' : sk_M} {q ci N idx na : Nat} {as S' : List Value} (d : decode (sk_cc M) pc = .ok (.invokevirtual idx, 3)) (hl : sk_lkV (sk_own M) idx M' na) (ho : sk_gg.2.1[q]? = some (0, ci, N)) (hc : ∃ T9, sk_cl[ci]? = some ((sk_y M').cls, T9, N)) (hna : as.length = na)
    (hR : sk_fr M' + 1 ≤ sk_fr M ∧ 8 + (sk_nl M' + 11) + sk_lo M' ≤ sk_lo M) (hcat : (S.map fun v => v.category).sum ≤ 8) (hst : as.reverse ++ .ref q :: S = S') (hk : kc ≤ mc) (hk' : kn ≤ ms)
    (hs : sk_S Γ M' 0 0 (.ref q :: as) sk_gg I J (sk_Kv fun I' J' => sk_W Γ M mc ms (pc + 3) L S sk_gg I' J' kc kn Q)) : sk_W Γ M mc ms pc L S' sk_gg I J kc kn Q :=
  q_callV d hl ho hc hna hR hcat hst hk hk' hs (fun r g' I' J' h => by obtain ⟨h1, h2, h3⟩ := h; cases h1; subst h2; exact h3) (fun E g' I' J' h => by obtain ⟨h1, -⟩ := h; cases h1)
/-- a call that throws -/
theorem q_callVx {M' : sk_M} {q ci N idx na : Nat} {as S' : List Value} (d : decode (sk_cc M) pc = .ok (.invokevirtual idx, 3)) (hl : sk_lkV (sk_own M) idx M' na) (ho : sk_gg.2.1[q]? = some (0, ci, N)) (hc : ∃ T9, sk_cl[ci]? = some ((sk_y M').cls, T9, N)) (hna : as.length = na)
    (hR : sk_fr M' + 1 ≤ sk_fr M ∧ 8 + (sk_nl M' + 11) + sk_lo M' ≤ sk_lo M) (hcat : (S.map fun v => v.category).sum ≤ 8) (hst : as.reverse ++ .ref q :: S = S') (hk : kc + 1 ≤ mc ∧ kn + 6 ≤ ms)
    (hs : sk_S Γ M' 1 6 (.ref q :: as) sk_gg I J (sk_Kx fun E I' J' => sk_X Γ M mc ms pc L E sk_gg I' J' (kc + 1) (kn + 6) Q)) : sk_W Γ M mc ms pc L S' sk_gg I J kc kn Q := by
  obtain ⟨h1, h2, h3, h4, h5, h6, h7⟩ := hl
  obtain ⟨T9, hc⟩ := hc
  subst hna
  refine sk_callV d ho hc h1 h2 h3 h4 h5 h6 h7 hR hk hcat hst hs (fun r g' I' J' h => ?_) (fun E g' I' J' h => ?_)
  · obtain ⟨E, h1, -⟩ := h; cases h1
  · obtain ⟨E', h1, h2, h3⟩ := h; cases h1; subst h2; exact h3
theorem q_callSi {M' : sk_M} {idx na mc' ms' : Nat} {as S' : List Value} (d : decode (sk_cc M) pc = .ok (.invokestatic idx, 3)) (hl : sk_lkS (sk_own M) idx M' na) (hna : as.length = na)
    (hR : sk_fr M' + 1 ≤ sk_fr M ∧ 8 + (sk_nl M' + 11) + sk_lo M' ≤ sk_lo M) (hcat : (S.map fun v => v.category).sum ≤ 8) (hst : as.reverse ++ S = S') (hk : kc + mc' ≤ mc ∧ kn + ms' ≤ ms)
    (hs : sk_S Γ M' mc' ms' as sk_gg I J (sk_Ki fun v I' J' => sk_W Γ M mc ms (pc + 3) L (.int v :: S) sk_gg I' J' (kc + mc') (kn + ms') Q)) : sk_W Γ M mc ms pc L S' sk_gg I J kc kn Q := by
  obtain ⟨h1, h2, h3, h4, h7⟩ := hl
  subst hna
  refine sk_callS d h1 h2 h3 h4 h7 hR hk hcat hst hs (fun r g' I' J' h => ?_) (fun E g' I' J' h => ?_)
  · obtain ⟨v, h1, h2, h3⟩ := h; cases h1; subst h2; exact h3
  · obtain ⟨v, h1, -⟩ := h; cases h1
theorem q_callI {M' : sk_M} {mc' ms' : Nat} {Q' : sk_Q} {q idx na : Nat} {as S' : List Value} (d : decode (sk_cc M) pc = .ok (.invokespecial idx, 3)) (hl : sk_lkI (sk_own M) idx M' na) (hna : as.length = na)
    (hR : sk_fr M' + 1 ≤ sk_fr M ∧ 8 + (sk_nl M' + 11) + sk_lo M' ≤ sk_lo M) (hf : kc + mc' ≤ mc ∧ kn + ms' ≤ ms) (hcat : (S.map fun v => v.category).sum ≤ 8) (hst : as.reverse ++ .ref q :: S = S')
    (hs : sk_S Γ M' mc' ms' (.ref q :: as) g I J Q') (kk : ∀ (r : Option Value) (g' : sk_G) (I' : sk_I) (J' : sk_J), Q' (.inl r) g' I' J' → sk_W Γ M mc ms (pc + 3) L (r.toList ++ S) g' I' J' (kc + mc') (kn + ms') Q) (kx : ∀ (E : String) (g' : sk_G) (I' : sk_I) (J' : sk_J), ¬ Q' (.inr E) g' I' J') : sk_W Γ M mc ms pc L S' g I J kc kn Q := by
  obtain ⟨h1, h2, h3, h4, h5, h6, h8, h7⟩ := hl
  subst hna
  exact sk_callI d h1 h2 h3 h4 h5 h6 h8 h7 hR hf hcat hst hs kk (fun E g' I' J' h => absurd h (kx E g' I' J'))
theorem q_throw {ik is ic i : Nat} {cls : String} (d0 : decode (sk_cc M) pc = .ok (.new ik, 3)) (d3 : decode (sk_cc M) (pc + 3) = .ok (.dup, 1)) (d4 : decode (sk_cc M) (pc + 4) = .ok (.ldc is, 2)) (d6 : decode (sk_cc M) (pc + 6) = .ok (.invokespecial ic, 3)) (d9 : decode (sk_cc M) (pc + 9) = .ok (.athrow, 1))
    (hown : sk_own M = "StuckLines") (ht : sk_th ik is ic i cls) (htb : sk_tab M = []) (hR : 6 ≤ sk_fr M ∧ 90 ≤ sk_lo M) (hcat : (S.map fun v => v.category).sum ≤ 8) (hf : kc + 1 ≤ mc ∧ kn + 6 ≤ ms) (hq : Q (.inr cls) sk_gg I J) : sk_W Γ M mc ms pc L S sk_gg I J kc kn Q := by
  obtain ⟨h1, h2, h3, text, h4, h5⟩ := ht
  exact sk_throwS d0 d3 d4 d6 d9 hown h1 (by rw [hown]; exact h2) h3 h4 (by rw [hown]; exact h5) htb hR hcat hf hq
theorem q_cvi {x y : Int32} (e : x = y) (h : sk_W Γ M mc ms pc L (.int y :: S) g I J kc kn Q) : sk_W Γ M mc ms pc L (.int x :: S) g I J kc kn Q := e ▸ h
theorem q_cvl {x y : Int64} (e : x = y) (h : sk_W Γ M mc ms pc L (.long y :: S) g I J kc kn Q) : sk_W Γ M mc ms pc L (.long x :: S) g I J kc kn Q := e ▸ h
end SKQ
end
section
/-! words of the tables, by their places -/
theorem sw_26 : (.instanceMethod ⟨"StuckLines$Circuit", "<init>", "()V"⟩ : Cond) ∈ sk_ts := sk_in (List.mem_of_getElem? (i := 26) (by decide +kernel)) rfl
theorem sw_2 : (.initialized "StuckLines$Circuit" : Cond) ∈ sk_ts := sk_in (List.mem_of_getElem? (i := 2) (by decide +kernel)) rfl
theorem sw_27 : (.code ⟨"StuckLines$Circuit", "<init>", "()V"⟩ prog_2_method_1_code 1 none : Cond) ∈ sk_ts := sk_in (List.mem_of_getElem? (i := 27) (by decide +kernel)) rfl
theorem sw_98 : (.methodLink "StuckLines" 18 ⟨"StuckLines$Signals", "<init>", "(LStuckLines$Circuit;)V"⟩ : Cond) ∈ sk_ts := sk_in (List.mem_of_getElem? (i := 98) (by decide +kernel)) rfl
theorem sw_99 : (.instanceMethod ⟨"StuckLines$Signals", "<init>", "(LStuckLines$Circuit;)V"⟩ : Cond) ∈ sk_ts := sk_in (List.mem_of_getElem? (i := 99) (by decide +kernel)) rfl
theorem sw_3 : (.initialized "StuckLines$Signals" : Cond) ∈ sk_ts := sk_in (List.mem_of_getElem? (i := 3) (by decide +kernel)) rfl
theorem sw_100 : (.code ⟨"StuckLines$Signals", "<init>", "(LStuckLines$Circuit;)V"⟩ prog_7_method_1_code 2 none : Cond) ∈ sk_ts := sk_in (List.mem_of_getElem? (i := 100) (by decide +kernel)) rfl
theorem sw_127 : (.methodLink "StuckLines" 27 ⟨"StuckLines$Responses", "<init>", "(LStuckLines$Circuit;)V"⟩ : Cond) ∈ sk_ts := sk_in (List.mem_of_getElem? (i := 127) (by decide +kernel)) rfl
theorem sw_128 : (.instanceMethod ⟨"StuckLines$Responses", "<init>", "(LStuckLines$Circuit;)V"⟩ : Cond) ∈ sk_ts := sk_in (List.mem_of_getElem? (i := 128) (by decide +kernel)) rfl
theorem sw_4 : (.initialized "StuckLines$Responses" : Cond) ∈ sk_ts := sk_in (List.mem_of_getElem? (i := 4) (by decide +kernel)) rfl
theorem sw_129 : (.code ⟨"StuckLines$Responses", "<init>", "(LStuckLines$Circuit;)V"⟩ prog_5_method_1_code 2 none : Cond) ∈ sk_ts := sk_in (List.mem_of_getElem? (i := 129) (by decide +kernel)) rfl
theorem sw_151 : (.methodLink "StuckLines" 34 ⟨"StuckLines$Cubes", "<init>", "(LStuckLines$Circuit;)V"⟩ : Cond) ∈ sk_ts := sk_in (List.mem_of_getElem? (i := 151) (by decide +kernel)) rfl
theorem sw_152 : (.instanceMethod ⟨"StuckLines$Cubes", "<init>", "(LStuckLines$Circuit;)V"⟩ : Cond) ∈ sk_ts := sk_in (List.mem_of_getElem? (i := 152) (by decide +kernel)) rfl
theorem sw_5 : (.initialized "StuckLines$Cubes" : Cond) ∈ sk_ts := sk_in (List.mem_of_getElem? (i := 5) (by decide +kernel)) rfl
theorem sw_153 : (.code ⟨"StuckLines$Cubes", "<init>", "(LStuckLines$Circuit;)V"⟩ prog_3_method_1_code 2 none : Cond) ∈ sk_ts := sk_in (List.mem_of_getElem? (i := 153) (by decide +kernel)) rfl
theorem sw_169 : (.methodLink "StuckLines" 41 ⟨"StuckLines$PackedSet", "<init>", "(LStuckLines$Circuit;LStuckLines$Responses;)V"⟩ : Cond) ∈ sk_ts := sk_in (List.mem_of_getElem? (i := 169) (by decide +kernel)) rfl
theorem sw_170 : (.instanceMethod ⟨"StuckLines$PackedSet", "<init>", "(LStuckLines$Circuit;LStuckLines$Responses;)V"⟩ : Cond) ∈ sk_ts := sk_in (List.mem_of_getElem? (i := 170) (by decide +kernel)) rfl
theorem sw_6 : (.initialized "StuckLines$PackedSet" : Cond) ∈ sk_ts := sk_in (List.mem_of_getElem? (i := 6) (by decide +kernel)) rfl
theorem sw_171 : (.code ⟨"StuckLines$PackedSet", "<init>", "(LStuckLines$Circuit;LStuckLines$Responses;)V"⟩ prog_4_method_1_code 3 none : Cond) ∈ sk_ts := sk_in (List.mem_of_getElem? (i := 171) (by decide +kernel)) rfl
theorem sw_194 : (.methodLink "StuckLines" 50 ⟨"StuckLines$SeenLog", "<init>", "(LStuckLines$Responses;)V"⟩ : Cond) ∈ sk_ts := sk_in (List.mem_of_getElem? (i := 194) (by decide +kernel)) rfl
theorem sw_195 : (.instanceMethod ⟨"StuckLines$SeenLog", "<init>", "(LStuckLines$Responses;)V"⟩ : Cond) ∈ sk_ts := sk_in (List.mem_of_getElem? (i := 195) (by decide +kernel)) rfl
theorem sw_7 : (.initialized "StuckLines$SeenLog" : Cond) ∈ sk_ts := sk_in (List.mem_of_getElem? (i := 7) (by decide +kernel)) rfl
theorem sw_196 : (.code ⟨"StuckLines$SeenLog", "<init>", "(LStuckLines$Responses;)V"⟩ prog_6_method_1_code 2 none : Cond) ∈ sk_ts := sk_in (List.mem_of_getElem? (i := 196) (by decide +kernel)) rfl
theorem sw_132 : (.methodLink "StuckLines$Responses" 28 ⟨"StuckLines$Signals", "<init>", "(LStuckLines$Circuit;)V"⟩ : Cond) ∈ sk_ts := sk_in (List.mem_of_getElem? (i := 132) (by decide +kernel)) rfl
theorem sw_156 : (.methodLink "StuckLines$Cubes" 17 ⟨"StuckLines$Signals", "<init>", "(LStuckLines$Circuit;)V"⟩ : Cond) ∈ sk_ts := sk_in (List.mem_of_getElem? (i := 156) (by decide +kernel)) rfl
theorem sw_235 : (.methodLink "StuckLines" 57 ⟨"StuckLines$Circuit", "removeAll", "()V"⟩ : Cond) ∈ sk_ts := sk_in (List.mem_of_getElem? (i := 235) (by decide +kernel)) rfl
theorem sw_236 : (.instanceMethod ⟨"StuckLines$Circuit", "removeAll", "()V"⟩ : Cond) ∈ sk_ts := sk_in (List.mem_of_getElem? (i := 236) (by decide +kernel)) rfl
theorem sw_237 : (.selects "StuckLines$Circuit" ⟨"StuckLines$Circuit", "removeAll", "()V"⟩ ⟨"StuckLines$Circuit", "removeAll", "()V"⟩ : Cond) ∈ sk_ts := sk_in (List.mem_of_getElem? (i := 237) (by decide +kernel)) rfl
theorem sw_238 : (.code ⟨"StuckLines$Circuit", "removeAll", "()V"⟩ prog_2_method_2_code 1 none : Cond) ∈ sk_ts := sk_in (List.mem_of_getElem? (i := 238) (by decide +kernel)) rfl
theorem sw_239 : (.methodLink "StuckLines" 60 ⟨"StuckLines$SeenLog", "removeAll", "()V"⟩ : Cond) ∈ sk_ts := sk_in (List.mem_of_getElem? (i := 239) (by decide +kernel)) rfl
theorem sw_240 : (.instanceMethod ⟨"StuckLines$SeenLog", "removeAll", "()V"⟩ : Cond) ∈ sk_ts := sk_in (List.mem_of_getElem? (i := 240) (by decide +kernel)) rfl
theorem sw_241 : (.selects "StuckLines$SeenLog" ⟨"StuckLines$SeenLog", "removeAll", "()V"⟩ ⟨"StuckLines$SeenLog", "removeAll", "()V"⟩ : Cond) ∈ sk_ts := sk_in (List.mem_of_getElem? (i := 241) (by decide +kernel)) rfl
theorem sw_242 : (.code ⟨"StuckLines$SeenLog", "removeAll", "()V"⟩ prog_6_method_3_code 1 none : Cond) ∈ sk_ts := sk_in (List.mem_of_getElem? (i := 242) (by decide +kernel)) rfl
theorem sw_247 : (.methodLink "StuckLines" 159 ⟨"StuckLines$Circuit", "hasLine", "(I)Z"⟩ : Cond) ∈ sk_ts := sk_in (List.mem_of_getElem? (i := 247) (by decide +kernel)) rfl
theorem sw_248 : (.instanceMethod ⟨"StuckLines$Circuit", "hasLine", "(I)Z"⟩ : Cond) ∈ sk_ts := sk_in (List.mem_of_getElem? (i := 248) (by decide +kernel)) rfl
theorem sw_249 : (.selects "StuckLines$Circuit" ⟨"StuckLines$Circuit", "hasLine", "(I)Z"⟩ ⟨"StuckLines$Circuit", "hasLine", "(I)Z"⟩ : Cond) ∈ sk_ts := sk_in (List.mem_of_getElem? (i := 249) (by decide +kernel)) rfl
theorem sw_250 : (.code ⟨"StuckLines$Circuit", "hasLine", "(I)Z"⟩ prog_2_method_12_code 2 (some .boolean) : Cond) ∈ sk_ts := sk_in (List.mem_of_getElem? (i := 250) (by decide +kernel)) rfl
theorem sw_251 : (.methodLink "StuckLines" 162 ⟨"StuckLines$Circuit", "pinsOf", "(I)I"⟩ : Cond) ∈ sk_ts := sk_in (List.mem_of_getElem? (i := 251) (by decide +kernel)) rfl
theorem sw_252 : (.instanceMethod ⟨"StuckLines$Circuit", "pinsOf", "(I)I"⟩ : Cond) ∈ sk_ts := sk_in (List.mem_of_getElem? (i := 252) (by decide +kernel)) rfl
theorem sw_253 : (.selects "StuckLines$Circuit" ⟨"StuckLines$Circuit", "pinsOf", "(I)I"⟩ ⟨"StuckLines$Circuit", "pinsOf", "(I)I"⟩ : Cond) ∈ sk_ts := sk_in (List.mem_of_getElem? (i := 253) (by decide +kernel)) rfl
theorem sw_254 : (.code ⟨"StuckLines$Circuit", "pinsOf", "(I)I"⟩ prog_2_method_13_code 2 (some .int) : Cond) ∈ sk_ts := sk_in (List.mem_of_getElem? (i := 254) (by decide +kernel)) rfl
theorem sw_259 : (.methodLink "StuckLines" 129 ⟨"StuckLines$Responses", "prepareAll", "()V"⟩ : Cond) ∈ sk_ts := sk_in (List.mem_of_getElem? (i := 259) (by decide +kernel)) rfl
theorem sw_260 : (.instanceMethod ⟨"StuckLines$Responses", "prepareAll", "()V"⟩ : Cond) ∈ sk_ts := sk_in (List.mem_of_getElem? (i := 260) (by decide +kernel)) rfl
theorem sw_261 : (.selects "StuckLines$Responses" ⟨"StuckLines$Responses", "prepareAll", "()V"⟩ ⟨"StuckLines$Responses", "prepareAll", "()V"⟩ : Cond) ∈ sk_ts := sk_in (List.mem_of_getElem? (i := 261) (by decide +kernel)) rfl
theorem sw_262 : (.code ⟨"StuckLines$Responses", "prepareAll", "()V"⟩ prog_5_method_2_code 2 none : Cond) ∈ sk_ts := sk_in (List.mem_of_getElem? (i := 262) (by decide +kernel)) rfl
theorem sw_303 : (.methodLink "StuckLines" 207 ⟨"StuckLines$PackedSet", "at", "(I)I"⟩ : Cond) ∈ sk_ts := sk_in (List.mem_of_getElem? (i := 303) (by decide +kernel)) rfl
theorem sw_304 : (.instanceMethod ⟨"StuckLines$PackedSet", "at", "(I)I"⟩ : Cond) ∈ sk_ts := sk_in (List.mem_of_getElem? (i := 304) (by decide +kernel)) rfl
theorem sw_305 : (.selects "StuckLines$PackedSet" ⟨"StuckLines$PackedSet", "at", "(I)I"⟩ ⟨"StuckLines$PackedSet", "at", "(I)I"⟩ : Cond) ∈ sk_ts := sk_in (List.mem_of_getElem? (i := 305) (by decide +kernel)) rfl
theorem sw_306 : (.code ⟨"StuckLines$PackedSet", "at", "(I)I"⟩ prog_4_method_2_code 2 (some .int) : Cond) ∈ sk_ts := sk_in (List.mem_of_getElem? (i := 306) (by decide +kernel)) rfl
theorem sw_263 : (.methodLink "StuckLines$Responses" 35 ⟨"StuckLines$Circuit", "faults", "()I"⟩ : Cond) ∈ sk_ts := sk_in (List.mem_of_getElem? (i := 263) (by decide +kernel)) rfl
theorem sw_264 : (.instanceMethod ⟨"StuckLines$Circuit", "faults", "()I"⟩ : Cond) ∈ sk_ts := sk_in (List.mem_of_getElem? (i := 264) (by decide +kernel)) rfl
theorem sw_265 : (.selects "StuckLines$Circuit" ⟨"StuckLines$Circuit", "faults", "()I"⟩ ⟨"StuckLines$Circuit", "faults", "()I"⟩ : Cond) ∈ sk_ts := sk_in (List.mem_of_getElem? (i := 265) (by decide +kernel)) rfl
theorem sw_266 : (.code ⟨"StuckLines$Circuit", "faults", "()I"⟩ prog_2_method_16_code 1 (some .int) : Cond) ∈ sk_ts := sk_in (List.mem_of_getElem? (i := 266) (by decide +kernel)) rfl
theorem sw_267 : (.methodLink "StuckLines$Responses" 41 ⟨"StuckLines$Responses", "workOut", "(I)V"⟩ : Cond) ∈ sk_ts := sk_in (List.mem_of_getElem? (i := 267) (by decide +kernel)) rfl
theorem sw_269 : (.instanceMethod ⟨"StuckLines$Responses", "workOut", "(I)V"⟩ : Cond) ∈ sk_ts := sk_in (List.mem_of_getElem? (i := 269) (by decide +kernel)) rfl
theorem sv_0 : (.selects "StuckLines$Responses" ⟨"StuckLines$Responses", "workOut", "(I)V"⟩ ⟨"StuckLines$Responses", "workOut", "(I)V"⟩ : Cond) ∈ sk_ts := sk_inp (q := (⟨"StuckLines$Responses", "workOut", "(I)V"⟩, 5)) (List.mem_of_getElem? (i := 0) (by decide +kernel)) rfl
theorem sw_270 : (.code ⟨"StuckLines$Responses", "workOut", "(I)V"⟩ prog_5_method_4_code 10 none : Cond) ∈ sk_ts := sk_in (List.mem_of_getElem? (i := 270) (by decide +kernel)) rfl
theorem sw_272 : (.methodLink "StuckLines$Responses" 51 ⟨"StuckLines$Circuit", "vectors", "()I"⟩ : Cond) ∈ sk_ts := sk_in (List.mem_of_getElem? (i := 272) (by decide +kernel)) rfl
theorem sw_273 : (.instanceMethod ⟨"StuckLines$Circuit", "vectors", "()I"⟩ : Cond) ∈ sk_ts := sk_in (List.mem_of_getElem? (i := 273) (by decide +kernel)) rfl
theorem sw_274 : (.selects "StuckLines$Circuit" ⟨"StuckLines$Circuit", "vectors", "()I"⟩ ⟨"StuckLines$Circuit", "vectors", "()I"⟩ : Cond) ∈ sk_ts := sk_in (List.mem_of_getElem? (i := 274) (by decide +kernel)) rfl
theorem sw_275 : (.code ⟨"StuckLines$Circuit", "vectors", "()I"⟩ prog_2_method_14_code 1 (some .int) : Cond) ∈ sk_ts := sk_in (List.mem_of_getElem? (i := 275) (by decide +kernel)) rfl
theorem sw_276 : (.methodLink "StuckLines$Responses" 54 ⟨"StuckLines$Signals", "settleVectors", "(I)V"⟩ : Cond) ∈ sk_ts := sk_in (List.mem_of_getElem? (i := 276) (by decide +kernel)) rfl
theorem sw_277 : (.instanceMethod ⟨"StuckLines$Signals", "settleVectors", "(I)V"⟩ : Cond) ∈ sk_ts := sk_in (List.mem_of_getElem? (i := 277) (by decide +kernel)) rfl
theorem sw_278 : (.selects "StuckLines$Signals" ⟨"StuckLines$Signals", "settleVectors", "(I)V"⟩ ⟨"StuckLines$Signals", "settleVectors", "(I)V"⟩ : Cond) ∈ sk_ts := sk_in (List.mem_of_getElem? (i := 278) (by decide +kernel)) rfl
theorem sw_279 : (.code ⟨"StuckLines$Signals", "settleVectors", "(I)V"⟩ prog_7_method_2_code 3 none : Cond) ∈ sk_ts := sk_in (List.mem_of_getElem? (i := 279) (by decide +kernel)) rfl
theorem sw_299 : (.methodLink "StuckLines$Responses" 63 ⟨"StuckLines$Signals", "onesOf", "(I)J"⟩ : Cond) ∈ sk_ts := sk_in (List.mem_of_getElem? (i := 299) (by decide +kernel)) rfl
theorem sw_300 : (.instanceMethod ⟨"StuckLines$Signals", "onesOf", "(I)J"⟩ : Cond) ∈ sk_ts := sk_in (List.mem_of_getElem? (i := 300) (by decide +kernel)) rfl
theorem sw_301 : (.selects "StuckLines$Signals" ⟨"StuckLines$Signals", "onesOf", "(I)J"⟩ ⟨"StuckLines$Signals", "onesOf", "(I)J"⟩ : Cond) ∈ sk_ts := sk_in (List.mem_of_getElem? (i := 301) (by decide +kernel)) rfl
theorem sw_302 : (.code ⟨"StuckLines$Signals", "onesOf", "(I)J"⟩ prog_7_method_7_code 2 (some .long) : Cond) ∈ sk_ts := sk_in (List.mem_of_getElem? (i := 302) (by decide +kernel)) rfl
theorem sw_283 : (.methodLink "StuckLines$Signals" 41 ⟨"StuckLines$Signals", "settle", "(I)V"⟩ : Cond) ∈ sk_ts := sk_in (List.mem_of_getElem? (i := 283) (by decide +kernel)) rfl
theorem sw_285 : (.instanceMethod ⟨"StuckLines$Signals", "settle", "(I)V"⟩ : Cond) ∈ sk_ts := sk_in (List.mem_of_getElem? (i := 285) (by decide +kernel)) rfl
theorem sv_1 : (.selects "StuckLines$Signals" ⟨"StuckLines$Signals", "settle", "(I)V"⟩ ⟨"StuckLines$Signals", "settle", "(I)V"⟩ : Cond) ∈ sk_ts := sk_inp (q := (⟨"StuckLines$Signals", "settle", "(I)V"⟩, 7)) (List.mem_of_getElem? (i := 1) (by decide +kernel)) rfl
theorem sw_286 : (.code ⟨"StuckLines$Signals", "settle", "(I)V"⟩ prog_7_method_4_code 4 none : Cond) ∈ sk_ts := sk_in (List.mem_of_getElem? (i := 286) (by decide +kernel)) rfl
theorem sw_287 : (.methodLink "StuckLines$Signals" 45 ⟨"StuckLines$Circuit", "stuckLine", "(I)I"⟩ : Cond) ∈ sk_ts := sk_in (List.mem_of_getElem? (i := 287) (by decide +kernel)) rfl
theorem sw_288 : (.instanceMethod ⟨"StuckLines$Circuit", "stuckLine", "(I)I"⟩ : Cond) ∈ sk_ts := sk_in (List.mem_of_getElem? (i := 288) (by decide +kernel)) rfl
theorem sw_289 : (.selects "StuckLines$Circuit" ⟨"StuckLines$Circuit", "stuckLine", "(I)I"⟩ ⟨"StuckLines$Circuit", "stuckLine", "(I)I"⟩ : Cond) ∈ sk_ts := sk_in (List.mem_of_getElem? (i := 289) (by decide +kernel)) rfl
theorem sw_290 : (.code ⟨"StuckLines$Circuit", "stuckLine", "(I)I"⟩ prog_2_method_17_code 3 (some .int) : Cond) ∈ sk_ts := sk_in (List.mem_of_getElem? (i := 290) (by decide +kernel)) rfl
theorem sw_291 : (.methodLink "StuckLines$Signals" 51 ⟨"StuckLines$Circuit", "stuckPin", "(I)I"⟩ : Cond) ∈ sk_ts := sk_in (List.mem_of_getElem? (i := 291) (by decide +kernel)) rfl
theorem sw_292 : (.instanceMethod ⟨"StuckLines$Circuit", "stuckPin", "(I)I"⟩ : Cond) ∈ sk_ts := sk_in (List.mem_of_getElem? (i := 292) (by decide +kernel)) rfl
theorem sw_293 : (.selects "StuckLines$Circuit" ⟨"StuckLines$Circuit", "stuckPin", "(I)I"⟩ ⟨"StuckLines$Circuit", "stuckPin", "(I)I"⟩ : Cond) ∈ sk_ts := sk_in (List.mem_of_getElem? (i := 293) (by decide +kernel)) rfl
theorem sw_294 : (.code ⟨"StuckLines$Circuit", "stuckPin", "(I)I"⟩ prog_2_method_18_code 3 (some .int) : Cond) ∈ sk_ts := sk_in (List.mem_of_getElem? (i := 294) (by decide +kernel)) rfl
theorem sw_295 : (.methodLink "StuckLines$Signals" 63 ⟨"StuckLines$Signals", "settleGate", "(I)V"⟩ : Cond) ∈ sk_ts := sk_in (List.mem_of_getElem? (i := 295) (by decide +kernel)) rfl
theorem sw_297 : (.instanceMethod ⟨"StuckLines$Signals", "settleGate", "(I)V"⟩ : Cond) ∈ sk_ts := sk_in (List.mem_of_getElem? (i := 297) (by decide +kernel)) rfl
theorem sv_2 : (.selects "StuckLines$Signals" ⟨"StuckLines$Signals", "settleGate", "(I)V"⟩ ⟨"StuckLines$Signals", "settleGate", "(I)V"⟩ : Cond) ∈ sk_ts := sk_inp (q := (⟨"StuckLines$Signals", "settleGate", "(I)V"⟩, 7)) (List.mem_of_getElem? (i := 2) (by decide +kernel)) rfl
theorem sw_298 : (.code ⟨"StuckLines$Signals", "settleGate", "(I)V"⟩ prog_7_method_5_code 16 none : Cond) ∈ sk_ts := sk_in (List.mem_of_getElem? (i := 298) (by decide +kernel)) rfl
theorem sw_307 : (.methodLink "StuckLines$PackedSet" 37 ⟨"StuckLines$PackedSet", "gather", "()V"⟩ : Cond) ∈ sk_ts := sk_in (List.mem_of_getElem? (i := 307) (by decide +kernel)) rfl
theorem sw_309 : (.instanceMethod ⟨"StuckLines$PackedSet", "gather", "()V"⟩ : Cond) ∈ sk_ts := sk_in (List.mem_of_getElem? (i := 309) (by decide +kernel)) rfl
theorem sv_3 : (.selects "StuckLines$PackedSet" ⟨"StuckLines$PackedSet", "gather", "()V"⟩ ⟨"StuckLines$PackedSet", "gather", "()V"⟩ : Cond) ∈ sk_ts := sk_inp (q := (⟨"StuckLines$PackedSet", "gather", "()V"⟩, 6)) (List.mem_of_getElem? (i := 3) (by decide +kernel)) rfl
theorem sw_310 : (.code ⟨"StuckLines$PackedSet", "gather", "()V"⟩ prog_4_method_3_code 3 none : Cond) ∈ sk_ts := sk_in (List.mem_of_getElem? (i := 310) (by decide +kernel)) rfl
theorem sw_321 : (.methodLink "StuckLines$PackedSet" 40 ⟨"StuckLines$PackedSet", "thinOut", "()V"⟩ : Cond) ∈ sk_ts := sk_in (List.mem_of_getElem? (i := 321) (by decide +kernel)) rfl
theorem sw_323 : (.instanceMethod ⟨"StuckLines$PackedSet", "thinOut", "()V"⟩ : Cond) ∈ sk_ts := sk_in (List.mem_of_getElem? (i := 323) (by decide +kernel)) rfl
theorem sv_4 : (.selects "StuckLines$PackedSet" ⟨"StuckLines$PackedSet", "thinOut", "()V"⟩ ⟨"StuckLines$PackedSet", "thinOut", "()V"⟩ : Cond) ∈ sk_ts := sk_inp (q := (⟨"StuckLines$PackedSet", "thinOut", "()V"⟩, 6)) (List.mem_of_getElem? (i := 4) (by decide +kernel)) rfl
theorem sw_324 : (.code ⟨"StuckLines$PackedSet", "thinOut", "()V"⟩ prog_4_method_4_code 4 none : Cond) ∈ sk_ts := sk_in (List.mem_of_getElem? (i := 324) (by decide +kernel)) rfl
theorem sw_330 : (.methodLink "StuckLines$PackedSet" 43 ⟨"StuckLines$PackedSet", "dropTheLeftOut", "()V"⟩ : Cond) ∈ sk_ts := sk_in (List.mem_of_getElem? (i := 330) (by decide +kernel)) rfl
theorem sw_332 : (.instanceMethod ⟨"StuckLines$PackedSet", "dropTheLeftOut", "()V"⟩ : Cond) ∈ sk_ts := sk_in (List.mem_of_getElem? (i := 332) (by decide +kernel)) rfl
theorem sv_6 : (.selects "StuckLines$PackedSet" ⟨"StuckLines$PackedSet", "dropTheLeftOut", "()V"⟩ ⟨"StuckLines$PackedSet", "dropTheLeftOut", "()V"⟩ : Cond) ∈ sk_ts := sk_inp (q := (⟨"StuckLines$PackedSet", "dropTheLeftOut", "()V"⟩, 6)) (List.mem_of_getElem? (i := 6) (by decide +kernel)) rfl
theorem sw_333 : (.code ⟨"StuckLines$PackedSet", "dropTheLeftOut", "()V"⟩ prog_4_method_6_code 3 none : Cond) ∈ sk_ts := sk_in (List.mem_of_getElem? (i := 333) (by decide +kernel)) rfl
theorem sw_311 : (.methodLink "StuckLines$PackedSet" 46 ⟨"StuckLines$Circuit", "faults", "()I"⟩ : Cond) ∈ sk_ts := sk_in (List.mem_of_getElem? (i := 311) (by decide +kernel)) rfl
theorem sw_312 : (.methodLink "StuckLines$PackedSet" 50 ⟨"StuckLines$Responses", "firstShowing", "(I)I"⟩ : Cond) ∈ sk_ts := sk_in (List.mem_of_getElem? (i := 312) (by decide +kernel)) rfl
theorem sw_313 : (.instanceMethod ⟨"StuckLines$Responses", "firstShowing", "(I)I"⟩ : Cond) ∈ sk_ts := sk_in (List.mem_of_getElem? (i := 313) (by decide +kernel)) rfl
theorem sw_314 : (.selects "StuckLines$Responses" ⟨"StuckLines$Responses", "firstShowing", "(I)I"⟩ ⟨"StuckLines$Responses", "firstShowing", "(I)I"⟩ : Cond) ∈ sk_ts := sk_in (List.mem_of_getElem? (i := 314) (by decide +kernel)) rfl
theorem sw_315 : (.code ⟨"StuckLines$Responses", "firstShowing", "(I)I"⟩ prog_5_method_7_code 5 (some .int) : Cond) ∈ sk_ts := sk_in (List.mem_of_getElem? (i := 315) (by decide +kernel)) rfl
theorem sw_320 : (.methodLink "StuckLines$PackedSet" 56 ⟨"StuckLines$Responses", "vectorsShowing", "(I)J"⟩ : Cond) ∈ sk_ts := sk_in (List.mem_of_getElem? (i := 320) (by decide +kernel)) rfl
theorem sw_317 : (.instanceMethod ⟨"StuckLines$Responses", "vectorsShowing", "(I)J"⟩ : Cond) ∈ sk_ts := sk_in (List.mem_of_getElem? (i := 317) (by decide +kernel)) rfl
theorem sw_318 : (.selects "StuckLines$Responses" ⟨"StuckLines$Responses", "vectorsShowing", "(I)J"⟩ ⟨"StuckLines$Responses", "vectorsShowing", "(I)J"⟩ : Cond) ∈ sk_ts := sk_in (List.mem_of_getElem? (i := 318) (by decide +kernel)) rfl
theorem sw_319 : (.code ⟨"StuckLines$Responses", "vectorsShowing", "(I)J"⟩ prog_5_method_6_code 2 (some .long) : Cond) ∈ sk_ts := sk_in (List.mem_of_getElem? (i := 319) (by decide +kernel)) rfl
theorem sw_316 : (.methodLink "StuckLines$Responses" 67 ⟨"StuckLines$Responses", "vectorsShowing", "(I)J"⟩ : Cond) ∈ sk_ts := sk_in (List.mem_of_getElem? (i := 316) (by decide +kernel)) rfl
theorem sw_326 : (.methodLink "StuckLines$PackedSet" 62 ⟨"StuckLines$PackedSet", "showAll", "(J)Z"⟩ : Cond) ∈ sk_ts := sk_in (List.mem_of_getElem? (i := 326) (by decide +kernel)) rfl
theorem sw_328 : (.instanceMethod ⟨"StuckLines$PackedSet", "showAll", "(J)Z"⟩ : Cond) ∈ sk_ts := sk_in (List.mem_of_getElem? (i := 328) (by decide +kernel)) rfl
theorem sv_5 : (.selects "StuckLines$PackedSet" ⟨"StuckLines$PackedSet", "showAll", "(J)Z"⟩ ⟨"StuckLines$PackedSet", "showAll", "(J)Z"⟩ : Cond) ∈ sk_ts := sk_inp (q := (⟨"StuckLines$PackedSet", "showAll", "(J)Z"⟩, 6)) (List.mem_of_getElem? (i := 5) (by decide +kernel)) rfl
theorem sw_329 : (.code ⟨"StuckLines$PackedSet", "showAll", "(J)Z"⟩ prog_4_method_5_code 6 (some .boolean) : Cond) ∈ sk_ts := sk_in (List.mem_of_getElem? (i := 329) (by decide +kernel)) rfl
theorem sw_342 : (.methodLink "StuckLines" 153 ⟨"StuckLines$Responses", "prepare", "(I)V"⟩ : Cond) ∈ sk_ts := sk_in (List.mem_of_getElem? (i := 342) (by decide +kernel)) rfl
theorem sw_343 : (.instanceMethod ⟨"StuckLines$Responses", "prepare", "(I)V"⟩ : Cond) ∈ sk_ts := sk_in (List.mem_of_getElem? (i := 343) (by decide +kernel)) rfl
theorem sw_344 : (.selects "StuckLines$Responses" ⟨"StuckLines$Responses", "prepare", "(I)V"⟩ ⟨"StuckLines$Responses", "prepare", "(I)V"⟩ : Cond) ∈ sk_ts := sk_in (List.mem_of_getElem? (i := 344) (by decide +kernel)) rfl
theorem sw_345 : (.code ⟨"StuckLines$Responses", "prepare", "(I)V"⟩ prog_5_method_3_code 2 none : Cond) ∈ sk_ts := sk_in (List.mem_of_getElem? (i := 345) (by decide +kernel)) rfl
theorem sw_346 : (.methodLink "StuckLines" 220 ⟨"StuckLines$SeenLog", "isExplainedBy", "(I)Z"⟩ : Cond) ∈ sk_ts := sk_in (List.mem_of_getElem? (i := 346) (by decide +kernel)) rfl
theorem sw_347 : (.instanceMethod ⟨"StuckLines$SeenLog", "isExplainedBy", "(I)Z"⟩ : Cond) ∈ sk_ts := sk_in (List.mem_of_getElem? (i := 347) (by decide +kernel)) rfl
theorem sw_348 : (.selects "StuckLines$SeenLog" ⟨"StuckLines$SeenLog", "isExplainedBy", "(I)Z"⟩ ⟨"StuckLines$SeenLog", "isExplainedBy", "(I)Z"⟩ : Cond) ∈ sk_ts := sk_in (List.mem_of_getElem? (i := 348) (by decide +kernel)) rfl
theorem sw_349 : (.code ⟨"StuckLines$SeenLog", "isExplainedBy", "(I)Z"⟩ prog_6_method_4_code 3 (some .boolean) : Cond) ∈ sk_ts := sk_in (List.mem_of_getElem? (i := 349) (by decide +kernel)) rfl
theorem sw_354 : (.methodLink "StuckLines" 125 ⟨"StuckLines$Circuit", "faults", "()I"⟩ : Cond) ∈ sk_ts := sk_in (List.mem_of_getElem? (i := 354) (by decide +kernel)) rfl
theorem sw_350 : (.methodLink "StuckLines$SeenLog" 26 ⟨"StuckLines$Responses", "to", "(II)I"⟩ : Cond) ∈ sk_ts := sk_in (List.mem_of_getElem? (i := 350) (by decide +kernel)) rfl
theorem sw_351 : (.instanceMethod ⟨"StuckLines$Responses", "to", "(II)I"⟩ : Cond) ∈ sk_ts := sk_in (List.mem_of_getElem? (i := 351) (by decide +kernel)) rfl
theorem sw_352 : (.selects "StuckLines$Responses" ⟨"StuckLines$Responses", "to", "(II)I"⟩ ⟨"StuckLines$Responses", "to", "(II)I"⟩ : Cond) ∈ sk_ts := sk_in (List.mem_of_getElem? (i := 352) (by decide +kernel)) rfl
theorem sw_353 : (.code ⟨"StuckLines$Responses", "to", "(II)I"⟩ prog_5_method_5_code 6 (some .int) : Cond) ∈ sk_ts := sk_in (List.mem_of_getElem? (i := 353) (by decide +kernel)) rfl
theorem sw_359 : (.methodLink "StuckLinesLaw" 7 ⟨"StuckLines", "source", "(Z)I"⟩ : Cond) ∈ sk_ts := sk_in (List.mem_of_getElem? (i := 359) (by decide +kernel)) rfl
theorem sw_360 : (.instanceMethod ⟨"StuckLines", "source", "(Z)I"⟩ : Cond) ∈ sk_ts := sk_in (List.mem_of_getElem? (i := 360) (by decide +kernel)) rfl
theorem sw_361 : (.selects "StuckLines" ⟨"StuckLines", "source", "(Z)I"⟩ ⟨"StuckLines", "source", "(Z)I"⟩ : Cond) ∈ sk_ts := sk_in (List.mem_of_getElem? (i := 361) (by decide +kernel)) rfl
theorem sw_1 : (.initialized "StuckLines" : Cond) ∈ sk_ts := sk_in (List.mem_of_getElem? (i := 1) (by decide +kernel)) rfl
theorem sw_362 : (.code ⟨"StuckLines", "source", "(Z)I"⟩ prog_1_method_3_code 2 (some .int) : Cond) ∈ sk_ts := sk_in (List.mem_of_getElem? (i := 362) (by decide +kernel)) rfl
theorem sw_431 : (.methodLink "StuckLines" 75 ⟨"StuckLines$Circuit", "addSource", "(Z)I"⟩ : Cond) ∈ sk_ts := sk_in (List.mem_of_getElem? (i := 431) (by decide +kernel)) rfl
theorem sw_432 : (.instanceMethod ⟨"StuckLines$Circuit", "addSource", "(Z)I"⟩ : Cond) ∈ sk_ts := sk_in (List.mem_of_getElem? (i := 432) (by decide +kernel)) rfl
theorem sw_433 : (.selects "StuckLines$Circuit" ⟨"StuckLines$Circuit", "addSource", "(Z)I"⟩ ⟨"StuckLines$Circuit", "addSource", "(Z)I"⟩ : Cond) ∈ sk_ts := sk_in (List.mem_of_getElem? (i := 433) (by decide +kernel)) rfl
theorem sw_434 : (.code ⟨"StuckLines$Circuit", "addSource", "(Z)I"⟩ prog_2_method_3_code 3 (some .int) : Cond) ∈ sk_ts := sk_in (List.mem_of_getElem? (i := 434) (by decide +kernel)) rfl
theorem sw_435 : (.methodLink "StuckLines$Circuit" 59 ⟨"StuckLines$Circuit", "addLine", "(I)I"⟩ : Cond) ∈ sk_ts := sk_in (List.mem_of_getElem? (i := 435) (by decide +kernel)) rfl
theorem sw_437 : (.instanceMethod ⟨"StuckLines$Circuit", "addLine", "(I)I"⟩ : Cond) ∈ sk_ts := sk_in (List.mem_of_getElem? (i := 437) (by decide +kernel)) rfl
theorem sv_8 : (.selects "StuckLines$Circuit" ⟨"StuckLines$Circuit", "addLine", "(I)I"⟩ ⟨"StuckLines$Circuit", "addLine", "(I)I"⟩ : Cond) ∈ sk_ts := sk_inp (q := (⟨"StuckLines$Circuit", "addLine", "(I)I"⟩, 15)) (List.mem_of_getElem? (i := 8) (by decide +kernel)) rfl
theorem sw_438 : (.code ⟨"StuckLines$Circuit", "addLine", "(I)I"⟩ prog_2_method_5_code 3 (some .int) : Cond) ∈ sk_ts := sk_in (List.mem_of_getElem? (i := 438) (by decide +kernel)) rfl
theorem sw_444 : (.methodLink "StuckLinesLaw" 15 ⟨"StuckLines", "gate", "(IIII)I"⟩ : Cond) ∈ sk_ts := sk_in (List.mem_of_getElem? (i := 444) (by decide +kernel)) rfl
theorem sw_445 : (.instanceMethod ⟨"StuckLines", "gate", "(IIII)I"⟩ : Cond) ∈ sk_ts := sk_in (List.mem_of_getElem? (i := 445) (by decide +kernel)) rfl
theorem sw_446 : (.selects "StuckLines" ⟨"StuckLines", "gate", "(IIII)I"⟩ ⟨"StuckLines", "gate", "(IIII)I"⟩ : Cond) ∈ sk_ts := sk_in (List.mem_of_getElem? (i := 446) (by decide +kernel)) rfl
theorem sw_447 : (.code ⟨"StuckLines", "gate", "(IIII)I"⟩ prog_1_method_4_code 5 (some .int) : Cond) ∈ sk_ts := sk_in (List.mem_of_getElem? (i := 447) (by decide +kernel)) rfl
theorem sw_465 : (.methodLink "StuckLines" 86 ⟨"StuckLines", "requireLine", "(I)V"⟩ : Cond) ∈ sk_ts := sk_in (List.mem_of_getElem? (i := 465) (by decide +kernel)) rfl
theorem sw_467 : (.instanceMethod ⟨"StuckLines", "requireLine", "(I)V"⟩ : Cond) ∈ sk_ts := sk_in (List.mem_of_getElem? (i := 467) (by decide +kernel)) rfl
theorem sv_9 : (.selects "StuckLines" ⟨"StuckLines", "requireLine", "(I)V"⟩ ⟨"StuckLines", "requireLine", "(I)V"⟩ : Cond) ∈ sk_ts := sk_inp (q := (⟨"StuckLines", "requireLine", "(I)V"⟩, 6)) (List.mem_of_getElem? (i := 9) (by decide +kernel)) rfl
theorem sw_468 : (.code ⟨"StuckLines", "requireLine", "(I)V"⟩ prog_1_method_21_code 2 none : Cond) ∈ sk_ts := sk_in (List.mem_of_getElem? (i := 468) (by decide +kernel)) rfl
theorem sw_485 : (.methodLink "StuckLines" 90 ⟨"StuckLines", "requireLineOrNone", "(I)V"⟩ : Cond) ∈ sk_ts := sk_in (List.mem_of_getElem? (i := 485) (by decide +kernel)) rfl
theorem sw_487 : (.instanceMethod ⟨"StuckLines", "requireLineOrNone", "(I)V"⟩ : Cond) ∈ sk_ts := sk_in (List.mem_of_getElem? (i := 487) (by decide +kernel)) rfl
theorem sv_10 : (.selects "StuckLines" ⟨"StuckLines", "requireLineOrNone", "(I)V"⟩ ⟨"StuckLines", "requireLineOrNone", "(I)V"⟩ : Cond) ∈ sk_ts := sk_inp (q := (⟨"StuckLines", "requireLineOrNone", "(I)V"⟩, 6)) (List.mem_of_getElem? (i := 10) (by decide +kernel)) rfl
theorem sw_488 : (.code ⟨"StuckLines", "requireLineOrNone", "(I)V"⟩ prog_1_method_22_code 2 none : Cond) ∈ sk_ts := sk_in (List.mem_of_getElem? (i := 488) (by decide +kernel)) rfl
theorem sw_490 : (.methodLink "StuckLines" 95 ⟨"StuckLines$Circuit", "addGate", "(IIII)I"⟩ : Cond) ∈ sk_ts := sk_in (List.mem_of_getElem? (i := 490) (by decide +kernel)) rfl
theorem sw_491 : (.instanceMethod ⟨"StuckLines$Circuit", "addGate", "(IIII)I"⟩ : Cond) ∈ sk_ts := sk_in (List.mem_of_getElem? (i := 491) (by decide +kernel)) rfl
theorem sw_492 : (.selects "StuckLines$Circuit" ⟨"StuckLines$Circuit", "addGate", "(IIII)I"⟩ ⟨"StuckLines$Circuit", "addGate", "(IIII)I"⟩ : Cond) ∈ sk_ts := sk_in (List.mem_of_getElem? (i := 492) (by decide +kernel)) rfl
theorem sw_493 : (.code ⟨"StuckLines$Circuit", "addGate", "(IIII)I"⟩ prog_2_method_4_code 6 (some .int) : Cond) ∈ sk_ts := sk_in (List.mem_of_getElem? (i := 493) (by decide +kernel)) rfl
theorem sw_494 : (.methodLink "StuckLines$Circuit" 63 ⟨"StuckLines$Circuit", "addPin", "(II)V"⟩ : Cond) ∈ sk_ts := sk_in (List.mem_of_getElem? (i := 494) (by decide +kernel)) rfl
theorem sw_496 : (.instanceMethod ⟨"StuckLines$Circuit", "addPin", "(II)V"⟩ : Cond) ∈ sk_ts := sk_in (List.mem_of_getElem? (i := 496) (by decide +kernel)) rfl
theorem sv_11 : (.selects "StuckLines$Circuit" ⟨"StuckLines$Circuit", "addPin", "(II)V"⟩ ⟨"StuckLines$Circuit", "addPin", "(II)V"⟩ : Cond) ∈ sk_ts := sk_inp (q := (⟨"StuckLines$Circuit", "addPin", "(II)V"⟩, 15)) (List.mem_of_getElem? (i := 11) (by decide +kernel)) rfl
theorem sw_497 : (.code ⟨"StuckLines$Circuit", "addPin", "(II)V"⟩ prog_2_method_6_code 3 none : Cond) ∈ sk_ts := sk_in (List.mem_of_getElem? (i := 497) (by decide +kernel)) rfl
theorem sw_501 : (.methodLink "StuckLinesLaw" 23 ⟨"StuckLines", "output", "(I)I"⟩ : Cond) ∈ sk_ts := sk_in (List.mem_of_getElem? (i := 501) (by decide +kernel)) rfl
theorem sw_502 : (.instanceMethod ⟨"StuckLines", "output", "(I)I"⟩ : Cond) ∈ sk_ts := sk_in (List.mem_of_getElem? (i := 502) (by decide +kernel)) rfl
theorem sw_503 : (.selects "StuckLines" ⟨"StuckLines", "output", "(I)I"⟩ ⟨"StuckLines", "output", "(I)I"⟩ : Cond) ∈ sk_ts := sk_in (List.mem_of_getElem? (i := 503) (by decide +kernel)) rfl
theorem sw_504 : (.code ⟨"StuckLines", "output", "(I)I"⟩ prog_1_method_5_code 2 (some .int) : Cond) ∈ sk_ts := sk_in (List.mem_of_getElem? (i := 504) (by decide +kernel)) rfl
theorem sw_505 : (.methodLink "StuckLines" 99 ⟨"StuckLines$Circuit", "isOutput", "(I)Z"⟩ : Cond) ∈ sk_ts := sk_in (List.mem_of_getElem? (i := 505) (by decide +kernel)) rfl
theorem sw_506 : (.instanceMethod ⟨"StuckLines$Circuit", "isOutput", "(I)Z"⟩ : Cond) ∈ sk_ts := sk_in (List.mem_of_getElem? (i := 506) (by decide +kernel)) rfl
theorem sw_507 : (.selects "StuckLines$Circuit" ⟨"StuckLines$Circuit", "isOutput", "(I)Z"⟩ ⟨"StuckLines$Circuit", "isOutput", "(I)Z"⟩ : Cond) ∈ sk_ts := sk_in (List.mem_of_getElem? (i := 507) (by decide +kernel)) rfl
theorem sw_508 : (.code ⟨"StuckLines$Circuit", "isOutput", "(I)Z"⟩ prog_2_method_11_code 3 (some .boolean) : Cond) ∈ sk_ts := sk_in (List.mem_of_getElem? (i := 508) (by decide +kernel)) rfl
theorem sw_510 : (.methodLink "StuckLines" 108 ⟨"StuckLines$Circuit", "addOutput", "(I)I"⟩ : Cond) ∈ sk_ts := sk_in (List.mem_of_getElem? (i := 510) (by decide +kernel)) rfl
theorem sw_511 : (.instanceMethod ⟨"StuckLines$Circuit", "addOutput", "(I)I"⟩ : Cond) ∈ sk_ts := sk_in (List.mem_of_getElem? (i := 511) (by decide +kernel)) rfl
theorem sw_512 : (.selects "StuckLines$Circuit" ⟨"StuckLines$Circuit", "addOutput", "(I)I"⟩ ⟨"StuckLines$Circuit", "addOutput", "(I)I"⟩ : Cond) ∈ sk_ts := sk_in (List.mem_of_getElem? (i := 512) (by decide +kernel)) rfl
theorem sw_513 : (.code ⟨"StuckLines$Circuit", "addOutput", "(I)I"⟩ prog_2_method_7_code 2 (some .int) : Cond) ∈ sk_ts := sk_in (List.mem_of_getElem? (i := 513) (by decide +kernel)) rfl
theorem sw_514 : (.methodLink "StuckLines$Circuit" 67 ⟨"StuckLines$Circuit", "gatherObserved", "()V"⟩ : Cond) ∈ sk_ts := sk_in (List.mem_of_getElem? (i := 514) (by decide +kernel)) rfl
theorem sw_516 : (.instanceMethod ⟨"StuckLines$Circuit", "gatherObserved", "()V"⟩ : Cond) ∈ sk_ts := sk_in (List.mem_of_getElem? (i := 516) (by decide +kernel)) rfl
theorem sv_12 : (.selects "StuckLines$Circuit" ⟨"StuckLines$Circuit", "gatherObserved", "()V"⟩ ⟨"StuckLines$Circuit", "gatherObserved", "()V"⟩ : Cond) ∈ sk_ts := sk_inp (q := (⟨"StuckLines$Circuit", "gatherObserved", "()V"⟩, 15)) (List.mem_of_getElem? (i := 12) (by decide +kernel)) rfl
theorem sw_517 : (.code ⟨"StuckLines$Circuit", "gatherObserved", "()V"⟩ prog_2_method_9_code 2 none : Cond) ∈ sk_ts := sk_in (List.mem_of_getElem? (i := 517) (by decide +kernel)) rfl
theorem sw_518 : (.methodLink "StuckLines$Circuit" 70 ⟨"StuckLines$Circuit", "observe", "(I)V"⟩ : Cond) ∈ sk_ts := sk_in (List.mem_of_getElem? (i := 518) (by decide +kernel)) rfl
theorem sw_520 : (.instanceMethod ⟨"StuckLines$Circuit", "observe", "(I)V"⟩ : Cond) ∈ sk_ts := sk_in (List.mem_of_getElem? (i := 520) (by decide +kernel)) rfl
theorem sv_13 : (.selects "StuckLines$Circuit" ⟨"StuckLines$Circuit", "observe", "(I)V"⟩ ⟨"StuckLines$Circuit", "observe", "(I)V"⟩ : Cond) ∈ sk_ts := sk_inp (q := (⟨"StuckLines$Circuit", "observe", "(I)V"⟩, 15)) (List.mem_of_getElem? (i := 13) (by decide +kernel)) rfl
theorem sw_521 : (.code ⟨"StuckLines$Circuit", "observe", "(I)V"⟩ prog_2_method_10_code 2 none : Cond) ∈ sk_ts := sk_in (List.mem_of_getElem? (i := 521) (by decide +kernel)) rfl
theorem sw_525 : (.methodLink "StuckLinesLaw" 27 ⟨"StuckLines", "data", "(II)V"⟩ : Cond) ∈ sk_ts := sk_in (List.mem_of_getElem? (i := 525) (by decide +kernel)) rfl
theorem sw_526 : (.instanceMethod ⟨"StuckLines", "data", "(II)V"⟩ : Cond) ∈ sk_ts := sk_in (List.mem_of_getElem? (i := 526) (by decide +kernel)) rfl
theorem sw_527 : (.selects "StuckLines" ⟨"StuckLines", "data", "(II)V"⟩ ⟨"StuckLines", "data", "(II)V"⟩ : Cond) ∈ sk_ts := sk_in (List.mem_of_getElem? (i := 527) (by decide +kernel)) rfl
theorem sw_528 : (.code ⟨"StuckLines", "data", "(II)V"⟩ prog_1_method_6_code 3 none : Cond) ∈ sk_ts := sk_in (List.mem_of_getElem? (i := 528) (by decide +kernel)) rfl
theorem sw_530 : (.methodLink "StuckLines" 118 ⟨"StuckLines$Circuit", "connectData", "(II)V"⟩ : Cond) ∈ sk_ts := sk_in (List.mem_of_getElem? (i := 530) (by decide +kernel)) rfl
theorem sw_531 : (.instanceMethod ⟨"StuckLines$Circuit", "connectData", "(II)V"⟩ : Cond) ∈ sk_ts := sk_in (List.mem_of_getElem? (i := 531) (by decide +kernel)) rfl
theorem sw_532 : (.selects "StuckLines$Circuit" ⟨"StuckLines$Circuit", "connectData", "(II)V"⟩ ⟨"StuckLines$Circuit", "connectData", "(II)V"⟩ : Cond) ∈ sk_ts := sk_in (List.mem_of_getElem? (i := 532) (by decide +kernel)) rfl
theorem sw_533 : (.code ⟨"StuckLines$Circuit", "connectData", "(II)V"⟩ prog_2_method_8_code 3 none : Cond) ∈ sk_ts := sk_in (List.mem_of_getElem? (i := 533) (by decide +kernel)) rfl
theorem sw_537 : (.methodLink "StuckLinesLaw" 31 ⟨"StuckLines", "count", "(I)I"⟩ : Cond) ∈ sk_ts := sk_in (List.mem_of_getElem? (i := 537) (by decide +kernel)) rfl
theorem sw_538 : (.instanceMethod ⟨"StuckLines", "count", "(I)I"⟩ : Cond) ∈ sk_ts := sk_in (List.mem_of_getElem? (i := 538) (by decide +kernel)) rfl
theorem sw_539 : (.selects "StuckLines" ⟨"StuckLines", "count", "(I)I"⟩ ⟨"StuckLines", "count", "(I)I"⟩ : Cond) ∈ sk_ts := sk_in (List.mem_of_getElem? (i := 539) (by decide +kernel)) rfl
theorem sw_540 : (.code ⟨"StuckLines", "count", "(I)I"⟩ prog_1_method_7_code 2 (some .int) : Cond) ∈ sk_ts := sk_in (List.mem_of_getElem? (i := 540) (by decide +kernel)) rfl
theorem sw_541 : (.methodLink "StuckLines" 132 ⟨"StuckLines$Responses", "shownFaults", "()I"⟩ : Cond) ∈ sk_ts := sk_in (List.mem_of_getElem? (i := 541) (by decide +kernel)) rfl
theorem sw_542 : (.instanceMethod ⟨"StuckLines$Responses", "shownFaults", "()I"⟩ : Cond) ∈ sk_ts := sk_in (List.mem_of_getElem? (i := 542) (by decide +kernel)) rfl
theorem sw_543 : (.selects "StuckLines$Responses" ⟨"StuckLines$Responses", "shownFaults", "()I"⟩ ⟨"StuckLines$Responses", "shownFaults", "()I"⟩ : Cond) ∈ sk_ts := sk_in (List.mem_of_getElem? (i := 543) (by decide +kernel)) rfl
theorem sw_544 : (.code ⟨"StuckLines$Responses", "shownFaults", "()I"⟩ prog_5_method_10_code 3 (some .int) : Cond) ∈ sk_ts := sk_in (List.mem_of_getElem? (i := 544) (by decide +kernel)) rfl
theorem sw_545 : (.methodLink "StuckLines" 135 ⟨"StuckLines$Responses", "classesOfAlike", "()I"⟩ : Cond) ∈ sk_ts := sk_in (List.mem_of_getElem? (i := 545) (by decide +kernel)) rfl
theorem sw_546 : (.instanceMethod ⟨"StuckLines$Responses", "classesOfAlike", "()I"⟩ : Cond) ∈ sk_ts := sk_in (List.mem_of_getElem? (i := 546) (by decide +kernel)) rfl
theorem sw_547 : (.selects "StuckLines$Responses" ⟨"StuckLines$Responses", "classesOfAlike", "()I"⟩ ⟨"StuckLines$Responses", "classesOfAlike", "()I"⟩ : Cond) ∈ sk_ts := sk_in (List.mem_of_getElem? (i := 547) (by decide +kernel)) rfl
theorem sw_548 : (.code ⟨"StuckLines$Responses", "classesOfAlike", "()I"⟩ prog_5_method_11_code 3 (some .int) : Cond) ∈ sk_ts := sk_in (List.mem_of_getElem? (i := 548) (by decide +kernel)) rfl
theorem sw_549 : (.methodLink "StuckLines$Responses" 74 ⟨"StuckLines$Responses", "firstAlike", "(I)I"⟩ : Cond) ∈ sk_ts := sk_in (List.mem_of_getElem? (i := 549) (by decide +kernel)) rfl
theorem sw_550 : (.instanceMethod ⟨"StuckLines$Responses", "firstAlike", "(I)I"⟩ : Cond) ∈ sk_ts := sk_in (List.mem_of_getElem? (i := 550) (by decide +kernel)) rfl
theorem sw_551 : (.selects "StuckLines$Responses" ⟨"StuckLines$Responses", "firstAlike", "(I)I"⟩ ⟨"StuckLines$Responses", "firstAlike", "(I)I"⟩ : Cond) ∈ sk_ts := sk_in (List.mem_of_getElem? (i := 551) (by decide +kernel)) rfl
theorem sw_552 : (.code ⟨"StuckLines$Responses", "firstAlike", "(I)I"⟩ prog_5_method_8_code 3 (some .int) : Cond) ∈ sk_ts := sk_in (List.mem_of_getElem? (i := 552) (by decide +kernel)) rfl
theorem sw_553 : (.methodLink "StuckLines$Responses" 70 ⟨"StuckLines$Responses", "areAlike", "(II)Z"⟩ : Cond) ∈ sk_ts := sk_in (List.mem_of_getElem? (i := 553) (by decide +kernel)) rfl
theorem sw_555 : (.instanceMethod ⟨"StuckLines$Responses", "areAlike", "(II)Z"⟩ : Cond) ∈ sk_ts := sk_in (List.mem_of_getElem? (i := 555) (by decide +kernel)) rfl
theorem sv_14 : (.selects "StuckLines$Responses" ⟨"StuckLines$Responses", "areAlike", "(II)Z"⟩ ⟨"StuckLines$Responses", "areAlike", "(II)Z"⟩ : Cond) ∈ sk_ts := sk_inp (q := (⟨"StuckLines$Responses", "areAlike", "(II)Z"⟩, 5)) (List.mem_of_getElem? (i := 14) (by decide +kernel)) rfl
theorem sw_556 : (.code ⟨"StuckLines$Responses", "areAlike", "(II)Z"⟩ prog_5_method_9_code 6 (some .boolean) : Cond) ∈ sk_ts := sk_in (List.mem_of_getElem? (i := 556) (by decide +kernel)) rfl
theorem sw_561 : (.methodLink "StuckLinesLaw" 34 ⟨"StuckLines", "value", "(III)I"⟩ : Cond) ∈ sk_ts := sk_in (List.mem_of_getElem? (i := 561) (by decide +kernel)) rfl
theorem sw_562 : (.instanceMethod ⟨"StuckLines", "value", "(III)I"⟩ : Cond) ∈ sk_ts := sk_in (List.mem_of_getElem? (i := 562) (by decide +kernel)) rfl
theorem sw_563 : (.selects "StuckLines" ⟨"StuckLines", "value", "(III)I"⟩ ⟨"StuckLines", "value", "(III)I"⟩ : Cond) ∈ sk_ts := sk_in (List.mem_of_getElem? (i := 563) (by decide +kernel)) rfl
theorem sw_564 : (.code ⟨"StuckLines", "value", "(III)I"⟩ prog_1_method_8_code 4 (some .int) : Cond) ∈ sk_ts := sk_in (List.mem_of_getElem? (i := 564) (by decide +kernel)) rfl
theorem sw_565 : (.methodLink "StuckLines" 140 ⟨"StuckLines", "requireVector", "(I)V"⟩ : Cond) ∈ sk_ts := sk_in (List.mem_of_getElem? (i := 565) (by decide +kernel)) rfl
theorem sw_567 : (.instanceMethod ⟨"StuckLines", "requireVector", "(I)V"⟩ : Cond) ∈ sk_ts := sk_in (List.mem_of_getElem? (i := 567) (by decide +kernel)) rfl
theorem sv_15 : (.selects "StuckLines" ⟨"StuckLines", "requireVector", "(I)V"⟩ ⟨"StuckLines", "requireVector", "(I)V"⟩ : Cond) ∈ sk_ts := sk_inp (q := (⟨"StuckLines", "requireVector", "(I)V"⟩, 6)) (List.mem_of_getElem? (i := 15) (by decide +kernel)) rfl
theorem sw_568 : (.code ⟨"StuckLines", "requireVector", "(I)V"⟩ prog_1_method_23_code 2 none : Cond) ∈ sk_ts := sk_in (List.mem_of_getElem? (i := 568) (by decide +kernel)) rfl
theorem sw_571 : (.methodLink "StuckLines" 143 ⟨"StuckLines", "requireFaultOrNone", "(I)V"⟩ : Cond) ∈ sk_ts := sk_in (List.mem_of_getElem? (i := 571) (by decide +kernel)) rfl
theorem sw_573 : (.instanceMethod ⟨"StuckLines", "requireFaultOrNone", "(I)V"⟩ : Cond) ∈ sk_ts := sk_in (List.mem_of_getElem? (i := 573) (by decide +kernel)) rfl
theorem sv_16 : (.selects "StuckLines" ⟨"StuckLines", "requireFaultOrNone", "(I)V"⟩ ⟨"StuckLines", "requireFaultOrNone", "(I)V"⟩ : Cond) ∈ sk_ts := sk_inp (q := (⟨"StuckLines", "requireFaultOrNone", "(I)V"⟩, 6)) (List.mem_of_getElem? (i := 16) (by decide +kernel)) rfl
theorem sw_574 : (.code ⟨"StuckLines", "requireFaultOrNone", "(I)V"⟩ prog_1_method_25_code 2 none : Cond) ∈ sk_ts := sk_in (List.mem_of_getElem? (i := 574) (by decide +kernel)) rfl
theorem sw_580 : (.methodLink "StuckLines" 146 ⟨"StuckLines$Signals", "settleVectors", "(I)V"⟩ : Cond) ∈ sk_ts := sk_in (List.mem_of_getElem? (i := 580) (by decide +kernel)) rfl
theorem sw_581 : (.methodLink "StuckLines" 149 ⟨"StuckLines$Signals", "stateOf", "(II)I"⟩ : Cond) ∈ sk_ts := sk_in (List.mem_of_getElem? (i := 581) (by decide +kernel)) rfl
theorem sw_582 : (.instanceMethod ⟨"StuckLines$Signals", "stateOf", "(II)I"⟩ : Cond) ∈ sk_ts := sk_in (List.mem_of_getElem? (i := 582) (by decide +kernel)) rfl
theorem sw_583 : (.selects "StuckLines$Signals" ⟨"StuckLines$Signals", "stateOf", "(II)I"⟩ ⟨"StuckLines$Signals", "stateOf", "(II)I"⟩ : Cond) ∈ sk_ts := sk_in (List.mem_of_getElem? (i := 583) (by decide +kernel)) rfl
theorem sw_584 : (.code ⟨"StuckLines$Signals", "stateOf", "(II)I"⟩ prog_7_method_6_code 3 (some .int) : Cond) ∈ sk_ts := sk_in (List.mem_of_getElem? (i := 584) (by decide +kernel)) rfl
theorem sw_569 : (.methodLink "StuckLines" 228 ⟨"StuckLines$Circuit", "vectors", "()I"⟩ : Cond) ∈ sk_ts := sk_in (List.mem_of_getElem? (i := 569) (by decide +kernel)) rfl
theorem sw_575 : (.methodLink "StuckLines" 169 ⟨"StuckLines", "requireFault", "(I)V"⟩ : Cond) ∈ sk_ts := sk_in (List.mem_of_getElem? (i := 575) (by decide +kernel)) rfl
theorem sw_577 : (.instanceMethod ⟨"StuckLines", "requireFault", "(I)V"⟩ : Cond) ∈ sk_ts := sk_in (List.mem_of_getElem? (i := 577) (by decide +kernel)) rfl
theorem sv_17 : (.selects "StuckLines" ⟨"StuckLines", "requireFault", "(I)V"⟩ ⟨"StuckLines", "requireFault", "(I)V"⟩ : Cond) ∈ sk_ts := sk_inp (q := (⟨"StuckLines", "requireFault", "(I)V"⟩, 6)) (List.mem_of_getElem? (i := 17) (by decide +kernel)) rfl
theorem sw_578 : (.code ⟨"StuckLines", "requireFault", "(I)V"⟩ prog_1_method_24_code 2 none : Cond) ∈ sk_ts := sk_in (List.mem_of_getElem? (i := 578) (by decide +kernel)) rfl
theorem sw_588 : (.methodLink "StuckLinesLaw" 38 ⟨"StuckLines", "response", "(II)I"⟩ : Cond) ∈ sk_ts := sk_in (List.mem_of_getElem? (i := 588) (by decide +kernel)) rfl
theorem sw_589 : (.instanceMethod ⟨"StuckLines", "response", "(II)I"⟩ : Cond) ∈ sk_ts := sk_in (List.mem_of_getElem? (i := 589) (by decide +kernel)) rfl
theorem sw_590 : (.selects "StuckLines" ⟨"StuckLines", "response", "(II)I"⟩ ⟨"StuckLines", "response", "(II)I"⟩ : Cond) ∈ sk_ts := sk_in (List.mem_of_getElem? (i := 590) (by decide +kernel)) rfl
theorem sw_591 : (.code ⟨"StuckLines", "response", "(II)I"⟩ prog_1_method_9_code 3 (some .int) : Cond) ∈ sk_ts := sk_in (List.mem_of_getElem? (i := 591) (by decide +kernel)) rfl
theorem sw_592 : (.methodLink "StuckLines" 156 ⟨"StuckLines$Responses", "to", "(II)I"⟩ : Cond) ∈ sk_ts := sk_in (List.mem_of_getElem? (i := 592) (by decide +kernel)) rfl
theorem sw_596 : (.methodLink "StuckLinesLaw" 42 ⟨"StuckLines", "faultAt", "(II)I"⟩ : Cond) ∈ sk_ts := sk_in (List.mem_of_getElem? (i := 596) (by decide +kernel)) rfl
theorem sw_597 : (.instanceMethod ⟨"StuckLines", "faultAt", "(II)I"⟩ : Cond) ∈ sk_ts := sk_in (List.mem_of_getElem? (i := 597) (by decide +kernel)) rfl
theorem sw_598 : (.selects "StuckLines" ⟨"StuckLines", "faultAt", "(II)I"⟩ ⟨"StuckLines", "faultAt", "(II)I"⟩ : Cond) ∈ sk_ts := sk_in (List.mem_of_getElem? (i := 598) (by decide +kernel)) rfl
theorem sw_599 : (.code ⟨"StuckLines", "faultAt", "(II)I"⟩ prog_1_method_11_code 5 (some .int) : Cond) ∈ sk_ts := sk_in (List.mem_of_getElem? (i := 599) (by decide +kernel)) rfl
theorem sw_600 : (.methodLink "StuckLines" 172 ⟨"StuckLines$Circuit", "stuckLine", "(I)I"⟩ : Cond) ∈ sk_ts := sk_in (List.mem_of_getElem? (i := 600) (by decide +kernel)) rfl
theorem sw_601 : (.methodLink "StuckLines" 175 ⟨"StuckLines$Circuit", "stuckPin", "(I)I"⟩ : Cond) ∈ sk_ts := sk_in (List.mem_of_getElem? (i := 601) (by decide +kernel)) rfl
theorem sw_606 : (.methodLink "StuckLinesLaw" 45 ⟨"StuckLines", "least", "(I)I"⟩ : Cond) ∈ sk_ts := sk_in (List.mem_of_getElem? (i := 606) (by decide +kernel)) rfl
theorem sw_607 : (.instanceMethod ⟨"StuckLines", "least", "(I)I"⟩ : Cond) ∈ sk_ts := sk_in (List.mem_of_getElem? (i := 607) (by decide +kernel)) rfl
theorem sw_608 : (.selects "StuckLines" ⟨"StuckLines", "least", "(I)I"⟩ ⟨"StuckLines", "least", "(I)I"⟩ : Cond) ∈ sk_ts := sk_in (List.mem_of_getElem? (i := 608) (by decide +kernel)) rfl
theorem sw_609 : (.code ⟨"StuckLines", "least", "(I)I"⟩ prog_1_method_12_code 2 (some .int) : Cond) ∈ sk_ts := sk_in (List.mem_of_getElem? (i := 609) (by decide +kernel)) rfl
theorem sw_610 : (.methodLink "StuckLines" 183 ⟨"StuckLines$Responses", "firstShowing", "(I)I"⟩ : Cond) ∈ sk_ts := sk_in (List.mem_of_getElem? (i := 610) (by decide +kernel)) rfl
theorem sw_614 : (.methodLink "StuckLinesLaw" 48 ⟨"StuckLines", "showing", "(I)J"⟩ : Cond) ∈ sk_ts := sk_in (List.mem_of_getElem? (i := 614) (by decide +kernel)) rfl
theorem sw_615 : (.instanceMethod ⟨"StuckLines", "showing", "(I)J"⟩ : Cond) ∈ sk_ts := sk_in (List.mem_of_getElem? (i := 615) (by decide +kernel)) rfl
theorem sw_616 : (.selects "StuckLines" ⟨"StuckLines", "showing", "(I)J"⟩ ⟨"StuckLines", "showing", "(I)J"⟩ : Cond) ∈ sk_ts := sk_in (List.mem_of_getElem? (i := 616) (by decide +kernel)) rfl
theorem sw_617 : (.code ⟨"StuckLines", "showing", "(I)J"⟩ prog_1_method_13_code 2 (some .long) : Cond) ∈ sk_ts := sk_in (List.mem_of_getElem? (i := 617) (by decide +kernel)) rfl
theorem sw_618 : (.methodLink "StuckLines" 186 ⟨"StuckLines$Responses", "vectorsShowing", "(I)J"⟩ : Cond) ∈ sk_ts := sk_in (List.mem_of_getElem? (i := 618) (by decide +kernel)) rfl
theorem sw_622 : (.methodLink "StuckLinesLaw" 52 ⟨"StuckLines", "alike", "(I)I"⟩ : Cond) ∈ sk_ts := sk_in (List.mem_of_getElem? (i := 622) (by decide +kernel)) rfl
theorem sw_623 : (.instanceMethod ⟨"StuckLines", "alike", "(I)I"⟩ : Cond) ∈ sk_ts := sk_in (List.mem_of_getElem? (i := 623) (by decide +kernel)) rfl
theorem sw_624 : (.selects "StuckLines" ⟨"StuckLines", "alike", "(I)I"⟩ ⟨"StuckLines", "alike", "(I)I"⟩ : Cond) ∈ sk_ts := sk_in (List.mem_of_getElem? (i := 624) (by decide +kernel)) rfl
theorem sw_625 : (.code ⟨"StuckLines", "alike", "(I)I"⟩ prog_1_method_14_code 2 (some .int) : Cond) ∈ sk_ts := sk_in (List.mem_of_getElem? (i := 625) (by decide +kernel)) rfl
theorem sw_626 : (.methodLink "StuckLines" 190 ⟨"StuckLines$Responses", "firstAlike", "(I)I"⟩ : Cond) ∈ sk_ts := sk_in (List.mem_of_getElem? (i := 626) (by decide +kernel)) rfl
theorem sw_630 : (.methodLink "StuckLinesLaw" 55 ⟨"StuckLines", "ternary", "(IIII)I"⟩ : Cond) ∈ sk_ts := sk_in (List.mem_of_getElem? (i := 630) (by decide +kernel)) rfl
theorem sw_631 : (.instanceMethod ⟨"StuckLines", "ternary", "(IIII)I"⟩ : Cond) ∈ sk_ts := sk_in (List.mem_of_getElem? (i := 631) (by decide +kernel)) rfl
theorem sw_632 : (.selects "StuckLines" ⟨"StuckLines", "ternary", "(IIII)I"⟩ ⟨"StuckLines", "ternary", "(IIII)I"⟩ : Cond) ∈ sk_ts := sk_in (List.mem_of_getElem? (i := 632) (by decide +kernel)) rfl
theorem sw_633 : (.code ⟨"StuckLines", "ternary", "(IIII)I"⟩ prog_1_method_15_code 5 (some .int) : Cond) ∈ sk_ts := sk_in (List.mem_of_getElem? (i := 633) (by decide +kernel)) rfl
theorem sw_634 : (.methodLink "StuckLines" 193 ⟨"StuckLines$Circuit", "isSumOfSources", "(I)Z"⟩ : Cond) ∈ sk_ts := sk_in (List.mem_of_getElem? (i := 634) (by decide +kernel)) rfl
theorem sw_635 : (.instanceMethod ⟨"StuckLines$Circuit", "isSumOfSources", "(I)Z"⟩ : Cond) ∈ sk_ts := sk_in (List.mem_of_getElem? (i := 635) (by decide +kernel)) rfl
theorem sw_636 : (.selects "StuckLines$Circuit" ⟨"StuckLines$Circuit", "isSumOfSources", "(I)Z"⟩ ⟨"StuckLines$Circuit", "isSumOfSources", "(I)Z"⟩ : Cond) ∈ sk_ts := sk_in (List.mem_of_getElem? (i := 636) (by decide +kernel)) rfl
theorem sw_637 : (.code ⟨"StuckLines$Circuit", "isSumOfSources", "(I)Z"⟩ prog_2_method_15_code 2 (some .boolean) : Cond) ∈ sk_ts := sk_in (List.mem_of_getElem? (i := 637) (by decide +kernel)) rfl
theorem sw_641 : (.methodLink "StuckLines" 200 ⟨"StuckLines$Signals", "settleCube", "(III)V"⟩ : Cond) ∈ sk_ts := sk_in (List.mem_of_getElem? (i := 641) (by decide +kernel)) rfl
theorem sw_642 : (.instanceMethod ⟨"StuckLines$Signals", "settleCube", "(III)V"⟩ : Cond) ∈ sk_ts := sk_in (List.mem_of_getElem? (i := 642) (by decide +kernel)) rfl
theorem sw_643 : (.selects "StuckLines$Signals" ⟨"StuckLines$Signals", "settleCube", "(III)V"⟩ ⟨"StuckLines$Signals", "settleCube", "(III)V"⟩ : Cond) ∈ sk_ts := sk_in (List.mem_of_getElem? (i := 643) (by decide +kernel)) rfl
theorem sw_644 : (.code ⟨"StuckLines$Signals", "settleCube", "(III)V"⟩ prog_7_method_3_code 7 none : Cond) ∈ sk_ts := sk_in (List.mem_of_getElem? (i := 644) (by decide +kernel)) rfl
theorem sw_638 : (.methodLink "StuckLines$Circuit" 74 ⟨"StuckLines$Circuit", "vectors", "()I"⟩ : Cond) ∈ sk_ts := sk_in (List.mem_of_getElem? (i := 638) (by decide +kernel)) rfl
theorem sw_648 : (.methodLink "StuckLinesLaw" 58 ⟨"StuckLines", "cube", "(I)I"⟩ : Cond) ∈ sk_ts := sk_in (List.mem_of_getElem? (i := 648) (by decide +kernel)) rfl
theorem sw_649 : (.instanceMethod ⟨"StuckLines", "cube", "(I)I"⟩ : Cond) ∈ sk_ts := sk_in (List.mem_of_getElem? (i := 649) (by decide +kernel)) rfl
theorem sw_650 : (.selects "StuckLines" ⟨"StuckLines", "cube", "(I)I"⟩ ⟨"StuckLines", "cube", "(I)I"⟩ : Cond) ∈ sk_ts := sk_in (List.mem_of_getElem? (i := 650) (by decide +kernel)) rfl
theorem sw_651 : (.code ⟨"StuckLines", "cube", "(I)I"⟩ prog_1_method_16_code 3 (some .int) : Cond) ∈ sk_ts := sk_in (List.mem_of_getElem? (i := 651) (by decide +kernel)) rfl
theorem sw_652 : (.methodLink "StuckLines" 204 ⟨"StuckLines$Cubes", "widen", "(II)I"⟩ : Cond) ∈ sk_ts := sk_in (List.mem_of_getElem? (i := 652) (by decide +kernel)) rfl
theorem sw_653 : (.instanceMethod ⟨"StuckLines$Cubes", "widen", "(II)I"⟩ : Cond) ∈ sk_ts := sk_in (List.mem_of_getElem? (i := 653) (by decide +kernel)) rfl
theorem sw_654 : (.selects "StuckLines$Cubes" ⟨"StuckLines$Cubes", "widen", "(II)I"⟩ ⟨"StuckLines$Cubes", "widen", "(II)I"⟩ : Cond) ∈ sk_ts := sk_in (List.mem_of_getElem? (i := 654) (by decide +kernel)) rfl
theorem sw_655 : (.code ⟨"StuckLines$Cubes", "widen", "(II)I"⟩ prog_3_method_2_code 7 (some .int) : Cond) ∈ sk_ts := sk_in (List.mem_of_getElem? (i := 655) (by decide +kernel)) rfl
theorem sw_656 : (.methodLink "StuckLines$Cubes" 33 ⟨"StuckLines$Cubes", "shows", "(III)Z"⟩ : Cond) ∈ sk_ts := sk_in (List.mem_of_getElem? (i := 656) (by decide +kernel)) rfl
theorem sw_658 : (.instanceMethod ⟨"StuckLines$Cubes", "shows", "(III)Z"⟩ : Cond) ∈ sk_ts := sk_in (List.mem_of_getElem? (i := 658) (by decide +kernel)) rfl
theorem sv_18 : (.selects "StuckLines$Cubes" ⟨"StuckLines$Cubes", "shows", "(III)Z"⟩ ⟨"StuckLines$Cubes", "shows", "(III)Z"⟩ : Cond) ∈ sk_ts := sk_inp (q := (⟨"StuckLines$Cubes", "shows", "(III)Z"⟩, 3)) (List.mem_of_getElem? (i := 18) (by decide +kernel)) rfl
theorem sw_659 : (.code ⟨"StuckLines$Cubes", "shows", "(III)Z"⟩ prog_3_method_3_code 4 (some .boolean) : Cond) ∈ sk_ts := sk_in (List.mem_of_getElem? (i := 659) (by decide +kernel)) rfl
theorem sw_660 : (.methodLink "StuckLines$Cubes" 37 ⟨"StuckLines$Signals", "settleCube", "(III)V"⟩ : Cond) ∈ sk_ts := sk_in (List.mem_of_getElem? (i := 660) (by decide +kernel)) rfl
theorem sw_661 : (.methodLink "StuckLines$Cubes" 41 ⟨"StuckLines$Signals", "isContraryTo", "(LStuckLines$Signals;)Z"⟩ : Cond) ∈ sk_ts := sk_in (List.mem_of_getElem? (i := 661) (by decide +kernel)) rfl
theorem sw_662 : (.instanceMethod ⟨"StuckLines$Signals", "isContraryTo", "(LStuckLines$Signals;)Z"⟩ : Cond) ∈ sk_ts := sk_in (List.mem_of_getElem? (i := 662) (by decide +kernel)) rfl
theorem sw_663 : (.selects "StuckLines$Signals" ⟨"StuckLines$Signals", "isContraryTo", "(LStuckLines$Signals;)Z"⟩ ⟨"StuckLines$Signals", "isContraryTo", "(LStuckLines$Signals;)Z"⟩ : Cond) ∈ sk_ts := sk_in (List.mem_of_getElem? (i := 663) (by decide +kernel)) rfl
theorem sw_664 : (.code ⟨"StuckLines$Signals", "isContraryTo", "(LStuckLines$Signals;)Z"⟩ prog_7_method_8_code 4 (some .boolean) : Cond) ∈ sk_ts := sk_in (List.mem_of_getElem? (i := 664) (by decide +kernel)) rfl
theorem sw_668 : (.methodLink "StuckLinesLaw" 61 ⟨"StuckLines", "log", "(II)I"⟩ : Cond) ∈ sk_ts := sk_in (List.mem_of_getElem? (i := 668) (by decide +kernel)) rfl
theorem sw_669 : (.instanceMethod ⟨"StuckLines", "log", "(II)I"⟩ : Cond) ∈ sk_ts := sk_in (List.mem_of_getElem? (i := 669) (by decide +kernel)) rfl
theorem sw_670 : (.selects "StuckLines" ⟨"StuckLines", "log", "(II)I"⟩ ⟨"StuckLines", "log", "(II)I"⟩ : Cond) ∈ sk_ts := sk_in (List.mem_of_getElem? (i := 670) (by decide +kernel)) rfl
theorem sw_671 : (.code ⟨"StuckLines", "log", "(II)I"⟩ prog_1_method_18_code 3 (some .int) : Cond) ∈ sk_ts := sk_in (List.mem_of_getElem? (i := 671) (by decide +kernel)) rfl
theorem sw_674 : (.methodLink "StuckLines" 217 ⟨"StuckLines$SeenLog", "add", "(II)I"⟩ : Cond) ∈ sk_ts := sk_in (List.mem_of_getElem? (i := 674) (by decide +kernel)) rfl
theorem sw_675 : (.instanceMethod ⟨"StuckLines$SeenLog", "add", "(II)I"⟩ : Cond) ∈ sk_ts := sk_in (List.mem_of_getElem? (i := 675) (by decide +kernel)) rfl
theorem sw_676 : (.selects "StuckLines$SeenLog" ⟨"StuckLines$SeenLog", "add", "(II)I"⟩ ⟨"StuckLines$SeenLog", "add", "(II)I"⟩ : Cond) ∈ sk_ts := sk_in (List.mem_of_getElem? (i := 676) (by decide +kernel)) rfl
theorem sw_677 : (.code ⟨"StuckLines$SeenLog", "add", "(II)I"⟩ prog_6_method_2_code 3 (some .int) : Cond) ∈ sk_ts := sk_in (List.mem_of_getElem? (i := 677) (by decide +kernel)) rfl
theorem sw_780 : (.methodLink "StuckLinesModel" 97 ⟨"StuckLinesModel", "built", "()V"⟩ : Cond) ∈ sk_ts := sk_in (List.mem_of_getElem? (i := 780) (by decide +kernel)) rfl
theorem sw_782 : (.instanceMethod ⟨"StuckLinesModel", "built", "()V"⟩ : Cond) ∈ sk_ts := sk_in (List.mem_of_getElem? (i := 782) (by decide +kernel)) rfl
theorem sv_19 : (.selects "StuckLinesModel" ⟨"StuckLinesModel", "built", "()V"⟩ ⟨"StuckLinesModel", "built", "()V"⟩ : Cond) ∈ sk_ts := sk_inp (q := (⟨"StuckLinesModel", "built", "()V"⟩, 29)) (List.mem_of_getElem? (i := 19) (by decide +kernel)) rfl
theorem sw_8 : (.initialized "StuckLinesModel" : Cond) ∈ sk_ts := sk_in (List.mem_of_getElem? (i := 8) (by decide +kernel)) rfl
theorem sw_783 : (.code ⟨"StuckLinesModel", "built", "()V"⟩ prog_9_method_6_code 3 none : Cond) ∈ sk_ts := sk_in (List.mem_of_getElem? (i := 783) (by decide +kernel)) rfl
theorem sw_792 : (.methodLink "StuckLinesModel" 100 ⟨"StuckLinesModel", "noLine", "(I)Z"⟩ : Cond) ∈ sk_ts := sk_in (List.mem_of_getElem? (i := 792) (by decide +kernel)) rfl
theorem sw_794 : (.instanceMethod ⟨"StuckLinesModel", "noLine", "(I)Z"⟩ : Cond) ∈ sk_ts := sk_in (List.mem_of_getElem? (i := 794) (by decide +kernel)) rfl
theorem sv_20 : (.selects "StuckLinesModel" ⟨"StuckLinesModel", "noLine", "(I)Z"⟩ ⟨"StuckLinesModel", "noLine", "(I)Z"⟩ : Cond) ∈ sk_ts := sk_inp (q := (⟨"StuckLinesModel", "noLine", "(I)Z"⟩, 29)) (List.mem_of_getElem? (i := 20) (by decide +kernel)) rfl
theorem sw_795 : (.code ⟨"StuckLinesModel", "noLine", "(I)Z"⟩ prog_9_method_3_code 2 (some .boolean) : Cond) ∈ sk_ts := sk_in (List.mem_of_getElem? (i := 795) (by decide +kernel)) rfl
theorem sw_808 : (.methodLink "StuckLinesModel" 119 ⟨"StuckLinesModel", "learn", "()V"⟩ : Cond) ∈ sk_ts := sk_in (List.mem_of_getElem? (i := 808) (by decide +kernel)) rfl
theorem sw_810 : (.instanceMethod ⟨"StuckLinesModel", "learn", "()V"⟩ : Cond) ∈ sk_ts := sk_in (List.mem_of_getElem? (i := 810) (by decide +kernel)) rfl
theorem sv_21 : (.selects "StuckLinesModel" ⟨"StuckLinesModel", "learn", "()V"⟩ ⟨"StuckLinesModel", "learn", "()V"⟩ : Cond) ∈ sk_ts := sk_inp (q := (⟨"StuckLinesModel", "learn", "()V"⟩, 29)) (List.mem_of_getElem? (i := 21) (by decide +kernel)) rfl
theorem sw_811 : (.code ⟨"StuckLinesModel", "learn", "()V"⟩ prog_9_method_15_code 3 none : Cond) ∈ sk_ts := sk_in (List.mem_of_getElem? (i := 811) (by decide +kernel)) rfl
theorem sw_827 : (.methodLink "StuckLinesModel" 122 ⟨"StuckLinesModel", "leastOf", "(I)I"⟩ : Cond) ∈ sk_ts := sk_in (List.mem_of_getElem? (i := 827) (by decide +kernel)) rfl
theorem sw_829 : (.instanceMethod ⟨"StuckLinesModel", "leastOf", "(I)I"⟩ : Cond) ∈ sk_ts := sk_in (List.mem_of_getElem? (i := 829) (by decide +kernel)) rfl
theorem sv_25 : (.selects "StuckLinesModel" ⟨"StuckLinesModel", "leastOf", "(I)I"⟩ ⟨"StuckLinesModel", "leastOf", "(I)I"⟩ : Cond) ∈ sk_ts := sk_inp (q := (⟨"StuckLinesModel", "leastOf", "(I)I"⟩, 29)) (List.mem_of_getElem? (i := 25) (by decide +kernel)) rfl
theorem sw_830 : (.code ⟨"StuckLinesModel", "leastOf", "(I)I"⟩ prog_9_method_16_code 3 (some .int) : Cond) ∈ sk_ts := sk_in (List.mem_of_getElem? (i := 830) (by decide +kernel)) rfl
theorem sw_831 : (.methodLink "StuckLinesModel" 126 ⟨"StuckLinesModel", "firstAlike", "(I)I"⟩ : Cond) ∈ sk_ts := sk_in (List.mem_of_getElem? (i := 831) (by decide +kernel)) rfl
theorem sw_833 : (.instanceMethod ⟨"StuckLinesModel", "firstAlike", "(I)I"⟩ : Cond) ∈ sk_ts := sk_in (List.mem_of_getElem? (i := 833) (by decide +kernel)) rfl
theorem sv_26 : (.selects "StuckLinesModel" ⟨"StuckLinesModel", "firstAlike", "(I)I"⟩ ⟨"StuckLinesModel", "firstAlike", "(I)I"⟩ : Cond) ∈ sk_ts := sk_inp (q := (⟨"StuckLinesModel", "firstAlike", "(I)I"⟩, 29)) (List.mem_of_getElem? (i := 26) (by decide +kernel)) rfl
theorem sw_834 : (.code ⟨"StuckLinesModel", "firstAlike", "(I)I"⟩ prog_9_method_17_code 5 (some .int) : Cond) ∈ sk_ts := sk_in (List.mem_of_getElem? (i := 834) (by decide +kernel)) rfl
theorem sw_812 : (.methodLink "StuckLinesModel" 108 ⟨"StuckLinesModel", "vectors", "()I"⟩ : Cond) ∈ sk_ts := sk_in (List.mem_of_getElem? (i := 812) (by decide +kernel)) rfl
theorem sw_814 : (.instanceMethod ⟨"StuckLinesModel", "vectors", "()I"⟩ : Cond) ∈ sk_ts := sk_in (List.mem_of_getElem? (i := 814) (by decide +kernel)) rfl
theorem sv_22 : (.selects "StuckLinesModel" ⟨"StuckLinesModel", "vectors", "()I"⟩ ⟨"StuckLinesModel", "vectors", "()I"⟩ : Cond) ∈ sk_ts := sk_inp (q := (⟨"StuckLinesModel", "vectors", "()I"⟩, 29)) (List.mem_of_getElem? (i := 22) (by decide +kernel)) rfl
theorem sw_815 : (.code ⟨"StuckLinesModel", "vectors", "()I"⟩ prog_9_method_4_code 1 (some .int) : Cond) ∈ sk_ts := sk_in (List.mem_of_getElem? (i := 815) (by decide +kernel)) rfl
theorem sw_816 : (.methodLink "StuckLinesModel" 112 ⟨"StuckLinesModel", "make", "(III)V"⟩ : Cond) ∈ sk_ts := sk_in (List.mem_of_getElem? (i := 816) (by decide +kernel)) rfl
theorem sw_818 : (.instanceMethod ⟨"StuckLinesModel", "make", "(III)V"⟩ : Cond) ∈ sk_ts := sk_in (List.mem_of_getElem? (i := 818) (by decide +kernel)) rfl
theorem sv_23 : (.selects "StuckLinesModel" ⟨"StuckLinesModel", "make", "(III)V"⟩ ⟨"StuckLinesModel", "make", "(III)V"⟩ : Cond) ∈ sk_ts := sk_inp (q := (⟨"StuckLinesModel", "make", "(III)V"⟩, 29)) (List.mem_of_getElem? (i := 23) (by decide +kernel)) rfl
theorem sw_819 : (.code ⟨"StuckLinesModel", "make", "(III)V"⟩ prog_9_method_13_code 14 none : Cond) ∈ sk_ts := sk_in (List.mem_of_getElem? (i := 819) (by decide +kernel)) rfl
theorem sw_823 : (.methodLink "StuckLinesModel" 116 ⟨"StuckLinesModel", "answered", "()I"⟩ : Cond) ∈ sk_ts := sk_in (List.mem_of_getElem? (i := 823) (by decide +kernel)) rfl
theorem sw_825 : (.instanceMethod ⟨"StuckLinesModel", "answered", "()I"⟩ : Cond) ∈ sk_ts := sk_in (List.mem_of_getElem? (i := 825) (by decide +kernel)) rfl
theorem sv_24 : (.selects "StuckLinesModel" ⟨"StuckLinesModel", "answered", "()I"⟩ ⟨"StuckLinesModel", "answered", "()I"⟩ : Cond) ∈ sk_ts := sk_inp (q := (⟨"StuckLinesModel", "answered", "()I"⟩, 29)) (List.mem_of_getElem? (i := 24) (by decide +kernel)) rfl
theorem sw_826 : (.code ⟨"StuckLinesModel", "answered", "()I"⟩ prog_9_method_14_code 3 (some .int) : Cond) ∈ sk_ts := sk_in (List.mem_of_getElem? (i := 826) (by decide +kernel)) rfl
theorem sw_820 : (.methodLink "StuckLinesModel" 104 ⟨"StuckLinesModel", "madeOf", "(IIII)I"⟩ : Cond) ∈ sk_ts := sk_in (List.mem_of_getElem? (i := 820) (by decide +kernel)) rfl
theorem sw_821 : (.static ⟨"StuckLinesModel", "madeOf", "(IIII)I"⟩ : Cond) ∈ sk_ts := sk_in (List.mem_of_getElem? (i := 821) (by decide +kernel)) rfl
theorem sw_822 : (.code ⟨"StuckLinesModel", "madeOf", "(IIII)I"⟩ prog_9_method_12_code 5 (some .int) : Cond) ∈ sk_ts := sk_in (List.mem_of_getElem? (i := 822) (by decide +kernel)) rfl
theorem sw_839 : (.methodLink "StuckLinesModel" 129 ⟨"StuckLinesModel", "noFault", "(I)Z"⟩ : Cond) ∈ sk_ts := sk_in (List.mem_of_getElem? (i := 839) (by decide +kernel)) rfl
theorem sw_841 : (.instanceMethod ⟨"StuckLinesModel", "noFault", "(I)Z"⟩ : Cond) ∈ sk_ts := sk_in (List.mem_of_getElem? (i := 841) (by decide +kernel)) rfl
theorem sv_27 : (.selects "StuckLinesModel" ⟨"StuckLinesModel", "noFault", "(I)Z"⟩ ⟨"StuckLinesModel", "noFault", "(I)Z"⟩ : Cond) ∈ sk_ts := sk_inp (q := (⟨"StuckLinesModel", "noFault", "(I)Z"⟩, 29)) (List.mem_of_getElem? (i := 27) (by decide +kernel)) rfl
theorem sw_842 : (.code ⟨"StuckLinesModel", "noFault", "(I)Z"⟩ prog_9_method_5_code 2 (some .boolean) : Cond) ∈ sk_ts := sk_in (List.mem_of_getElem? (i := 842) (by decide +kernel)) rfl
theorem sw_875 : (.methodLink "StuckLinesModel" 132 ⟨"StuckLinesModel", "tells", "(III)Z"⟩ : Cond) ∈ sk_ts := sk_in (List.mem_of_getElem? (i := 875) (by decide +kernel)) rfl
theorem sw_877 : (.instanceMethod ⟨"StuckLinesModel", "tells", "(III)Z"⟩ : Cond) ∈ sk_ts := sk_in (List.mem_of_getElem? (i := 877) (by decide +kernel)) rfl
theorem sv_28 : (.selects "StuckLinesModel" ⟨"StuckLinesModel", "tells", "(III)Z"⟩ ⟨"StuckLinesModel", "tells", "(III)Z"⟩ : Cond) ∈ sk_ts := sk_inp (q := (⟨"StuckLinesModel", "tells", "(III)Z"⟩, 29)) (List.mem_of_getElem? (i := 28) (by decide +kernel)) rfl
theorem sw_878 : (.code ⟨"StuckLinesModel", "tells", "(III)Z"⟩ prog_9_method_27_code 7 (some .boolean) : Cond) ∈ sk_ts := sk_in (List.mem_of_getElem? (i := 878) (by decide +kernel)) rfl
theorem sw_883 : (.methodLink "StuckLinesModel" 143 ⟨"StuckLinesModel", "pack", "()V"⟩ : Cond) ∈ sk_ts := sk_in (List.mem_of_getElem? (i := 883) (by decide +kernel)) rfl
theorem sw_885 : (.instanceMethod ⟨"StuckLinesModel", "pack", "()V"⟩ : Cond) ∈ sk_ts := sk_in (List.mem_of_getElem? (i := 885) (by decide +kernel)) rfl
theorem sv_29 : (.selects "StuckLinesModel" ⟨"StuckLinesModel", "pack", "()V"⟩ ⟨"StuckLinesModel", "pack", "()V"⟩ : Cond) ∈ sk_ts := sk_inp (q := (⟨"StuckLinesModel", "pack", "()V"⟩, 29)) (List.mem_of_getElem? (i := 29) (by decide +kernel)) rfl
theorem sw_886 : (.code ⟨"StuckLinesModel", "pack", "()V"⟩ prog_9_method_30_code 4 none : Cond) ∈ sk_ts := sk_in (List.mem_of_getElem? (i := 886) (by decide +kernel)) rfl
theorem sw_887 : (.methodLink "StuckLinesModel" 139 ⟨"StuckLinesModel", "covered", "(II)Z"⟩ : Cond) ∈ sk_ts := sk_in (List.mem_of_getElem? (i := 887) (by decide +kernel)) rfl
theorem sw_889 : (.instanceMethod ⟨"StuckLinesModel", "covered", "(II)Z"⟩ : Cond) ∈ sk_ts := sk_in (List.mem_of_getElem? (i := 889) (by decide +kernel)) rfl
theorem sv_30 : (.selects "StuckLinesModel" ⟨"StuckLinesModel", "covered", "(II)Z"⟩ ⟨"StuckLinesModel", "covered", "(II)Z"⟩ : Cond) ∈ sk_ts := sk_inp (q := (⟨"StuckLinesModel", "covered", "(II)Z"⟩, 29)) (List.mem_of_getElem? (i := 30) (by decide +kernel)) rfl
theorem sw_890 : (.code ⟨"StuckLinesModel", "covered", "(II)Z"⟩ prog_9_method_29_code 5 (some .boolean) : Cond) ∈ sk_ts := sk_in (List.mem_of_getElem? (i := 890) (by decide +kernel)) rfl
theorem sw_903 : (.methodLink "StuckLinesModel" 146 ⟨"StuckLinesModel", "gives", "(I)Z"⟩ : Cond) ∈ sk_ts := sk_in (List.mem_of_getElem? (i := 903) (by decide +kernel)) rfl
theorem sw_905 : (.instanceMethod ⟨"StuckLinesModel", "gives", "(I)Z"⟩ : Cond) ∈ sk_ts := sk_in (List.mem_of_getElem? (i := 905) (by decide +kernel)) rfl
theorem sv_31 : (.selects "StuckLinesModel" ⟨"StuckLinesModel", "gives", "(I)Z"⟩ ⟨"StuckLinesModel", "gives", "(I)Z"⟩ : Cond) ∈ sk_ts := sk_inp (q := (⟨"StuckLinesModel", "gives", "(I)Z"⟩, 29)) (List.mem_of_getElem? (i := 31) (by decide +kernel)) rfl
theorem sw_906 : (.code ⟨"StuckLinesModel", "gives", "(I)Z"⟩ prog_9_method_34_code 5 (some .boolean) : Cond) ∈ sk_ts := sk_in (List.mem_of_getElem? (i := 906) (by decide +kernel)) rfl
theorem sw_17 : (.methodLink "StuckLinesLaw" 64 ⟨"StuckLines", "<init>", "()V"⟩ : Cond) ∈ sk_ts := sk_in (List.mem_of_getElem? (i := 17) (by decide +kernel)) rfl
theorem sw_18 : (.instanceMethod ⟨"StuckLines", "<init>", "()V"⟩ : Cond) ∈ sk_ts := sk_in (List.mem_of_getElem? (i := 18) (by decide +kernel)) rfl
theorem sw_19 : (.code ⟨"StuckLines", "<init>", "()V"⟩ prog_1_method_1_code 1 none : Cond) ∈ sk_ts := sk_in (List.mem_of_getElem? (i := 19) (by decide +kernel)) rfl
theorem sw_680 : (.methodLink "StuckLinesLaw" 67 ⟨"StuckLinesModel", "<init>", "()V"⟩ : Cond) ∈ sk_ts := sk_in (List.mem_of_getElem? (i := 680) (by decide +kernel)) rfl
theorem sw_681 : (.instanceMethod ⟨"StuckLinesModel", "<init>", "()V"⟩ : Cond) ∈ sk_ts := sk_in (List.mem_of_getElem? (i := 681) (by decide +kernel)) rfl
theorem sw_682 : (.code ⟨"StuckLinesModel", "<init>", "()V"⟩ prog_9_method_1_code 1 none : Cond) ∈ sk_ts := sk_in (List.mem_of_getElem? (i := 682) (by decide +kernel)) rfl
theorem sw_231 : (.methodLink "StuckLinesLaw" 68 ⟨"StuckLines", "clear", "()V"⟩ : Cond) ∈ sk_ts := sk_in (List.mem_of_getElem? (i := 231) (by decide +kernel)) rfl
theorem sw_232 : (.instanceMethod ⟨"StuckLines", "clear", "()V"⟩ : Cond) ∈ sk_ts := sk_in (List.mem_of_getElem? (i := 232) (by decide +kernel)) rfl
theorem sw_233 : (.selects "StuckLines" ⟨"StuckLines", "clear", "()V"⟩ ⟨"StuckLines", "clear", "()V"⟩ : Cond) ∈ sk_ts := sk_in (List.mem_of_getElem? (i := 233) (by decide +kernel)) rfl
theorem sw_234 : (.code ⟨"StuckLines", "clear", "()V"⟩ prog_1_method_2_code 1 none : Cond) ∈ sk_ts := sk_in (List.mem_of_getElem? (i := 234) (by decide +kernel)) rfl
theorem sw_776 : (.methodLink "StuckLinesLaw" 71 ⟨"StuckLinesModel", "clear", "()V"⟩ : Cond) ∈ sk_ts := sk_in (List.mem_of_getElem? (i := 776) (by decide +kernel)) rfl
theorem sw_777 : (.instanceMethod ⟨"StuckLinesModel", "clear", "()V"⟩ : Cond) ∈ sk_ts := sk_in (List.mem_of_getElem? (i := 777) (by decide +kernel)) rfl
theorem sw_778 : (.selects "StuckLinesModel" ⟨"StuckLinesModel", "clear", "()V"⟩ ⟨"StuckLinesModel", "clear", "()V"⟩ : Cond) ∈ sk_ts := sk_in (List.mem_of_getElem? (i := 778) (by decide +kernel)) rfl
theorem sw_779 : (.code ⟨"StuckLinesModel", "clear", "()V"⟩ prog_9_method_7_code 1 none : Cond) ∈ sk_ts := sk_in (List.mem_of_getElem? (i := 779) (by decide +kernel)) rfl
theorem sw_355 : (.methodLink "StuckLinesLaw" 72 ⟨"StuckLinesLaw", "source", "(LStuckLines;Z[J)I"⟩ : Cond) ∈ sk_ts := sk_in (List.mem_of_getElem? (i := 355) (by decide +kernel)) rfl
theorem sw_356 : (.static ⟨"StuckLinesLaw", "source", "(LStuckLines;Z[J)I"⟩ : Cond) ∈ sk_ts := sk_in (List.mem_of_getElem? (i := 356) (by decide +kernel)) rfl
theorem sw_0 : (.initialized "StuckLinesLaw" : Cond) ∈ sk_ts := sk_in (List.mem_of_getElem? (i := 0) (by decide +kernel)) rfl
theorem sw_357 : (.codeWith ⟨"StuckLinesLaw", "source", "(LStuckLines;Z[J)I"⟩ method_3_code 4 (some .int) [(0, 9, 12, 13)] : Cond) ∈ sk_ts := sk_in (List.mem_of_getElem? (i := 357) (by decide +kernel)) rfl
theorem sw_784 : (.methodLink "StuckLinesLaw" 77 ⟨"StuckLinesModel", "source", "(Z)I"⟩ : Cond) ∈ sk_ts := sk_in (List.mem_of_getElem? (i := 784) (by decide +kernel)) rfl
theorem sw_785 : (.instanceMethod ⟨"StuckLinesModel", "source", "(Z)I"⟩ : Cond) ∈ sk_ts := sk_in (List.mem_of_getElem? (i := 785) (by decide +kernel)) rfl
theorem sw_786 : (.selects "StuckLinesModel" ⟨"StuckLinesModel", "source", "(Z)I"⟩ ⟨"StuckLinesModel", "source", "(Z)I"⟩ : Cond) ∈ sk_ts := sk_in (List.mem_of_getElem? (i := 786) (by decide +kernel)) rfl
theorem sw_787 : (.code ⟨"StuckLinesModel", "source", "(Z)I"⟩ prog_9_method_8_code 2 (some .int) : Cond) ∈ sk_ts := sk_in (List.mem_of_getElem? (i := 787) (by decide +kernel)) rfl
theorem sw_772 : (.methodLink "StuckLinesLaw" 78 ⟨"StuckLinesModel", "thrown", "()I"⟩ : Cond) ∈ sk_ts := sk_in (List.mem_of_getElem? (i := 772) (by decide +kernel)) rfl
theorem sw_773 : (.instanceMethod ⟨"StuckLinesModel", "thrown", "()I"⟩ : Cond) ∈ sk_ts := sk_in (List.mem_of_getElem? (i := 773) (by decide +kernel)) rfl
theorem sw_774 : (.selects "StuckLinesModel" ⟨"StuckLinesModel", "thrown", "()I"⟩ ⟨"StuckLinesModel", "thrown", "()I"⟩ : Cond) ∈ sk_ts := sk_in (List.mem_of_getElem? (i := 774) (by decide +kernel)) rfl
theorem sw_775 : (.code ⟨"StuckLinesModel", "thrown", "()I"⟩ prog_9_method_2_code 1 (some .int) : Cond) ∈ sk_ts := sk_in (List.mem_of_getElem? (i := 775) (by decide +kernel)) rfl
theorem sw_439 : (.methodLink "StuckLinesLaw" 82 ⟨"StuckLinesLaw", "gate", "(LStuckLines;IIII[J)I"⟩ : Cond) ∈ sk_ts := sk_in (List.mem_of_getElem? (i := 439) (by decide +kernel)) rfl
theorem sw_440 : (.static ⟨"StuckLinesLaw", "gate", "(LStuckLines;IIII[J)I"⟩ : Cond) ∈ sk_ts := sk_in (List.mem_of_getElem? (i := 440) (by decide +kernel)) rfl
theorem sw_441 : (.codeWith ⟨"StuckLinesLaw", "gate", "(LStuckLines;IIII[J)I"⟩ method_4_code 7 (some .int) [(0, 14, 17, 19), (0, 14, 21, 21), (0, 14, 25, 13)] : Cond) ∈ sk_ts := sk_in (List.mem_of_getElem? (i := 441) (by decide +kernel)) rfl
theorem sw_788 : (.methodLink "StuckLinesLaw" 85 ⟨"StuckLinesModel", "gate", "(IIII)I"⟩ : Cond) ∈ sk_ts := sk_in (List.mem_of_getElem? (i := 788) (by decide +kernel)) rfl
theorem sw_789 : (.instanceMethod ⟨"StuckLinesModel", "gate", "(IIII)I"⟩ : Cond) ∈ sk_ts := sk_in (List.mem_of_getElem? (i := 789) (by decide +kernel)) rfl
theorem sw_790 : (.selects "StuckLinesModel" ⟨"StuckLinesModel", "gate", "(IIII)I"⟩ ⟨"StuckLinesModel", "gate", "(IIII)I"⟩ : Cond) ∈ sk_ts := sk_in (List.mem_of_getElem? (i := 790) (by decide +kernel)) rfl
theorem sw_791 : (.code ⟨"StuckLinesModel", "gate", "(IIII)I"⟩ prog_9_method_9_code 7 (some .int) : Cond) ∈ sk_ts := sk_in (List.mem_of_getElem? (i := 791) (by decide +kernel)) rfl
theorem sw_498 : (.methodLink "StuckLinesLaw" 86 ⟨"StuckLinesLaw", "output", "(LStuckLines;I[J)I"⟩ : Cond) ∈ sk_ts := sk_in (List.mem_of_getElem? (i := 498) (by decide +kernel)) rfl
theorem sw_499 : (.static ⟨"StuckLinesLaw", "output", "(LStuckLines;I[J)I"⟩ : Cond) ∈ sk_ts := sk_in (List.mem_of_getElem? (i := 499) (by decide +kernel)) rfl
theorem sw_500 : (.codeWith ⟨"StuckLinesLaw", "output", "(LStuckLines;I[J)I"⟩ method_5_code 4 (some .int) [(0, 9, 12, 21), (0, 9, 15, 13)] : Cond) ∈ sk_ts := sk_in (List.mem_of_getElem? (i := 500) (by decide +kernel)) rfl
theorem sw_796 : (.methodLink "StuckLinesLaw" 89 ⟨"StuckLinesModel", "output", "(I)I"⟩ : Cond) ∈ sk_ts := sk_in (List.mem_of_getElem? (i := 796) (by decide +kernel)) rfl
theorem sw_797 : (.instanceMethod ⟨"StuckLinesModel", "output", "(I)I"⟩ : Cond) ∈ sk_ts := sk_in (List.mem_of_getElem? (i := 797) (by decide +kernel)) rfl
theorem sw_798 : (.selects "StuckLinesModel" ⟨"StuckLinesModel", "output", "(I)I"⟩ ⟨"StuckLinesModel", "output", "(I)I"⟩ : Cond) ∈ sk_ts := sk_in (List.mem_of_getElem? (i := 798) (by decide +kernel)) rfl
theorem sw_799 : (.code ⟨"StuckLinesModel", "output", "(I)I"⟩ prog_9_method_10_code 4 (some .int) : Cond) ∈ sk_ts := sk_in (List.mem_of_getElem? (i := 799) (by decide +kernel)) rfl
theorem sw_522 : (.methodLink "StuckLinesLaw" 90 ⟨"StuckLinesLaw", "data", "(LStuckLines;II)I"⟩ : Cond) ∈ sk_ts := sk_in (List.mem_of_getElem? (i := 522) (by decide +kernel)) rfl
theorem sw_523 : (.static ⟨"StuckLinesLaw", "data", "(LStuckLines;II)I"⟩ : Cond) ∈ sk_ts := sk_in (List.mem_of_getElem? (i := 523) (by decide +kernel)) rfl
theorem sw_524 : (.codeWith ⟨"StuckLinesLaw", "data", "(LStuckLines;II)I"⟩ method_6_code 4 (some .int) [(0, 6, 9, 21), (0, 6, 12, 19)] : Cond) ∈ sk_ts := sk_in (List.mem_of_getElem? (i := 524) (by decide +kernel)) rfl
theorem sw_800 : (.methodLink "StuckLinesLaw" 93 ⟨"StuckLinesModel", "data", "(II)V"⟩ : Cond) ∈ sk_ts := sk_in (List.mem_of_getElem? (i := 800) (by decide +kernel)) rfl
theorem sw_801 : (.instanceMethod ⟨"StuckLinesModel", "data", "(II)V"⟩ : Cond) ∈ sk_ts := sk_in (List.mem_of_getElem? (i := 801) (by decide +kernel)) rfl
theorem sw_802 : (.selects "StuckLinesModel" ⟨"StuckLinesModel", "data", "(II)V"⟩ ⟨"StuckLinesModel", "data", "(II)V"⟩ : Cond) ∈ sk_ts := sk_in (List.mem_of_getElem? (i := 802) (by decide +kernel)) rfl
theorem sw_803 : (.code ⟨"StuckLinesModel", "data", "(II)V"⟩ prog_9_method_11_code 4 none : Cond) ∈ sk_ts := sk_in (List.mem_of_getElem? (i := 803) (by decide +kernel)) rfl
theorem sw_534 : (.methodLink "StuckLinesLaw" 94 ⟨"StuckLinesLaw", "count", "(LStuckLines;I[J)I"⟩ : Cond) ∈ sk_ts := sk_in (List.mem_of_getElem? (i := 534) (by decide +kernel)) rfl
theorem sw_535 : (.static ⟨"StuckLinesLaw", "count", "(LStuckLines;I[J)I"⟩ : Cond) ∈ sk_ts := sk_in (List.mem_of_getElem? (i := 535) (by decide +kernel)) rfl
theorem sw_536 : (.codeWith ⟨"StuckLinesLaw", "count", "(LStuckLines;I[J)I"⟩ method_7_code 4 (some .int) [(0, 9, 12, 19)] : Cond) ∈ sk_ts := sk_in (List.mem_of_getElem? (i := 536) (by decide +kernel)) rfl
theorem sw_804 : (.methodLink "StuckLinesLaw" 96 ⟨"StuckLinesModel", "count", "(I)I"⟩ : Cond) ∈ sk_ts := sk_in (List.mem_of_getElem? (i := 804) (by decide +kernel)) rfl
theorem sw_805 : (.instanceMethod ⟨"StuckLinesModel", "count", "(I)I"⟩ : Cond) ∈ sk_ts := sk_in (List.mem_of_getElem? (i := 805) (by decide +kernel)) rfl
theorem sw_806 : (.selects "StuckLinesModel" ⟨"StuckLinesModel", "count", "(I)I"⟩ ⟨"StuckLinesModel", "count", "(I)I"⟩ : Cond) ∈ sk_ts := sk_in (List.mem_of_getElem? (i := 806) (by decide +kernel)) rfl
theorem sw_807 : (.code ⟨"StuckLinesModel", "count", "(I)I"⟩ prog_9_method_18_code 5 (some .int) : Cond) ∈ sk_ts := sk_in (List.mem_of_getElem? (i := 807) (by decide +kernel)) rfl
theorem sw_558 : (.methodLink "StuckLinesLaw" 97 ⟨"StuckLinesLaw", "value", "(LStuckLines;III[J)I"⟩ : Cond) ∈ sk_ts := sk_in (List.mem_of_getElem? (i := 558) (by decide +kernel)) rfl
theorem sw_559 : (.static ⟨"StuckLinesLaw", "value", "(LStuckLines;III[J)I"⟩ : Cond) ∈ sk_ts := sk_in (List.mem_of_getElem? (i := 559) (by decide +kernel)) rfl
theorem sw_560 : (.codeWith ⟨"StuckLinesLaw", "value", "(LStuckLines;III[J)I"⟩ method_8_code 6 (some .int) [(0, 12, 15, 21)] : Cond) ∈ sk_ts := sk_in (List.mem_of_getElem? (i := 560) (by decide +kernel)) rfl
theorem sw_835 : (.methodLink "StuckLinesLaw" 100 ⟨"StuckLinesModel", "value", "(III)I"⟩ : Cond) ∈ sk_ts := sk_in (List.mem_of_getElem? (i := 835) (by decide +kernel)) rfl
theorem sw_836 : (.instanceMethod ⟨"StuckLinesModel", "value", "(III)I"⟩ : Cond) ∈ sk_ts := sk_in (List.mem_of_getElem? (i := 836) (by decide +kernel)) rfl
theorem sw_837 : (.selects "StuckLinesModel" ⟨"StuckLinesModel", "value", "(III)I"⟩ ⟨"StuckLinesModel", "value", "(III)I"⟩ : Cond) ∈ sk_ts := sk_in (List.mem_of_getElem? (i := 837) (by decide +kernel)) rfl
theorem sw_838 : (.code ⟨"StuckLinesModel", "value", "(III)I"⟩ prog_9_method_19_code 4 (some .int) : Cond) ∈ sk_ts := sk_in (List.mem_of_getElem? (i := 838) (by decide +kernel)) rfl
theorem sw_585 : (.methodLink "StuckLinesLaw" 101 ⟨"StuckLinesLaw", "response", "(LStuckLines;II[J)I"⟩ : Cond) ∈ sk_ts := sk_in (List.mem_of_getElem? (i := 585) (by decide +kernel)) rfl
theorem sw_586 : (.static ⟨"StuckLinesLaw", "response", "(LStuckLines;II[J)I"⟩ : Cond) ∈ sk_ts := sk_in (List.mem_of_getElem? (i := 586) (by decide +kernel)) rfl
theorem sw_587 : (.codeWith ⟨"StuckLinesLaw", "response", "(LStuckLines;II[J)I"⟩ method_9_code 5 (some .int) [(0, 10, 13, 21)] : Cond) ∈ sk_ts := sk_in (List.mem_of_getElem? (i := 587) (by decide +kernel)) rfl
theorem sw_843 : (.methodLink "StuckLinesLaw" 104 ⟨"StuckLinesModel", "response", "(II)I"⟩ : Cond) ∈ sk_ts := sk_in (List.mem_of_getElem? (i := 843) (by decide +kernel)) rfl
theorem sw_844 : (.instanceMethod ⟨"StuckLinesModel", "response", "(II)I"⟩ : Cond) ∈ sk_ts := sk_in (List.mem_of_getElem? (i := 844) (by decide +kernel)) rfl
theorem sw_845 : (.selects "StuckLinesModel" ⟨"StuckLinesModel", "response", "(II)I"⟩ ⟨"StuckLinesModel", "response", "(II)I"⟩ : Cond) ∈ sk_ts := sk_in (List.mem_of_getElem? (i := 845) (by decide +kernel)) rfl
theorem sw_846 : (.code ⟨"StuckLinesModel", "response", "(II)I"⟩ prog_9_method_20_code 3 (some .int) : Cond) ∈ sk_ts := sk_in (List.mem_of_getElem? (i := 846) (by decide +kernel)) rfl
theorem sw_243 : (.methodLink "StuckLinesLaw" 105 ⟨"StuckLines", "fault", "(III)I"⟩ : Cond) ∈ sk_ts := sk_in (List.mem_of_getElem? (i := 243) (by decide +kernel)) rfl
theorem sw_244 : (.instanceMethod ⟨"StuckLines", "fault", "(III)I"⟩ : Cond) ∈ sk_ts := sk_in (List.mem_of_getElem? (i := 244) (by decide +kernel)) rfl
theorem sw_245 : (.selects "StuckLines" ⟨"StuckLines", "fault", "(III)I"⟩ ⟨"StuckLines", "fault", "(III)I"⟩ : Cond) ∈ sk_ts := sk_in (List.mem_of_getElem? (i := 245) (by decide +kernel)) rfl
theorem sw_246 : (.code ⟨"StuckLines", "fault", "(III)I"⟩ prog_1_method_10_code 4 (some .int) : Cond) ∈ sk_ts := sk_in (List.mem_of_getElem? (i := 246) (by decide +kernel)) rfl
theorem sw_847 : (.methodLink "StuckLinesLaw" 108 ⟨"StuckLinesModel", "fault", "(III)I"⟩ : Cond) ∈ sk_ts := sk_in (List.mem_of_getElem? (i := 847) (by decide +kernel)) rfl
theorem sw_848 : (.instanceMethod ⟨"StuckLinesModel", "fault", "(III)I"⟩ : Cond) ∈ sk_ts := sk_in (List.mem_of_getElem? (i := 848) (by decide +kernel)) rfl
theorem sw_849 : (.selects "StuckLinesModel" ⟨"StuckLinesModel", "fault", "(III)I"⟩ ⟨"StuckLinesModel", "fault", "(III)I"⟩ : Cond) ∈ sk_ts := sk_in (List.mem_of_getElem? (i := 849) (by decide +kernel)) rfl
theorem sw_850 : (.code ⟨"StuckLinesModel", "fault", "(III)I"⟩ prog_9_method_21_code 5 (some .int) : Cond) ∈ sk_ts := sk_in (List.mem_of_getElem? (i := 850) (by decide +kernel)) rfl
theorem sw_593 : (.methodLink "StuckLinesLaw" 109 ⟨"StuckLinesLaw", "faultAt", "(LStuckLines;II[J)I"⟩ : Cond) ∈ sk_ts := sk_in (List.mem_of_getElem? (i := 593) (by decide +kernel)) rfl
theorem sw_594 : (.static ⟨"StuckLinesLaw", "faultAt", "(LStuckLines;II[J)I"⟩ : Cond) ∈ sk_ts := sk_in (List.mem_of_getElem? (i := 594) (by decide +kernel)) rfl
theorem sw_595 : (.codeWith ⟨"StuckLinesLaw", "faultAt", "(LStuckLines;II[J)I"⟩ method_10_code 5 (some .int) [(0, 10, 13, 21), (0, 10, 17, 19)] : Cond) ∈ sk_ts := sk_in (List.mem_of_getElem? (i := 595) (by decide +kernel)) rfl
theorem sw_851 : (.methodLink "StuckLinesLaw" 111 ⟨"StuckLinesModel", "faultAt", "(II)I"⟩ : Cond) ∈ sk_ts := sk_in (List.mem_of_getElem? (i := 851) (by decide +kernel)) rfl
theorem sw_852 : (.instanceMethod ⟨"StuckLinesModel", "faultAt", "(II)I"⟩ : Cond) ∈ sk_ts := sk_in (List.mem_of_getElem? (i := 852) (by decide +kernel)) rfl
theorem sw_853 : (.selects "StuckLinesModel" ⟨"StuckLinesModel", "faultAt", "(II)I"⟩ ⟨"StuckLinesModel", "faultAt", "(II)I"⟩ : Cond) ∈ sk_ts := sk_in (List.mem_of_getElem? (i := 853) (by decide +kernel)) rfl
theorem sw_854 : (.code ⟨"StuckLinesModel", "faultAt", "(II)I"⟩ prog_9_method_22_code 3 (some .int) : Cond) ∈ sk_ts := sk_in (List.mem_of_getElem? (i := 854) (by decide +kernel)) rfl
theorem sw_603 : (.methodLink "StuckLinesLaw" 112 ⟨"StuckLinesLaw", "least", "(LStuckLines;I[J)I"⟩ : Cond) ∈ sk_ts := sk_in (List.mem_of_getElem? (i := 603) (by decide +kernel)) rfl
theorem sw_604 : (.static ⟨"StuckLinesLaw", "least", "(LStuckLines;I[J)I"⟩ : Cond) ∈ sk_ts := sk_in (List.mem_of_getElem? (i := 604) (by decide +kernel)) rfl
theorem sw_605 : (.codeWith ⟨"StuckLinesLaw", "least", "(LStuckLines;I[J)I"⟩ method_11_code 4 (some .int) [(0, 9, 12, 21)] : Cond) ∈ sk_ts := sk_in (List.mem_of_getElem? (i := 605) (by decide +kernel)) rfl
theorem sw_855 : (.methodLink "StuckLinesLaw" 114 ⟨"StuckLinesModel", "least", "(I)I"⟩ : Cond) ∈ sk_ts := sk_in (List.mem_of_getElem? (i := 855) (by decide +kernel)) rfl
theorem sw_856 : (.instanceMethod ⟨"StuckLinesModel", "least", "(I)I"⟩ : Cond) ∈ sk_ts := sk_in (List.mem_of_getElem? (i := 856) (by decide +kernel)) rfl
theorem sw_857 : (.selects "StuckLinesModel" ⟨"StuckLinesModel", "least", "(I)I"⟩ ⟨"StuckLinesModel", "least", "(I)I"⟩ : Cond) ∈ sk_ts := sk_in (List.mem_of_getElem? (i := 857) (by decide +kernel)) rfl
theorem sw_858 : (.code ⟨"StuckLinesModel", "least", "(I)I"⟩ prog_9_method_23_code 2 (some .int) : Cond) ∈ sk_ts := sk_in (List.mem_of_getElem? (i := 858) (by decide +kernel)) rfl
theorem sw_611 : (.methodLink "StuckLinesLaw" 115 ⟨"StuckLinesLaw", "showing", "(LStuckLines;I[J)I"⟩ : Cond) ∈ sk_ts := sk_in (List.mem_of_getElem? (i := 611) (by decide +kernel)) rfl
theorem sw_612 : (.static ⟨"StuckLinesLaw", "showing", "(LStuckLines;I[J)I"⟩ : Cond) ∈ sk_ts := sk_in (List.mem_of_getElem? (i := 612) (by decide +kernel)) rfl
theorem sw_613 : (.codeWith ⟨"StuckLinesLaw", "showing", "(LStuckLines;I[J)I"⟩ method_12_code 4 (some .int) [(0, 8, 11, 21)] : Cond) ∈ sk_ts := sk_in (List.mem_of_getElem? (i := 613) (by decide +kernel)) rfl
theorem sw_859 : (.methodLink "StuckLinesLaw" 117 ⟨"StuckLinesModel", "showing", "(I)J"⟩ : Cond) ∈ sk_ts := sk_in (List.mem_of_getElem? (i := 859) (by decide +kernel)) rfl
theorem sw_860 : (.instanceMethod ⟨"StuckLinesModel", "showing", "(I)J"⟩ : Cond) ∈ sk_ts := sk_in (List.mem_of_getElem? (i := 860) (by decide +kernel)) rfl
theorem sw_861 : (.selects "StuckLinesModel" ⟨"StuckLinesModel", "showing", "(I)J"⟩ ⟨"StuckLinesModel", "showing", "(I)J"⟩ : Cond) ∈ sk_ts := sk_in (List.mem_of_getElem? (i := 861) (by decide +kernel)) rfl
theorem sw_862 : (.code ⟨"StuckLinesModel", "showing", "(I)J"⟩ prog_9_method_24_code 5 (some .long) : Cond) ∈ sk_ts := sk_in (List.mem_of_getElem? (i := 862) (by decide +kernel)) rfl
theorem sw_619 : (.methodLink "StuckLinesLaw" 118 ⟨"StuckLinesLaw", "alike", "(LStuckLines;I[J)I"⟩ : Cond) ∈ sk_ts := sk_in (List.mem_of_getElem? (i := 619) (by decide +kernel)) rfl
theorem sw_620 : (.static ⟨"StuckLinesLaw", "alike", "(LStuckLines;I[J)I"⟩ : Cond) ∈ sk_ts := sk_in (List.mem_of_getElem? (i := 620) (by decide +kernel)) rfl
theorem sw_621 : (.codeWith ⟨"StuckLinesLaw", "alike", "(LStuckLines;I[J)I"⟩ method_13_code 4 (some .int) [(0, 9, 12, 21)] : Cond) ∈ sk_ts := sk_in (List.mem_of_getElem? (i := 621) (by decide +kernel)) rfl
theorem sw_863 : (.methodLink "StuckLinesLaw" 120 ⟨"StuckLinesModel", "alike", "(I)I"⟩ : Cond) ∈ sk_ts := sk_in (List.mem_of_getElem? (i := 863) (by decide +kernel)) rfl
theorem sw_864 : (.instanceMethod ⟨"StuckLinesModel", "alike", "(I)I"⟩ : Cond) ∈ sk_ts := sk_in (List.mem_of_getElem? (i := 864) (by decide +kernel)) rfl
theorem sw_865 : (.selects "StuckLinesModel" ⟨"StuckLinesModel", "alike", "(I)I"⟩ ⟨"StuckLinesModel", "alike", "(I)I"⟩ : Cond) ∈ sk_ts := sk_in (List.mem_of_getElem? (i := 865) (by decide +kernel)) rfl
theorem sw_866 : (.code ⟨"StuckLinesModel", "alike", "(I)I"⟩ prog_9_method_25_code 2 (some .int) : Cond) ∈ sk_ts := sk_in (List.mem_of_getElem? (i := 866) (by decide +kernel)) rfl
theorem sw_627 : (.methodLink "StuckLinesLaw" 121 ⟨"StuckLinesLaw", "ternary", "(LStuckLines;IIII[J)I"⟩ : Cond) ∈ sk_ts := sk_in (List.mem_of_getElem? (i := 627) (by decide +kernel)) rfl
theorem sw_628 : (.static ⟨"StuckLinesLaw", "ternary", "(LStuckLines;IIII[J)I"⟩ : Cond) ∈ sk_ts := sk_in (List.mem_of_getElem? (i := 628) (by decide +kernel)) rfl
theorem sw_629 : (.codeWith ⟨"StuckLinesLaw", "ternary", "(LStuckLines;IIII[J)I"⟩ method_14_code 7 (some .int) [(0, 14, 17, 21), (0, 14, 21, 19)] : Cond) ∈ sk_ts := sk_in (List.mem_of_getElem? (i := 629) (by decide +kernel)) rfl
theorem sw_867 : (.methodLink "StuckLinesLaw" 123 ⟨"StuckLinesModel", "ternary", "(IIII)I"⟩ : Cond) ∈ sk_ts := sk_in (List.mem_of_getElem? (i := 867) (by decide +kernel)) rfl
theorem sw_868 : (.instanceMethod ⟨"StuckLinesModel", "ternary", "(IIII)I"⟩ : Cond) ∈ sk_ts := sk_in (List.mem_of_getElem? (i := 868) (by decide +kernel)) rfl
theorem sw_869 : (.selects "StuckLinesModel" ⟨"StuckLinesModel", "ternary", "(IIII)I"⟩ ⟨"StuckLinesModel", "ternary", "(IIII)I"⟩ : Cond) ∈ sk_ts := sk_in (List.mem_of_getElem? (i := 869) (by decide +kernel)) rfl
theorem sw_870 : (.code ⟨"StuckLinesModel", "ternary", "(IIII)I"⟩ prog_9_method_26_code 7 (some .int) : Cond) ∈ sk_ts := sk_in (List.mem_of_getElem? (i := 870) (by decide +kernel)) rfl
theorem sw_645 : (.methodLink "StuckLinesLaw" 124 ⟨"StuckLinesLaw", "cube", "(LStuckLines;I[J)I"⟩ : Cond) ∈ sk_ts := sk_in (List.mem_of_getElem? (i := 645) (by decide +kernel)) rfl
theorem sw_646 : (.static ⟨"StuckLinesLaw", "cube", "(LStuckLines;I[J)I"⟩ : Cond) ∈ sk_ts := sk_in (List.mem_of_getElem? (i := 646) (by decide +kernel)) rfl
theorem sw_647 : (.codeWith ⟨"StuckLinesLaw", "cube", "(LStuckLines;I[J)I"⟩ method_15_code 4 (some .int) [(0, 9, 12, 21)] : Cond) ∈ sk_ts := sk_in (List.mem_of_getElem? (i := 647) (by decide +kernel)) rfl
theorem sw_871 : (.methodLink "StuckLinesLaw" 126 ⟨"StuckLinesModel", "cube", "(I)I"⟩ : Cond) ∈ sk_ts := sk_in (List.mem_of_getElem? (i := 871) (by decide +kernel)) rfl
theorem sw_872 : (.instanceMethod ⟨"StuckLinesModel", "cube", "(I)I"⟩ : Cond) ∈ sk_ts := sk_in (List.mem_of_getElem? (i := 872) (by decide +kernel)) rfl
theorem sw_873 : (.selects "StuckLinesModel" ⟨"StuckLinesModel", "cube", "(I)I"⟩ ⟨"StuckLinesModel", "cube", "(I)I"⟩ : Cond) ∈ sk_ts := sk_in (List.mem_of_getElem? (i := 873) (by decide +kernel)) rfl
theorem sw_874 : (.code ⟨"StuckLinesModel", "cube", "(I)I"⟩ prog_9_method_28_code 6 (some .int) : Cond) ∈ sk_ts := sk_in (List.mem_of_getElem? (i := 874) (by decide +kernel)) rfl
theorem sw_255 : (.methodLink "StuckLinesLaw" 127 ⟨"StuckLines", "packed", "(I)I"⟩ : Cond) ∈ sk_ts := sk_in (List.mem_of_getElem? (i := 255) (by decide +kernel)) rfl
theorem sw_256 : (.instanceMethod ⟨"StuckLines", "packed", "(I)I"⟩ : Cond) ∈ sk_ts := sk_in (List.mem_of_getElem? (i := 256) (by decide +kernel)) rfl
theorem sw_257 : (.selects "StuckLines" ⟨"StuckLines", "packed", "(I)I"⟩ ⟨"StuckLines", "packed", "(I)I"⟩ : Cond) ∈ sk_ts := sk_in (List.mem_of_getElem? (i := 257) (by decide +kernel)) rfl
theorem sw_258 : (.code ⟨"StuckLines", "packed", "(I)I"⟩ prog_1_method_17_code 2 (some .int) : Cond) ∈ sk_ts := sk_in (List.mem_of_getElem? (i := 258) (by decide +kernel)) rfl
theorem sw_879 : (.methodLink "StuckLinesLaw" 130 ⟨"StuckLinesModel", "packed", "(I)I"⟩ : Cond) ∈ sk_ts := sk_in (List.mem_of_getElem? (i := 879) (by decide +kernel)) rfl
theorem sw_880 : (.instanceMethod ⟨"StuckLinesModel", "packed", "(I)I"⟩ : Cond) ∈ sk_ts := sk_in (List.mem_of_getElem? (i := 880) (by decide +kernel)) rfl
theorem sw_881 : (.selects "StuckLinesModel" ⟨"StuckLinesModel", "packed", "(I)I"⟩ ⟨"StuckLinesModel", "packed", "(I)I"⟩ : Cond) ∈ sk_ts := sk_in (List.mem_of_getElem? (i := 881) (by decide +kernel)) rfl
theorem sw_882 : (.code ⟨"StuckLinesModel", "packed", "(I)I"⟩ prog_9_method_31_code 4 (some .int) : Cond) ∈ sk_ts := sk_in (List.mem_of_getElem? (i := 882) (by decide +kernel)) rfl
theorem sw_665 : (.methodLink "StuckLinesLaw" 131 ⟨"StuckLinesLaw", "log", "(LStuckLines;II[J)I"⟩ : Cond) ∈ sk_ts := sk_in (List.mem_of_getElem? (i := 665) (by decide +kernel)) rfl
theorem sw_666 : (.static ⟨"StuckLinesLaw", "log", "(LStuckLines;II[J)I"⟩ : Cond) ∈ sk_ts := sk_in (List.mem_of_getElem? (i := 666) (by decide +kernel)) rfl
theorem sw_667 : (.codeWith ⟨"StuckLinesLaw", "log", "(LStuckLines;II[J)I"⟩ method_16_code 5 (some .int) [(0, 10, 13, 21), (0, 10, 17, 19), (0, 10, 21, 13)] : Cond) ∈ sk_ts := sk_in (List.mem_of_getElem? (i := 667) (by decide +kernel)) rfl
theorem sw_891 : (.methodLink "StuckLinesLaw" 133 ⟨"StuckLinesModel", "log", "(II)I"⟩ : Cond) ∈ sk_ts := sk_in (List.mem_of_getElem? (i := 891) (by decide +kernel)) rfl
theorem sw_892 : (.instanceMethod ⟨"StuckLinesModel", "log", "(II)I"⟩ : Cond) ∈ sk_ts := sk_in (List.mem_of_getElem? (i := 892) (by decide +kernel)) rfl
theorem sw_893 : (.selects "StuckLinesModel" ⟨"StuckLinesModel", "log", "(II)I"⟩ ⟨"StuckLinesModel", "log", "(II)I"⟩ : Cond) ∈ sk_ts := sk_in (List.mem_of_getElem? (i := 893) (by decide +kernel)) rfl
theorem sw_894 : (.code ⟨"StuckLinesModel", "log", "(II)I"⟩ prog_9_method_32_code 3 (some .int) : Cond) ∈ sk_ts := sk_in (List.mem_of_getElem? (i := 894) (by decide +kernel)) rfl
theorem sw_334 : (.methodLink "StuckLinesLaw" 134 ⟨"StuckLines", "forget", "()I"⟩ : Cond) ∈ sk_ts := sk_in (List.mem_of_getElem? (i := 334) (by decide +kernel)) rfl
theorem sw_335 : (.instanceMethod ⟨"StuckLines", "forget", "()I"⟩ : Cond) ∈ sk_ts := sk_in (List.mem_of_getElem? (i := 335) (by decide +kernel)) rfl
theorem sw_336 : (.selects "StuckLines" ⟨"StuckLines", "forget", "()I"⟩ ⟨"StuckLines", "forget", "()I"⟩ : Cond) ∈ sk_ts := sk_in (List.mem_of_getElem? (i := 336) (by decide +kernel)) rfl
theorem sw_337 : (.code ⟨"StuckLines", "forget", "()I"⟩ prog_1_method_19_code 2 (some .int) : Cond) ∈ sk_ts := sk_in (List.mem_of_getElem? (i := 337) (by decide +kernel)) rfl
theorem sw_895 : (.methodLink "StuckLinesLaw" 137 ⟨"StuckLinesModel", "forget", "()I"⟩ : Cond) ∈ sk_ts := sk_in (List.mem_of_getElem? (i := 895) (by decide +kernel)) rfl
theorem sw_896 : (.instanceMethod ⟨"StuckLinesModel", "forget", "()I"⟩ : Cond) ∈ sk_ts := sk_in (List.mem_of_getElem? (i := 896) (by decide +kernel)) rfl
theorem sw_897 : (.selects "StuckLinesModel" ⟨"StuckLinesModel", "forget", "()I"⟩ ⟨"StuckLinesModel", "forget", "()I"⟩ : Cond) ∈ sk_ts := sk_in (List.mem_of_getElem? (i := 897) (by decide +kernel)) rfl
theorem sw_898 : (.code ⟨"StuckLinesModel", "forget", "()I"⟩ prog_9_method_33_code 2 (some .int) : Cond) ∈ sk_ts := sk_in (List.mem_of_getElem? (i := 898) (by decide +kernel)) rfl
theorem sw_338 : (.methodLink "StuckLinesLaw" 138 ⟨"StuckLines", "explains", "(I)I"⟩ : Cond) ∈ sk_ts := sk_in (List.mem_of_getElem? (i := 338) (by decide +kernel)) rfl
theorem sw_339 : (.instanceMethod ⟨"StuckLines", "explains", "(I)I"⟩ : Cond) ∈ sk_ts := sk_in (List.mem_of_getElem? (i := 339) (by decide +kernel)) rfl
theorem sw_340 : (.selects "StuckLines" ⟨"StuckLines", "explains", "(I)I"⟩ ⟨"StuckLines", "explains", "(I)I"⟩ : Cond) ∈ sk_ts := sk_in (List.mem_of_getElem? (i := 340) (by decide +kernel)) rfl
theorem sw_341 : (.code ⟨"StuckLines", "explains", "(I)I"⟩ prog_1_method_20_code 4 (some .int) : Cond) ∈ sk_ts := sk_in (List.mem_of_getElem? (i := 341) (by decide +kernel)) rfl
theorem sw_899 : (.methodLink "StuckLinesLaw" 141 ⟨"StuckLinesModel", "explains", "(I)I"⟩ : Cond) ∈ sk_ts := sk_in (List.mem_of_getElem? (i := 899) (by decide +kernel)) rfl
theorem sw_900 : (.instanceMethod ⟨"StuckLinesModel", "explains", "(I)I"⟩ : Cond) ∈ sk_ts := sk_in (List.mem_of_getElem? (i := 900) (by decide +kernel)) rfl
theorem sw_901 : (.selects "StuckLinesModel" ⟨"StuckLinesModel", "explains", "(I)I"⟩ ⟨"StuckLinesModel", "explains", "(I)I"⟩ : Cond) ∈ sk_ts := sk_in (List.mem_of_getElem? (i := 901) (by decide +kernel)) rfl
theorem sw_902 : (.code ⟨"StuckLinesModel", "explains", "(I)I"⟩ prog_9_method_35_code 4 (some .int) : Cond) ∈ sk_ts := sk_in (List.mem_of_getElem? (i := 902) (by decide +kernel)) rfl
theorem sw_23 : (.classLink "StuckLines" 9 "StuckLines$Circuit" : Cond) ∈ sk_ts := sk_in (List.mem_of_getElem? (i := 23) (by decide +kernel)) rfl
theorem sw_24 : (.instantiable "StuckLines$Circuit" 15 : Cond) ∈ sk_ts := sk_in (List.mem_of_getElem? (i := 24) (by decide +kernel)) rfl
theorem sw_212 : (.fieldLink "StuckLines" 12 "StuckLines" "circuit" "LStuckLines$Circuit;" : Cond) ∈ sk_ts := sk_in (List.mem_of_getElem? (i := 212) (by decide +kernel)) rfl
theorem sw_96 : (.classLink "StuckLines" 16 "StuckLines$Signals" : Cond) ∈ sk_ts := sk_in (List.mem_of_getElem? (i := 96) (by decide +kernel)) rfl
theorem sw_97 : (.instantiable "StuckLines$Signals" 7 : Cond) ∈ sk_ts := sk_in (List.mem_of_getElem? (i := 97) (by decide +kernel)) rfl
theorem sw_213 : (.fieldLink "StuckLines" 21 "StuckLines" "signals" "LStuckLines$Signals;" : Cond) ∈ sk_ts := sk_in (List.mem_of_getElem? (i := 213) (by decide +kernel)) rfl
theorem sw_125 : (.classLink "StuckLines" 25 "StuckLines$Responses" : Cond) ∈ sk_ts := sk_in (List.mem_of_getElem? (i := 125) (by decide +kernel)) rfl
theorem sw_126 : (.instantiable "StuckLines$Responses" 5 : Cond) ∈ sk_ts := sk_in (List.mem_of_getElem? (i := 126) (by decide +kernel)) rfl
theorem sw_214 : (.fieldLink "StuckLines" 28 "StuckLines" "responses" "LStuckLines$Responses;" : Cond) ∈ sk_ts := sk_in (List.mem_of_getElem? (i := 214) (by decide +kernel)) rfl
theorem sw_149 : (.classLink "StuckLines" 32 "StuckLines$Cubes" : Cond) ∈ sk_ts := sk_in (List.mem_of_getElem? (i := 149) (by decide +kernel)) rfl
theorem sw_150 : (.instantiable "StuckLines$Cubes" 3 : Cond) ∈ sk_ts := sk_in (List.mem_of_getElem? (i := 150) (by decide +kernel)) rfl
theorem sw_215 : (.fieldLink "StuckLines" 35 "StuckLines" "cubes" "LStuckLines$Cubes;" : Cond) ∈ sk_ts := sk_in (List.mem_of_getElem? (i := 215) (by decide +kernel)) rfl
theorem sw_167 : (.classLink "StuckLines" 39 "StuckLines$PackedSet" : Cond) ∈ sk_ts := sk_in (List.mem_of_getElem? (i := 167) (by decide +kernel)) rfl
theorem sw_168 : (.instantiable "StuckLines$PackedSet" 6 : Cond) ∈ sk_ts := sk_in (List.mem_of_getElem? (i := 168) (by decide +kernel)) rfl
theorem sw_216 : (.fieldLink "StuckLines" 44 "StuckLines" "packedSet" "LStuckLines$PackedSet;" : Cond) ∈ sk_ts := sk_in (List.mem_of_getElem? (i := 216) (by decide +kernel)) rfl
theorem sw_192 : (.classLink "StuckLines" 48 "StuckLines$SeenLog" : Cond) ∈ sk_ts := sk_in (List.mem_of_getElem? (i := 192) (by decide +kernel)) rfl
theorem sw_193 : (.instantiable "StuckLines$SeenLog" 4 : Cond) ∈ sk_ts := sk_in (List.mem_of_getElem? (i := 193) (by decide +kernel)) rfl
theorem sw_217 : (.fieldLink "StuckLines" 53 "StuckLines" "seen" "LStuckLines$SeenLog;" : Cond) ∈ sk_ts := sk_in (List.mem_of_getElem? (i := 217) (by decide +kernel)) rfl
theorem sw_29 : (.fieldLink "StuckLines$Circuit" 9 "StuckLines$Circuit" "version" "I" : Cond) ∈ sk_ts := sk_in (List.mem_of_getElem? (i := 29) (by decide +kernel)) rfl
theorem sw_32 : (.fieldLink "StuckLines$Circuit" 15 "StuckLines$Circuit" "lines" "I" : Cond) ∈ sk_ts := sk_in (List.mem_of_getElem? (i := 32) (by decide +kernel)) rfl
theorem sw_35 : (.fieldLink "StuckLines$Circuit" 18 "StuckLines$Circuit" "sources" "I" : Cond) ∈ sk_ts := sk_in (List.mem_of_getElem? (i := 35) (by decide +kernel)) rfl
theorem sw_38 : (.fieldLink "StuckLines$Circuit" 21 "StuckLines$Circuit" "outputs" "I" : Cond) ∈ sk_ts := sk_in (List.mem_of_getElem? (i := 38) (by decide +kernel)) rfl
theorem sw_40 : (.fieldLink "StuckLines$Circuit" 24 "StuckLines$Circuit" "observed" "I" : Cond) ∈ sk_ts := sk_in (List.mem_of_getElem? (i := 40) (by decide +kernel)) rfl
theorem sw_44 : (.fieldLink "StuckLines$Circuit" 27 "StuckLines$Circuit" "pins" "I" : Cond) ∈ sk_ts := sk_in (List.mem_of_getElem? (i := 44) (by decide +kernel)) rfl
theorem sw_45 : (.fieldLink "StuckLines$Circuit" 30 "StuckLines$Circuit" "kindOf" "[I" : Cond) ∈ sk_ts := sk_in (List.mem_of_getElem? (i := 45) (by decide +kernel)) rfl
theorem sw_47 : (.fieldLink "StuckLines$Circuit" 34 "StuckLines$Circuit" "sourceOf" "[I" : Cond) ∈ sk_ts := sk_in (List.mem_of_getElem? (i := 47) (by decide +kernel)) rfl
theorem sw_49 : (.fieldLink "StuckLines$Circuit" 37 "StuckLines$Circuit" "isFlop" "[Z" : Cond) ∈ sk_ts := sk_in (List.mem_of_getElem? (i := 49) (by decide +kernel)) rfl
theorem sw_51 : (.fieldLink "StuckLines$Circuit" 41 "StuckLines$Circuit" "firstPin" "[I" : Cond) ∈ sk_ts := sk_in (List.mem_of_getElem? (i := 51) (by decide +kernel)) rfl
theorem sw_54 : (.fieldLink "StuckLines$Circuit" 44 "StuckLines$Circuit" "lineReadBy" "[I" : Cond) ∈ sk_ts := sk_in (List.mem_of_getElem? (i := 54) (by decide +kernel)) rfl
theorem sw_56 : (.fieldLink "StuckLines$Circuit" 47 "StuckLines$Circuit" "gateOfPin" "[I" : Cond) ∈ sk_ts := sk_in (List.mem_of_getElem? (i := 56) (by decide +kernel)) rfl
theorem sw_58 : (.fieldLink "StuckLines$Circuit" 50 "StuckLines$Circuit" "observedLine" "[I" : Cond) ∈ sk_ts := sk_in (List.mem_of_getElem? (i := 58) (by decide +kernel)) rfl
theorem sw_61 : (.fieldLink "StuckLines$Circuit" 53 "StuckLines$Circuit" "dataOf" "[I" : Cond) ∈ sk_ts := sk_in (List.mem_of_getElem? (i := 61) (by decide +kernel)) rfl
theorem sw_62 : (.fieldLink "StuckLines$Circuit" 56 "StuckLines$Circuit" "outputLine" "[I" : Cond) ∈ sk_ts := sk_in (List.mem_of_getElem? (i := 62) (by decide +kernel)) rfl
theorem sw_103 : (.fieldLink "StuckLines$Signals" 9 "StuckLines$Signals" "sourceOnes" "[J" : Cond) ∈ sk_ts := sk_in (List.mem_of_getElem? (i := 103) (by decide +kernel)) rfl
theorem sw_104 : (.fieldLink "StuckLines$Signals" 15 "StuckLines$Signals" "sourceZeros" "[J" : Cond) ∈ sk_ts := sk_in (List.mem_of_getElem? (i := 104) (by decide +kernel)) rfl
theorem sw_105 : (.fieldLink "StuckLines$Signals" 18 "StuckLines$Signals" "ones" "[J" : Cond) ∈ sk_ts := sk_in (List.mem_of_getElem? (i := 105) (by decide +kernel)) rfl
theorem sw_106 : (.fieldLink "StuckLines$Signals" 21 "StuckLines$Signals" "zeros" "[J" : Cond) ∈ sk_ts := sk_in (List.mem_of_getElem? (i := 106) (by decide +kernel)) rfl
theorem sw_107 : (.fieldLink "StuckLines$Signals" 24 "StuckLines$Signals" "stuckPin" "I" : Cond) ∈ sk_ts := sk_in (List.mem_of_getElem? (i := 107) (by decide +kernel)) rfl
theorem sw_108 : (.fieldLink "StuckLines$Signals" 28 "StuckLines$Signals" "stuckOnes" "J" : Cond) ∈ sk_ts := sk_in (List.mem_of_getElem? (i := 108) (by decide +kernel)) rfl
theorem sw_102 : (.fieldLink "StuckLines$Signals" 32 "StuckLines$Signals" "circuit" "LStuckLines$Circuit;" : Cond) ∈ sk_ts := sk_in (List.mem_of_getElem? (i := 102) (by decide +kernel)) rfl
theorem sw_135 : (.fieldLink "StuckLines$Responses" 9 "StuckLines$Responses" "observedOnes" "[J" : Cond) ∈ sk_ts := sk_in (List.mem_of_getElem? (i := 135) (by decide +kernel)) rfl
theorem sw_136 : (.fieldLink "StuckLines$Responses" 15 "StuckLines$Responses" "shownBy" "[J" : Cond) ∈ sk_ts := sk_in (List.mem_of_getElem? (i := 136) (by decide +kernel)) rfl
theorem sw_137 : (.fieldLink "StuckLines$Responses" 18 "StuckLines$Responses" "versionOf" "[I" : Cond) ∈ sk_ts := sk_in (List.mem_of_getElem? (i := 137) (by decide +kernel)) rfl
theorem sw_133 : (.fieldLink "StuckLines$Responses" 22 "StuckLines$Responses" "circuit" "LStuckLines$Circuit;" : Cond) ∈ sk_ts := sk_in (List.mem_of_getElem? (i := 133) (by decide +kernel)) rfl
theorem sw_131 : (.classLink "StuckLines$Responses" 26 "StuckLines$Signals" : Cond) ∈ sk_ts := sk_in (List.mem_of_getElem? (i := 131) (by decide +kernel)) rfl
theorem sw_134 : (.fieldLink "StuckLines$Responses" 31 "StuckLines$Responses" "signals" "LStuckLines$Signals;" : Cond) ∈ sk_ts := sk_in (List.mem_of_getElem? (i := 134) (by decide +kernel)) rfl
theorem sw_157 : (.fieldLink "StuckLines$Cubes" 9 "StuckLines$Cubes" "circuit" "LStuckLines$Circuit;" : Cond) ∈ sk_ts := sk_in (List.mem_of_getElem? (i := 157) (by decide +kernel)) rfl
theorem sw_155 : (.classLink "StuckLines$Cubes" 15 "StuckLines$Signals" : Cond) ∈ sk_ts := sk_in (List.mem_of_getElem? (i := 155) (by decide +kernel)) rfl
theorem sw_158 : (.fieldLink "StuckLines$Cubes" 20 "StuckLines$Cubes" "sound" "LStuckLines$Signals;" : Cond) ∈ sk_ts := sk_in (List.mem_of_getElem? (i := 158) (by decide +kernel)) rfl
theorem sw_159 : (.fieldLink "StuckLines$Cubes" 24 "StuckLines$Cubes" "faulty" "LStuckLines$Signals;" : Cond) ∈ sk_ts := sk_in (List.mem_of_getElem? (i := 159) (by decide +kernel)) rfl
theorem sw_175 : (.fieldLink "StuckLines$PackedSet" 9 "StuckLines$PackedSet" "vectors" "[I" : Cond) ∈ sk_ts := sk_in (List.mem_of_getElem? (i := 175) (by decide +kernel)) rfl
theorem sw_176 : (.fieldLink "StuckLines$PackedSet" 15 "StuckLines$PackedSet" "size" "I" : Cond) ∈ sk_ts := sk_in (List.mem_of_getElem? (i := 176) (by decide +kernel)) rfl
theorem sw_177 : (.fieldLink "StuckLines$PackedSet" 19 "StuckLines$PackedSet" "members" "J" : Cond) ∈ sk_ts := sk_in (List.mem_of_getElem? (i := 177) (by decide +kernel)) rfl
theorem sw_178 : (.fieldLink "StuckLines$PackedSet" 23 "StuckLines$PackedSet" "version" "I" : Cond) ∈ sk_ts := sk_in (List.mem_of_getElem? (i := 178) (by decide +kernel)) rfl
theorem sw_173 : (.fieldLink "StuckLines$PackedSet" 26 "StuckLines$PackedSet" "circuit" "LStuckLines$Circuit;" : Cond) ∈ sk_ts := sk_in (List.mem_of_getElem? (i := 173) (by decide +kernel)) rfl
theorem sw_174 : (.fieldLink "StuckLines$PackedSet" 30 "StuckLines$PackedSet" "responses" "LStuckLines$Responses;" : Cond) ∈ sk_ts := sk_in (List.mem_of_getElem? (i := 174) (by decide +kernel)) rfl
theorem sw_199 : (.fieldLink "StuckLines$SeenLog" 9 "StuckLines$SeenLog" "vectors" "[I" : Cond) ∈ sk_ts := sk_in (List.mem_of_getElem? (i := 199) (by decide +kernel)) rfl
theorem sw_200 : (.fieldLink "StuckLines$SeenLog" 15 "StuckLines$SeenLog" "seenResponses" "[I" : Cond) ∈ sk_ts := sk_in (List.mem_of_getElem? (i := 200) (by decide +kernel)) rfl
theorem sw_201 : (.fieldLink "StuckLines$SeenLog" 18 "StuckLines$SeenLog" "size" "I" : Cond) ∈ sk_ts := sk_in (List.mem_of_getElem? (i := 201) (by decide +kernel)) rfl
theorem sw_198 : (.fieldLink "StuckLines$SeenLog" 22 "StuckLines$SeenLog" "responses" "LStuckLines$Responses;" : Cond) ∈ sk_ts := sk_in (List.mem_of_getElem? (i := 198) (by decide +kernel)) rfl
theorem sw_33 : (.fieldLink "StuckLines" 65 "StuckLines$Circuit" "lines" "I" : Cond) ∈ sk_ts := sk_in (List.mem_of_getElem? (i := 33) (by decide +kernel)) rfl
theorem sw_53 : (.fieldLink "StuckLines" 165 "StuckLines$Circuit" "firstPin" "[I" : Cond) ∈ sk_ts := sk_in (List.mem_of_getElem? (i := 53) (by decide +kernel)) rfl
theorem sw_31 : (.fieldLink "StuckLines$Responses" 45 "StuckLines$Circuit" "version" "I" : Cond) ∈ sk_ts := sk_in (List.mem_of_getElem? (i := 31) (by decide +kernel)) rfl
theorem sw_41 : (.fieldLink "StuckLines$Responses" 57 "StuckLines$Circuit" "observed" "I" : Cond) ∈ sk_ts := sk_in (List.mem_of_getElem? (i := 41) (by decide +kernel)) rfl
theorem sw_59 : (.fieldLink "StuckLines$Responses" 60 "StuckLines$Circuit" "observedLine" "[I" : Cond) ∈ sk_ts := sk_in (List.mem_of_getElem? (i := 59) (by decide +kernel)) rfl
theorem sw_34 : (.fieldLink "StuckLines$Signals" 53 "StuckLines$Circuit" "lines" "I" : Cond) ∈ sk_ts := sk_in (List.mem_of_getElem? (i := 34) (by decide +kernel)) rfl
theorem sw_46 : (.fieldLink "StuckLines$Signals" 56 "StuckLines$Circuit" "kindOf" "[I" : Cond) ∈ sk_ts := sk_in (List.mem_of_getElem? (i := 46) (by decide +kernel)) rfl
theorem sw_48 : (.fieldLink "StuckLines$Signals" 60 "StuckLines$Circuit" "sourceOf" "[I" : Cond) ∈ sk_ts := sk_in (List.mem_of_getElem? (i := 48) (by decide +kernel)) rfl
theorem sw_52 : (.fieldLink "StuckLines$Signals" 66 "StuckLines$Circuit" "firstPin" "[I" : Cond) ∈ sk_ts := sk_in (List.mem_of_getElem? (i := 52) (by decide +kernel)) rfl
theorem sw_55 : (.fieldLink "StuckLines$Signals" 69 "StuckLines$Circuit" "lineReadBy" "[I" : Cond) ∈ sk_ts := sk_in (List.mem_of_getElem? (i := 55) (by decide +kernel)) rfl
theorem sw_30 : (.fieldLink "StuckLines$PackedSet" 34 "StuckLines$Circuit" "version" "I" : Cond) ∈ sk_ts := sk_in (List.mem_of_getElem? (i := 30) (by decide +kernel)) rfl
theorem sw_202 : (.fieldLink "StuckLines" 212 "StuckLines$SeenLog" "size" "I" : Cond) ∈ sk_ts := sk_in (List.mem_of_getElem? (i := 202) (by decide +kernel)) rfl
theorem sw_37 : (.fieldLink "StuckLines" 61 "StuckLines$Circuit" "sources" "I" : Cond) ∈ sk_ts := sk_in (List.mem_of_getElem? (i := 37) (by decide +kernel)) rfl
theorem sw_39 : (.fieldLink "StuckLines" 103 "StuckLines$Circuit" "outputs" "I" : Cond) ∈ sk_ts := sk_in (List.mem_of_getElem? (i := 39) (by decide +kernel)) rfl
theorem sw_50 : (.fieldLink "StuckLines" 112 "StuckLines$Circuit" "isFlop" "[Z" : Cond) ∈ sk_ts := sk_in (List.mem_of_getElem? (i := 50) (by decide +kernel)) rfl
theorem sw_42 : (.fieldLink "StuckLines" 122 "StuckLines$Circuit" "observed" "I" : Cond) ∈ sk_ts := sk_in (List.mem_of_getElem? (i := 42) (by decide +kernel)) rfl
theorem sw_57 : (.fieldLink "StuckLines" 178 "StuckLines$Circuit" "gateOfPin" "[I" : Cond) ∈ sk_ts := sk_in (List.mem_of_getElem? (i := 57) (by decide +kernel)) rfl
theorem sw_36 : (.fieldLink "StuckLines$Cubes" 27 "StuckLines$Circuit" "sources" "I" : Cond) ∈ sk_ts := sk_in (List.mem_of_getElem? (i := 36) (by decide +kernel)) rfl
theorem sw_43 : (.fieldLink "StuckLines$Signals" 72 "StuckLines$Circuit" "observed" "I" : Cond) ∈ sk_ts := sk_in (List.mem_of_getElem? (i := 43) (by decide +kernel)) rfl
theorem sw_60 : (.fieldLink "StuckLines$Signals" 75 "StuckLines$Circuit" "observedLine" "[I" : Cond) ∈ sk_ts := sk_in (List.mem_of_getElem? (i := 60) (by decide +kernel)) rfl
theorem sw_686 : (.fieldLink "StuckLinesModel" 7 "StuckLinesModel" "sourceOf" "[I" : Cond) ∈ sk_ts := sk_in (List.mem_of_getElem? (i := 686) (by decide +kernel)) rfl
theorem sw_687 : (.fieldLink "StuckLinesModel" 13 "StuckLinesModel" "kinds" "[I" : Cond) ∈ sk_ts := sk_in (List.mem_of_getElem? (i := 687) (by decide +kernel)) rfl
theorem sw_688 : (.fieldLink "StuckLinesModel" 16 "StuckLinesModel" "pins" "[I" : Cond) ∈ sk_ts := sk_in (List.mem_of_getElem? (i := 688) (by decide +kernel)) rfl
theorem sw_689 : (.fieldLink "StuckLinesModel" 19 "StuckLinesModel" "pinCount" "[I" : Cond) ∈ sk_ts := sk_in (List.mem_of_getElem? (i := 689) (by decide +kernel)) rfl
theorem sw_691 : (.fieldLink "StuckLinesModel" 22 "StuckLinesModel" "sourceLine" "[I" : Cond) ∈ sk_ts := sk_in (List.mem_of_getElem? (i := 691) (by decide +kernel)) rfl
theorem sw_692 : (.fieldLink "StuckLinesModel" 25 "StuckLinesModel" "flop" "[Z" : Cond) ∈ sk_ts := sk_in (List.mem_of_getElem? (i := 692) (by decide +kernel)) rfl
theorem sw_693 : (.fieldLink "StuckLinesModel" 29 "StuckLinesModel" "datum" "[I" : Cond) ∈ sk_ts := sk_in (List.mem_of_getElem? (i := 693) (by decide +kernel)) rfl
theorem sw_695 : (.fieldLink "StuckLinesModel" 32 "StuckLinesModel" "outputLine" "[I" : Cond) ∈ sk_ts := sk_in (List.mem_of_getElem? (i := 695) (by decide +kernel)) rfl
theorem sw_697 : (.fieldLink "StuckLinesModel" 35 "StuckLinesModel" "observed" "[I" : Cond) ∈ sk_ts := sk_in (List.mem_of_getElem? (i := 697) (by decide +kernel)) rfl
theorem sw_699 : (.fieldLink "StuckLinesModel" 38 "StuckLinesModel" "siteLine" "[I" : Cond) ∈ sk_ts := sk_in (List.mem_of_getElem? (i := 699) (by decide +kernel)) rfl
theorem sw_700 : (.fieldLink "StuckLinesModel" 41 "StuckLinesModel" "sitePin" "[I" : Cond) ∈ sk_ts := sk_in (List.mem_of_getElem? (i := 700) (by decide +kernel)) rfl
theorem sw_701 : (.fieldLink "StuckLinesModel" 44 "StuckLinesModel" "values" "[I" : Cond) ∈ sk_ts := sk_in (List.mem_of_getElem? (i := 701) (by decide +kernel)) rfl
theorem sw_702 : (.fieldLink "StuckLinesModel" 47 "StuckLinesModel" "plain" "[I" : Cond) ∈ sk_ts := sk_in (List.mem_of_getElem? (i := 702) (by decide +kernel)) rfl
theorem sw_704 : (.fieldLink "StuckLinesModel" 50 "StuckLinesModel" "responses" "[I" : Cond) ∈ sk_ts := sk_in (List.mem_of_getElem? (i := 704) (by decide +kernel)) rfl
theorem sw_705 : (.fieldLink "StuckLinesModel" 53 "StuckLinesModel" "right" "[I" : Cond) ∈ sk_ts := sk_in (List.mem_of_getElem? (i := 705) (by decide +kernel)) rfl
theorem sw_708 : (.fieldLink "StuckLinesModel" 56 "StuckLinesModel" "set" "[I" : Cond) ∈ sk_ts := sk_in (List.mem_of_getElem? (i := 708) (by decide +kernel)) rfl
theorem sw_709 : (.fieldLink "StuckLinesModel" 59 "StuckLinesModel" "gone" "[Z" : Cond) ∈ sk_ts := sk_in (List.mem_of_getElem? (i := 709) (by decide +kernel)) rfl
theorem sw_711 : (.fieldLink "StuckLinesModel" 62 "StuckLinesModel" "logVector" "[I" : Cond) ∈ sk_ts := sk_in (List.mem_of_getElem? (i := 711) (by decide +kernel)) rfl
theorem sw_712 : (.fieldLink "StuckLinesModel" 65 "StuckLinesModel" "logResponse" "[I" : Cond) ∈ sk_ts := sk_in (List.mem_of_getElem? (i := 712) (by decide +kernel)) rfl
theorem sw_684 : (.fieldLink "StuckLinesModel" 68 "StuckLinesModel" "code" "I" : Cond) ∈ sk_ts := sk_in (List.mem_of_getElem? (i := 684) (by decide +kernel)) rfl
theorem sw_685 : (.fieldLink "StuckLinesModel" 72 "StuckLinesModel" "lines" "I" : Cond) ∈ sk_ts := sk_in (List.mem_of_getElem? (i := 685) (by decide +kernel)) rfl
theorem sw_690 : (.fieldLink "StuckLinesModel" 75 "StuckLinesModel" "sources" "I" : Cond) ∈ sk_ts := sk_in (List.mem_of_getElem? (i := 690) (by decide +kernel)) rfl
theorem sw_694 : (.fieldLink "StuckLinesModel" 94 "StuckLinesModel" "outputs" "I" : Cond) ∈ sk_ts := sk_in (List.mem_of_getElem? (i := 694) (by decide +kernel)) rfl
theorem sw_703 : (.fieldLink "StuckLinesModel" 81 "StuckLinesModel" "known" "Z" : Cond) ∈ sk_ts := sk_in (List.mem_of_getElem? (i := 703) (by decide +kernel)) rfl
theorem sw_706 : (.fieldLink "StuckLinesModel" 85 "StuckLinesModel" "packedUp" "Z" : Cond) ∈ sk_ts := sk_in (List.mem_of_getElem? (i := 706) (by decide +kernel)) rfl
theorem sw_710 : (.fieldLink "StuckLinesModel" 88 "StuckLinesModel" "logged" "I" : Cond) ∈ sk_ts := sk_in (List.mem_of_getElem? (i := 710) (by decide +kernel)) rfl
theorem sw_696 : (.fieldLink "StuckLinesModel" 91 "StuckLinesModel" "seen" "I" : Cond) ∈ sk_ts := sk_in (List.mem_of_getElem? (i := 696) (by decide +kernel)) rfl
theorem sw_698 : (.fieldLink "StuckLinesModel" 78 "StuckLinesModel" "sites" "I" : Cond) ∈ sk_ts := sk_in (List.mem_of_getElem? (i := 698) (by decide +kernel)) rfl
theorem sw_707 : (.fieldLink "StuckLinesModel" 136 "StuckLinesModel" "chosen" "I" : Cond) ∈ sk_ts := sk_in (List.mem_of_getElem? (i := 707) (by decide +kernel)) rfl
theorem sw_15 : (.classLink "StuckLinesLaw" 8 "StuckLines" : Cond) ∈ sk_ts := sk_in (List.mem_of_getElem? (i := 15) (by decide +kernel)) rfl
theorem sw_16 : (.instantiable "StuckLines" 6 : Cond) ∈ sk_ts := sk_in (List.mem_of_getElem? (i := 16) (by decide +kernel)) rfl
theorem sw_678 : (.classLink "StuckLinesLaw" 65 "StuckLinesModel" : Cond) ∈ sk_ts := sk_in (List.mem_of_getElem? (i := 678) (by decide +kernel)) rfl
theorem sw_679 : (.instantiable "StuckLinesModel" 29 : Cond) ∈ sk_ts := sk_in (List.mem_of_getElem? (i := 679) (by decide +kernel)) rfl
theorem sw_94 : (.arrayClass .int : Cond) ∈ sk_ts := sk_in (List.mem_of_getElem? (i := 94) (by decide +kernel)) rfl
theorem sw_95 : (.arrayClass .boolean : Cond) ∈ sk_ts := sk_in (List.mem_of_getElem? (i := 95) (by decide +kernel)) rfl
theorem sw_124 : (.arrayClass .long : Cond) ∈ sk_ts := sk_in (List.mem_of_getElem? (i := 124) (by decide +kernel)) rfl
theorem sw_20 : (.methodLink "StuckLines" 3 ⟨"java/lang/Object", "<init>", "()V"⟩ : Cond) ∈ sk_ts := sk_in (List.mem_of_getElem? (i := 20) (by decide +kernel)) rfl
theorem sw_28 : (.methodLink "StuckLines$Circuit" 3 ⟨"java/lang/Object", "<init>", "()V"⟩ : Cond) ∈ sk_ts := sk_in (List.mem_of_getElem? (i := 28) (by decide +kernel)) rfl
theorem sw_101 : (.methodLink "StuckLines$Signals" 3 ⟨"java/lang/Object", "<init>", "()V"⟩ : Cond) ∈ sk_ts := sk_in (List.mem_of_getElem? (i := 101) (by decide +kernel)) rfl
theorem sw_130 : (.methodLink "StuckLines$Responses" 3 ⟨"java/lang/Object", "<init>", "()V"⟩ : Cond) ∈ sk_ts := sk_in (List.mem_of_getElem? (i := 130) (by decide +kernel)) rfl
theorem sw_154 : (.methodLink "StuckLines$Cubes" 3 ⟨"java/lang/Object", "<init>", "()V"⟩ : Cond) ∈ sk_ts := sk_in (List.mem_of_getElem? (i := 154) (by decide +kernel)) rfl
theorem sw_172 : (.methodLink "StuckLines$PackedSet" 3 ⟨"java/lang/Object", "<init>", "()V"⟩ : Cond) ∈ sk_ts := sk_in (List.mem_of_getElem? (i := 172) (by decide +kernel)) rfl
theorem sw_197 : (.methodLink "StuckLines$SeenLog" 3 ⟨"java/lang/Object", "<init>", "()V"⟩ : Cond) ∈ sk_ts := sk_in (List.mem_of_getElem? (i := 197) (by decide +kernel)) rfl
theorem sw_271 : (.constantLong "StuckLines$Responses" 49 (-1) : Cond) ∈ sk_ts := sk_in (List.mem_of_getElem? (i := 271) (by decide +kernel)) rfl
theorem sw_282 : (.constantLong "StuckLines$Signals" 39 (-1) : Cond) ∈ sk_ts := sk_in (List.mem_of_getElem? (i := 282) (by decide +kernel)) rfl
theorem sw_325 : (.constantLong "StuckLines$PackedSet" 60 (-1) : Cond) ∈ sk_ts := sk_in (List.mem_of_getElem? (i := 325) (by decide +kernel)) rfl
theorem sw_683 : (.methodLink "StuckLinesModel" 1 ⟨"java/lang/Object", "<init>", "()V"⟩ : Cond) ∈ sk_ts := sk_in (List.mem_of_getElem? (i := 683) (by decide +kernel)) rfl
theorem sw_21 : (.instanceMethod ⟨"java/lang/Object", "<init>", "()V"⟩ : Cond) ∈ sk_ts := sk_in (List.mem_of_getElem? (i := 21) (by decide +kernel)) rfl
theorem sw_22 : (.code ⟨"java/lang/Object", "<init>", "()V"⟩ object_method_1_code 1 none : Cond) ∈ sk_ts := sk_in (List.mem_of_getElem? (i := 22) (by decide +kernel)) rfl
theorem sw_363 : (.classLink "StuckLines" 68 "java/lang/IllegalStateException" : Cond) ∈ sk_ts := sk_in (List.mem_of_getElem? (i := 363) (by decide +kernel)) rfl
theorem sw_12 : (.initialized "java/lang/IllegalStateException" : Cond) ∈ sk_ts := sk_in (List.mem_of_getElem? (i := 12) (by decide +kernel)) rfl
theorem sw_448 : (.classLink "StuckLines" 79 "java/lang/IllegalArgumentException" : Cond) ∈ sk_ts := sk_in (List.mem_of_getElem? (i := 448) (by decide +kernel)) rfl
theorem sw_13 : (.initialized "java/lang/IllegalArgumentException" : Cond) ∈ sk_ts := sk_in (List.mem_of_getElem? (i := 13) (by decide +kernel)) rfl
theorem sw_469 : (.classLink "StuckLines" 223 "java/lang/IndexOutOfBoundsException" : Cond) ∈ sk_ts := sk_in (List.mem_of_getElem? (i := 469) (by decide +kernel)) rfl
theorem sw_14 : (.initialized "java/lang/IndexOutOfBoundsException" : Cond) ∈ sk_ts := sk_in (List.mem_of_getElem? (i := 14) (by decide +kernel)) rfl
theorem sw_358 : (.classLink "StuckLinesLaw" 13 "java/lang/IllegalStateException" : Cond) ∈ sk_ts := sk_in (List.mem_of_getElem? (i := 358) (by decide +kernel)) rfl
theorem sw_442 : (.classLink "StuckLinesLaw" 19 "java/lang/IllegalArgumentException" : Cond) ∈ sk_ts := sk_in (List.mem_of_getElem? (i := 442) (by decide +kernel)) rfl
theorem sw_443 : (.classLink "StuckLinesLaw" 21 "java/lang/IndexOutOfBoundsException" : Cond) ∈ sk_ts := sk_in (List.mem_of_getElem? (i := 443) (by decide +kernel)) rfl
end
section
/-! methods, links: printed by wip/whole/gen_meth.py -/
def m_X_init : sk_M := ("StuckLines", ⟨"StuckLines", "<init>", "()V"⟩, prog_1_method_1_code, 1, none, [], 3, 62)
def m_C_init : sk_M := ("StuckLines$Circuit", ⟨"StuckLines$Circuit", "<init>", "()V"⟩, prog_2_method_1_code, 1, none, [], 1, 20)
def m_S_init : sk_M := ("StuckLines$Signals", ⟨"StuckLines$Signals", "<init>", "(LStuckLines$Circuit;)V"⟩, prog_7_method_1_code, 2, none, [], 1, 20)
def m_R_init : sk_M := ("StuckLines$Responses", ⟨"StuckLines$Responses", "<init>", "(LStuckLines$Circuit;)V"⟩, prog_5_method_1_code, 2, none, [], 2, 41)
def m_U_init : sk_M := ("StuckLines$Cubes", ⟨"StuckLines$Cubes", "<init>", "(LStuckLines$Circuit;)V"⟩, prog_3_method_1_code, 2, none, [], 2, 41)
def m_P_init : sk_M := ("StuckLines$PackedSet", ⟨"StuckLines$PackedSet", "<init>", "(LStuckLines$Circuit;LStuckLines$Responses;)V"⟩, prog_4_method_1_code, 3, none, [], 1, 20)
def m_G_init : sk_M := ("StuckLines$SeenLog", ⟨"StuckLines$SeenLog", "<init>", "(LStuckLines$Responses;)V"⟩, prog_6_method_1_code, 2, none, [], 1, 20)
def m_X_clear : sk_M := ("StuckLines", ⟨"StuckLines", "clear", "()V"⟩, prog_1_method_2_code, 1, none, [], 1, 20)
def m_C_removeAll : sk_M := ("StuckLines$Circuit", ⟨"StuckLines$Circuit", "removeAll", "()V"⟩, prog_2_method_2_code, 1, none, [], 0, 0)
def m_G_removeAll : sk_M := ("StuckLines$SeenLog", ⟨"StuckLines$SeenLog", "removeAll", "()V"⟩, prog_6_method_3_code, 1, none, [], 0, 0)
def m_X_fault : sk_M := ("StuckLines", ⟨"StuckLines", "fault", "(III)I"⟩, prog_1_method_10_code, 4, (some .int), [], 1, 21)
def m_C_hasLine : sk_M := ("StuckLines$Circuit", ⟨"StuckLines$Circuit", "hasLine", "(I)Z"⟩, prog_2_method_12_code, 2, (some .boolean), [], 0, 0)
def m_C_pinsOf : sk_M := ("StuckLines$Circuit", ⟨"StuckLines$Circuit", "pinsOf", "(I)I"⟩, prog_2_method_13_code, 2, (some .int), [], 0, 0)
def m_X_packed : sk_M := ("StuckLines", ⟨"StuckLines", "packed", "(I)I"⟩, prog_1_method_17_code, 2, (some .int), [], 5, 130)
def m_R_prepareAll : sk_M := ("StuckLines$Responses", ⟨"StuckLines$Responses", "prepareAll", "()V"⟩, prog_5_method_2_code, 2, none, [], 4, 109)
def m_C_faults : sk_M := ("StuckLines$Circuit", ⟨"StuckLines$Circuit", "faults", "()I"⟩, prog_2_method_16_code, 1, (some .int), [], 0, 0)
def m_R_workOut : sk_M := ("StuckLines$Responses", ⟨"StuckLines$Responses", "workOut", "(I)V"⟩, prog_5_method_4_code, 10, none, [], 3, 80)
def m_C_vectors : sk_M := ("StuckLines$Circuit", ⟨"StuckLines$Circuit", "vectors", "()I"⟩, prog_2_method_14_code, 1, (some .int), [], 0, 0)
def m_S_settleVectors : sk_M := ("StuckLines$Signals", ⟨"StuckLines$Signals", "settleVectors", "(I)V"⟩, prog_7_method_2_code, 3, none, [], 2, 58)
def m_S_settle : sk_M := ("StuckLines$Signals", ⟨"StuckLines$Signals", "settle", "(I)V"⟩, prog_7_method_4_code, 4, none, [], 1, 35)
def m_C_stuckLine : sk_M := ("StuckLines$Circuit", ⟨"StuckLines$Circuit", "stuckLine", "(I)I"⟩, prog_2_method_17_code, 3, (some .int), [], 0, 0)
def m_C_stuckPin : sk_M := ("StuckLines$Circuit", ⟨"StuckLines$Circuit", "stuckPin", "(I)I"⟩, prog_2_method_18_code, 3, (some .int), [], 0, 0)
def m_S_settleGate : sk_M := ("StuckLines$Signals", ⟨"StuckLines$Signals", "settleGate", "(I)V"⟩, prog_7_method_5_code, 16, none, [], 0, 0)
def m_S_onesOf : sk_M := ("StuckLines$Signals", ⟨"StuckLines$Signals", "onesOf", "(I)J"⟩, prog_7_method_7_code, 2, (some .long), [], 0, 0)
def m_P_at : sk_M := ("StuckLines$PackedSet", ⟨"StuckLines$PackedSet", "at", "(I)I"⟩, prog_4_method_2_code, 2, (some .int), [], 3, 69)
def m_P_gather : sk_M := ("StuckLines$PackedSet", ⟨"StuckLines$PackedSet", "gather", "()V"⟩, prog_4_method_3_code, 3, none, [], 2, 45)
def m_R_firstShowing : sk_M := ("StuckLines$Responses", ⟨"StuckLines$Responses", "firstShowing", "(I)I"⟩, prog_5_method_7_code, 5, (some .int), [], 1, 21)
def m_R_vectorsShowing : sk_M := ("StuckLines$Responses", ⟨"StuckLines$Responses", "vectorsShowing", "(I)J"⟩, prog_5_method_6_code, 2, (some .long), [], 0, 0)
def m_P_thinOut : sk_M := ("StuckLines$PackedSet", ⟨"StuckLines$PackedSet", "thinOut", "()V"⟩, prog_4_method_4_code, 4, none, [], 2, 46)
def m_P_showAll : sk_M := ("StuckLines$PackedSet", ⟨"StuckLines$PackedSet", "showAll", "(J)Z"⟩, prog_4_method_5_code, 6, (some .boolean), [], 1, 21)
def m_P_dropTheLeftOut : sk_M := ("StuckLines$PackedSet", ⟨"StuckLines$PackedSet", "dropTheLeftOut", "()V"⟩, prog_4_method_6_code, 3, none, [], 0, 0)
def m_X_forget : sk_M := ("StuckLines", ⟨"StuckLines", "forget", "()I"⟩, prog_1_method_19_code, 2, (some .int), [], 1, 20)
def m_X_explains : sk_M := ("StuckLines", ⟨"StuckLines", "explains", "(I)I"⟩, prog_1_method_20_code, 4, (some .int), [], 5, 130)
def m_R_prepare : sk_M := ("StuckLines$Responses", ⟨"StuckLines$Responses", "prepare", "(I)V"⟩, prog_5_method_3_code, 2, none, [], 4, 109)
def m_G_isExplainedBy : sk_M := ("StuckLines$SeenLog", ⟨"StuckLines$SeenLog", "isExplainedBy", "(I)Z"⟩, prog_6_method_4_code, 3, (some .boolean), [], 1, 25)
def m_R_to : sk_M := ("StuckLines$Responses", ⟨"StuckLines$Responses", "to", "(II)I"⟩, prog_5_method_5_code, 6, (some .int), [], 0, 0)
def m_L_source : sk_M := ("StuckLinesLaw", ⟨"StuckLinesLaw", "source", "(LStuckLines;Z[J)I"⟩, method_3_code, 4, (some .int), [(0, 9, 12, 13)], 7, 111)
def m_X_source : sk_M := ("StuckLines", ⟨"StuckLines", "source", "(Z)I"⟩, prog_1_method_3_code, 2, (some .int), [], 6, 90)
def m_C_addSource : sk_M := ("StuckLines$Circuit", ⟨"StuckLines$Circuit", "addSource", "(Z)I"⟩, prog_2_method_3_code, 3, (some .int), [], 1, 22)
def m_C_addLine : sk_M := ("StuckLines$Circuit", ⟨"StuckLines$Circuit", "addLine", "(I)I"⟩, prog_2_method_5_code, 3, (some .int), [], 0, 0)
def m_L_gate : sk_M := ("StuckLinesLaw", ⟨"StuckLinesLaw", "gate", "(LStuckLines;IIII[J)I"⟩, method_4_code, 7, (some .int), [(0, 14, 17, 19), (0, 14, 21, 21), (0, 14, 25, 13)], 9, 156)
def m_X_gate : sk_M := ("StuckLines", ⟨"StuckLines", "gate", "(IIII)I"⟩, prog_1_method_4_code, 5, (some .int), [], 8, 132)
def m_X_requireLine : sk_M := ("StuckLines", ⟨"StuckLines", "requireLine", "(I)V"⟩, prog_1_method_21_code, 2, none, [], 6, 90)
def m_X_requireLineOrNone : sk_M := ("StuckLines", ⟨"StuckLines", "requireLineOrNone", "(I)V"⟩, prog_1_method_22_code, 2, none, [], 7, 111)
def m_C_addGate : sk_M := ("StuckLines$Circuit", ⟨"StuckLines$Circuit", "addGate", "(IIII)I"⟩, prog_2_method_4_code, 6, (some .int), [], 1, 22)
def m_C_addPin : sk_M := ("StuckLines$Circuit", ⟨"StuckLines$Circuit", "addPin", "(II)V"⟩, prog_2_method_6_code, 3, none, [], 0, 0)
def m_L_output : sk_M := ("StuckLinesLaw", ⟨"StuckLinesLaw", "output", "(LStuckLines;I[J)I"⟩, method_5_code, 4, (some .int), [(0, 9, 12, 21), (0, 9, 15, 13)], 8, 132)
def m_X_output : sk_M := ("StuckLines", ⟨"StuckLines", "output", "(I)I"⟩, prog_1_method_5_code, 2, (some .int), [], 7, 111)
def m_C_isOutput : sk_M := ("StuckLines$Circuit", ⟨"StuckLines$Circuit", "isOutput", "(I)Z"⟩, prog_2_method_11_code, 3, (some .boolean), [], 0, 0)
def m_C_addOutput : sk_M := ("StuckLines$Circuit", ⟨"StuckLines$Circuit", "addOutput", "(I)I"⟩, prog_2_method_7_code, 2, (some .int), [], 2, 42)
def m_C_gatherObserved : sk_M := ("StuckLines$Circuit", ⟨"StuckLines$Circuit", "gatherObserved", "()V"⟩, prog_2_method_9_code, 2, none, [], 1, 21)
def m_C_observe : sk_M := ("StuckLines$Circuit", ⟨"StuckLines$Circuit", "observe", "(I)V"⟩, prog_2_method_10_code, 2, none, [], 0, 0)
def m_L_data : sk_M := ("StuckLinesLaw", ⟨"StuckLinesLaw", "data", "(LStuckLines;II)I"⟩, method_6_code, 4, (some .int), [(0, 6, 9, 21), (0, 6, 12, 19)], 8, 133)
def m_X_data : sk_M := ("StuckLines", ⟨"StuckLines", "data", "(II)V"⟩, prog_1_method_6_code, 3, none, [], 7, 111)
def m_C_connectData : sk_M := ("StuckLines$Circuit", ⟨"StuckLines$Circuit", "connectData", "(II)V"⟩, prog_2_method_8_code, 3, none, [], 2, 42)
def m_L_count : sk_M := ("StuckLinesLaw", ⟨"StuckLinesLaw", "count", "(LStuckLines;I[J)I"⟩, method_7_code, 4, (some .int), [(0, 9, 12, 19)], 7, 151)
def m_X_count : sk_M := ("StuckLines", ⟨"StuckLines", "count", "(I)I"⟩, prog_1_method_7_code, 2, (some .int), [], 6, 130)
def m_R_shownFaults : sk_M := ("StuckLines$Responses", ⟨"StuckLines$Responses", "shownFaults", "()I"⟩, prog_5_method_10_code, 3, (some .int), [], 1, 21)
def m_R_classesOfAlike : sk_M := ("StuckLines$Responses", ⟨"StuckLines$Responses", "classesOfAlike", "()I"⟩, prog_5_method_11_code, 3, (some .int), [], 3, 68)
def m_R_firstAlike : sk_M := ("StuckLines$Responses", ⟨"StuckLines$Responses", "firstAlike", "(I)I"⟩, prog_5_method_8_code, 3, (some .int), [], 2, 46)
def m_R_areAlike : sk_M := ("StuckLines$Responses", ⟨"StuckLines$Responses", "areAlike", "(II)Z"⟩, prog_5_method_9_code, 6, (some .boolean), [], 1, 21)
def m_L_value : sk_M := ("StuckLinesLaw", ⟨"StuckLinesLaw", "value", "(LStuckLines;III[J)I"⟩, method_8_code, 6, (some .int), [(0, 12, 15, 21)], 9, 155)
def m_X_value : sk_M := ("StuckLines", ⟨"StuckLines", "value", "(III)I"⟩, prog_1_method_8_code, 4, (some .int), [], 8, 132)
def m_X_requireVector : sk_M := ("StuckLines", ⟨"StuckLines", "requireVector", "(I)V"⟩, prog_1_method_23_code, 2, none, [], 6, 90)
def m_X_requireFaultOrNone : sk_M := ("StuckLines", ⟨"StuckLines", "requireFaultOrNone", "(I)V"⟩, prog_1_method_25_code, 2, none, [], 7, 111)
def m_X_requireFault : sk_M := ("StuckLines", ⟨"StuckLines", "requireFault", "(I)V"⟩, prog_1_method_24_code, 2, none, [], 6, 90)
def m_S_stateOf : sk_M := ("StuckLines$Signals", ⟨"StuckLines$Signals", "stateOf", "(II)I"⟩, prog_7_method_6_code, 3, (some .int), [], 0, 0)
def m_L_response : sk_M := ("StuckLinesLaw", ⟨"StuckLinesLaw", "response", "(LStuckLines;II[J)I"⟩, method_9_code, 5, (some .int), [(0, 10, 13, 21)], 9, 154)
def m_X_response : sk_M := ("StuckLines", ⟨"StuckLines", "response", "(II)I"⟩, prog_1_method_9_code, 3, (some .int), [], 8, 132)
def m_L_faultAt : sk_M := ("StuckLinesLaw", ⟨"StuckLinesLaw", "faultAt", "(LStuckLines;II[J)I"⟩, method_10_code, 5, (some .int), [(0, 10, 13, 21), (0, 10, 17, 19)], 8, 135)
def m_X_faultAt : sk_M := ("StuckLines", ⟨"StuckLines", "faultAt", "(II)I"⟩, prog_1_method_11_code, 5, (some .int), [], 7, 111)
def m_L_least : sk_M := ("StuckLinesLaw", ⟨"StuckLinesLaw", "least", "(LStuckLines;I[J)I"⟩, method_11_code, 4, (some .int), [(0, 9, 12, 21)], 8, 151)
def m_X_least : sk_M := ("StuckLines", ⟨"StuckLines", "least", "(I)I"⟩, prog_1_method_12_code, 2, (some .int), [], 7, 130)
def m_L_showing : sk_M := ("StuckLinesLaw", ⟨"StuckLinesLaw", "showing", "(LStuckLines;I[J)I"⟩, method_12_code, 4, (some .int), [(0, 8, 11, 21)], 8, 151)
def m_X_showing : sk_M := ("StuckLines", ⟨"StuckLines", "showing", "(I)J"⟩, prog_1_method_13_code, 2, (some .long), [], 7, 130)
def m_L_alike : sk_M := ("StuckLinesLaw", ⟨"StuckLinesLaw", "alike", "(LStuckLines;I[J)I"⟩, method_13_code, 4, (some .int), [(0, 9, 12, 21)], 8, 151)
def m_X_alike : sk_M := ("StuckLines", ⟨"StuckLines", "alike", "(I)I"⟩, prog_1_method_14_code, 2, (some .int), [], 7, 130)
def m_L_ternary : sk_M := ("StuckLinesLaw", ⟨"StuckLinesLaw", "ternary", "(LStuckLines;IIII[J)I"⟩, method_14_code, 7, (some .int), [(0, 14, 17, 21), (0, 14, 21, 19)], 9, 156)
def m_X_ternary : sk_M := ("StuckLines", ⟨"StuckLines", "ternary", "(IIII)I"⟩, prog_1_method_15_code, 5, (some .int), [], 8, 132)
def m_C_isSumOfSources : sk_M := ("StuckLines$Circuit", ⟨"StuckLines$Circuit", "isSumOfSources", "(I)Z"⟩, prog_2_method_15_code, 2, (some .boolean), [], 1, 20)
def m_S_settleCube : sk_M := ("StuckLines$Signals", ⟨"StuckLines$Signals", "settleCube", "(III)V"⟩, prog_7_method_3_code, 7, none, [], 2, 58)
def m_L_cube : sk_M := ("StuckLinesLaw", ⟨"StuckLinesLaw", "cube", "(LStuckLines;I[J)I"⟩, method_15_code, 4, (some .int), [(0, 9, 12, 21)], 8, 155)
def m_X_cube : sk_M := ("StuckLines", ⟨"StuckLines", "cube", "(I)I"⟩, prog_1_method_16_code, 3, (some .int), [], 7, 133)
def m_U_widen : sk_M := ("StuckLines$Cubes", ⟨"StuckLines$Cubes", "widen", "(II)I"⟩, prog_3_method_2_code, 7, (some .int), [], 4, 107)
def m_U_shows : sk_M := ("StuckLines$Cubes", ⟨"StuckLines$Cubes", "shows", "(III)Z"⟩, prog_3_method_3_code, 4, (some .boolean), [], 3, 84)
def m_S_isContraryTo : sk_M := ("StuckLines$Signals", ⟨"StuckLines$Signals", "isContraryTo", "(LStuckLines$Signals;)Z"⟩, prog_7_method_8_code, 4, (some .boolean), [], 0, 0)
def m_L_log : sk_M := ("StuckLinesLaw", ⟨"StuckLinesLaw", "log", "(LStuckLines;II[J)I"⟩, method_16_code, 5, (some .int), [(0, 10, 13, 21), (0, 10, 17, 19), (0, 10, 21, 13)], 8, 133)
def m_X_log : sk_M := ("StuckLines", ⟨"StuckLines", "log", "(II)I"⟩, prog_1_method_18_code, 3, (some .int), [], 7, 111)
def m_G_add : sk_M := ("StuckLines$SeenLog", ⟨"StuckLines$SeenLog", "add", "(II)I"⟩, prog_6_method_2_code, 3, (some .int), [], 0, 0)
def m_M_init : sk_M := ("StuckLinesModel", ⟨"StuckLinesModel", "<init>", "()V"⟩, prog_9_method_1_code, 1, none, [], 1, 20)
def m_M_thrown : sk_M := ("StuckLinesModel", ⟨"StuckLinesModel", "thrown", "()I"⟩, prog_9_method_2_code, 1, (some .int), [], 0, 0)
def m_M_clear : sk_M := ("StuckLinesModel", ⟨"StuckLinesModel", "clear", "()V"⟩, prog_9_method_7_code, 1, none, [], 1, 22)
def m_M_built : sk_M := ("StuckLinesModel", ⟨"StuckLinesModel", "built", "()V"⟩, prog_9_method_6_code, 3, none, [], 0, 0)
def m_M_source : sk_M := ("StuckLinesModel", ⟨"StuckLinesModel", "source", "(Z)I"⟩, prog_9_method_8_code, 2, (some .int), [], 1, 22)
def m_M_gate : sk_M := ("StuckLinesModel", ⟨"StuckLinesModel", "gate", "(IIII)I"⟩, prog_9_method_9_code, 7, (some .int), [], 1, 22)
def m_M_noLine : sk_M := ("StuckLinesModel", ⟨"StuckLinesModel", "noLine", "(I)Z"⟩, prog_9_method_3_code, 2, (some .boolean), [], 0, 0)
def m_M_output : sk_M := ("StuckLinesModel", ⟨"StuckLinesModel", "output", "(I)I"⟩, prog_9_method_10_code, 4, (some .int), [], 1, 22)
def m_M_data : sk_M := ("StuckLinesModel", ⟨"StuckLinesModel", "data", "(II)V"⟩, prog_9_method_11_code, 4, none, [], 1, 22)
def m_M_count : sk_M := ("StuckLinesModel", ⟨"StuckLinesModel", "count", "(I)I"⟩, prog_9_method_18_code, 5, (some .int), [], 3, 79)
def m_M_learn : sk_M := ("StuckLinesModel", ⟨"StuckLinesModel", "learn", "()V"⟩, prog_9_method_15_code, 3, none, [], 2, 57)
def m_M_vectors : sk_M := ("StuckLinesModel", ⟨"StuckLinesModel", "vectors", "()I"⟩, prog_9_method_4_code, 1, (some .int), [], 0, 0)
def m_M_make : sk_M := ("StuckLinesModel", ⟨"StuckLinesModel", "make", "(III)V"⟩, prog_9_method_13_code, 14, none, [], 1, 24)
def m_M_madeOf : sk_M := ("StuckLinesModel", ⟨"StuckLinesModel", "madeOf", "(IIII)I"⟩, prog_9_method_12_code, 5, (some .int), [], 0, 0)
def m_M_answered : sk_M := ("StuckLinesModel", ⟨"StuckLinesModel", "answered", "()I"⟩, prog_9_method_14_code, 3, (some .int), [], 0, 0)
def m_M_leastOf : sk_M := ("StuckLinesModel", ⟨"StuckLinesModel", "leastOf", "(I)I"⟩, prog_9_method_16_code, 3, (some .int), [], 1, 20)
def m_M_firstAlike : sk_M := ("StuckLinesModel", ⟨"StuckLinesModel", "firstAlike", "(I)I"⟩, prog_9_method_17_code, 5, (some .int), [], 1, 20)
def m_M_value : sk_M := ("StuckLinesModel", ⟨"StuckLinesModel", "value", "(III)I"⟩, prog_9_method_19_code, 4, (some .int), [], 2, 57)
def m_M_noFault : sk_M := ("StuckLinesModel", ⟨"StuckLinesModel", "noFault", "(I)Z"⟩, prog_9_method_5_code, 2, (some .boolean), [], 0, 0)
def m_M_response : sk_M := ("StuckLinesModel", ⟨"StuckLinesModel", "response", "(II)I"⟩, prog_9_method_20_code, 3, (some .int), [], 2, 57)
def m_M_fault : sk_M := ("StuckLinesModel", ⟨"StuckLinesModel", "fault", "(III)I"⟩, prog_9_method_21_code, 5, (some .int), [], 0, 0)
def m_M_faultAt : sk_M := ("StuckLinesModel", ⟨"StuckLinesModel", "faultAt", "(II)I"⟩, prog_9_method_22_code, 3, (some .int), [], 1, 21)
def m_M_least : sk_M := ("StuckLinesModel", ⟨"StuckLinesModel", "least", "(I)I"⟩, prog_9_method_23_code, 2, (some .int), [], 3, 79)
def m_M_showing : sk_M := ("StuckLinesModel", ⟨"StuckLinesModel", "showing", "(I)J"⟩, prog_9_method_24_code, 5, (some .long), [], 3, 79)
def m_M_alike : sk_M := ("StuckLinesModel", ⟨"StuckLinesModel", "alike", "(I)I"⟩, prog_9_method_25_code, 2, (some .int), [], 3, 79)
def m_M_ternary : sk_M := ("StuckLinesModel", ⟨"StuckLinesModel", "ternary", "(IIII)I"⟩, prog_9_method_26_code, 7, (some .int), [], 2, 57)
def m_M_cube : sk_M := ("StuckLinesModel", ⟨"StuckLinesModel", "cube", "(I)I"⟩, prog_9_method_28_code, 6, (some .int), [], 3, 83)
def m_M_tells : sk_M := ("StuckLinesModel", ⟨"StuckLinesModel", "tells", "(III)Z"⟩, prog_9_method_27_code, 7, (some .boolean), [], 2, 57)
def m_M_packed : sk_M := ("StuckLinesModel", ⟨"StuckLinesModel", "packed", "(I)I"⟩, prog_9_method_31_code, 4, (some .int), [], 4, 102)
def m_M_pack : sk_M := ("StuckLinesModel", ⟨"StuckLinesModel", "pack", "()V"⟩, prog_9_method_30_code, 4, none, [], 3, 79)
def m_M_covered : sk_M := ("StuckLinesModel", ⟨"StuckLinesModel", "covered", "(II)Z"⟩, prog_9_method_29_code, 5, (some .boolean), [], 0, 0)
def m_M_log : sk_M := ("StuckLinesModel", ⟨"StuckLinesModel", "log", "(II)I"⟩, prog_9_method_32_code, 3, (some .int), [], 1, 20)
def m_M_forget : sk_M := ("StuckLinesModel", ⟨"StuckLinesModel", "forget", "()I"⟩, prog_9_method_33_code, 2, (some .int), [], 0, 0)
def m_M_explains : sk_M := ("StuckLinesModel", ⟨"StuckLinesModel", "explains", "(I)I"⟩, prog_9_method_35_code, 4, (some .int), [], 3, 79)
def m_M_gives : sk_M := ("StuckLinesModel", ⟨"StuckLinesModel", "gives", "(I)Z"⟩, prog_9_method_34_code, 5, (some .boolean), [], 0, 0)
theorem lk_X_11 : sk_lkI "StuckLines" 11 m_C_init 0 := ⟨Or.inr ⟨"StuckLines", by decide +kernel⟩, sw_26, sw_2, sw_27, rfl, rfl, rfl, ⟨by decide +kernel, by decide +kernel, by decide +kernel⟩⟩
theorem lk_X_18 : sk_lkI "StuckLines" 18 m_S_init 1 := ⟨Or.inl sw_98, sw_99, sw_3, sw_100, rfl, rfl, rfl, ⟨by decide +kernel, by decide +kernel, by decide +kernel⟩⟩
theorem lk_X_27 : sk_lkI "StuckLines" 27 m_R_init 1 := ⟨Or.inl sw_127, sw_128, sw_4, sw_129, rfl, rfl, rfl, ⟨by decide +kernel, by decide +kernel, by decide +kernel⟩⟩
theorem lk_X_34 : sk_lkI "StuckLines" 34 m_U_init 1 := ⟨Or.inl sw_151, sw_152, sw_5, sw_153, rfl, rfl, rfl, ⟨by decide +kernel, by decide +kernel, by decide +kernel⟩⟩
theorem lk_X_41 : sk_lkI "StuckLines" 41 m_P_init 2 := ⟨Or.inl sw_169, sw_170, sw_6, sw_171, rfl, rfl, rfl, ⟨by decide +kernel, by decide +kernel, by decide +kernel⟩⟩
theorem lk_X_50 : sk_lkI "StuckLines" 50 m_G_init 1 := ⟨Or.inl sw_194, sw_195, sw_7, sw_196, rfl, rfl, rfl, ⟨by decide +kernel, by decide +kernel, by decide +kernel⟩⟩
theorem lk_R_28 : sk_lkI "StuckLines$Responses" 28 m_S_init 1 := ⟨Or.inl sw_132, sw_99, sw_3, sw_100, rfl, rfl, rfl, ⟨by decide +kernel, by decide +kernel, by decide +kernel⟩⟩
theorem lk_U_17 : sk_lkI "StuckLines$Cubes" 17 m_S_init 1 := ⟨Or.inl sw_156, sw_99, sw_3, sw_100, rfl, rfl, rfl, ⟨by decide +kernel, by decide +kernel, by decide +kernel⟩⟩
theorem lk_X_57 : sk_lkV "StuckLines" 57 m_C_removeAll 0 := ⟨sw_235, sw_236, sw_237, sw_2, sw_238, rfl, ⟨by decide +kernel, by decide +kernel, by decide +kernel⟩⟩
theorem lk_X_60 : sk_lkV "StuckLines" 60 m_G_removeAll 0 := ⟨sw_239, sw_240, sw_241, sw_7, sw_242, rfl, ⟨by decide +kernel, by decide +kernel, by decide +kernel⟩⟩
theorem lk_X_159 : sk_lkV "StuckLines" 159 m_C_hasLine 1 := ⟨sw_247, sw_248, sw_249, sw_2, sw_250, rfl, ⟨by decide +kernel, by decide +kernel, by decide +kernel⟩⟩
theorem lk_X_162 : sk_lkV "StuckLines" 162 m_C_pinsOf 1 := ⟨sw_251, sw_252, sw_253, sw_2, sw_254, rfl, ⟨by decide +kernel, by decide +kernel, by decide +kernel⟩⟩
theorem lk_X_129 : sk_lkV "StuckLines" 129 m_R_prepareAll 0 := ⟨sw_259, sw_260, sw_261, sw_4, sw_262, rfl, ⟨by decide +kernel, by decide +kernel, by decide +kernel⟩⟩
theorem lk_X_207 : sk_lkV "StuckLines" 207 m_P_at 1 := ⟨sw_303, sw_304, sw_305, sw_6, sw_306, rfl, ⟨by decide +kernel, by decide +kernel, by decide +kernel⟩⟩
theorem lk_R_35 : sk_lkV "StuckLines$Responses" 35 m_C_faults 0 := ⟨sw_263, sw_264, sw_265, sw_2, sw_266, rfl, ⟨by decide +kernel, by decide +kernel, by decide +kernel⟩⟩
theorem lk_R_41 : sk_lkV "StuckLines$Responses" 41 m_R_workOut 1 := ⟨sw_267, sw_269, sv_0, sw_4, sw_270, rfl, ⟨by decide +kernel, by decide +kernel, by decide +kernel⟩⟩
theorem lk_R_51 : sk_lkV "StuckLines$Responses" 51 m_C_vectors 0 := ⟨sw_272, sw_273, sw_274, sw_2, sw_275, rfl, ⟨by decide +kernel, by decide +kernel, by decide +kernel⟩⟩
theorem lk_R_54 : sk_lkV "StuckLines$Responses" 54 m_S_settleVectors 1 := ⟨sw_276, sw_277, sw_278, sw_3, sw_279, rfl, ⟨by decide +kernel, by decide +kernel, by decide +kernel⟩⟩
theorem lk_R_63 : sk_lkV "StuckLines$Responses" 63 m_S_onesOf 1 := ⟨sw_299, sw_300, sw_301, sw_3, sw_302, rfl, ⟨by decide +kernel, by decide +kernel, by decide +kernel⟩⟩
theorem lk_S_41 : sk_lkV "StuckLines$Signals" 41 m_S_settle 1 := ⟨sw_283, sw_285, sv_1, sw_3, sw_286, rfl, ⟨by decide +kernel, by decide +kernel, by decide +kernel⟩⟩
theorem lk_S_45 : sk_lkV "StuckLines$Signals" 45 m_C_stuckLine 1 := ⟨sw_287, sw_288, sw_289, sw_2, sw_290, rfl, ⟨by decide +kernel, by decide +kernel, by decide +kernel⟩⟩
theorem lk_S_51 : sk_lkV "StuckLines$Signals" 51 m_C_stuckPin 1 := ⟨sw_291, sw_292, sw_293, sw_2, sw_294, rfl, ⟨by decide +kernel, by decide +kernel, by decide +kernel⟩⟩
theorem lk_S_63 : sk_lkV "StuckLines$Signals" 63 m_S_settleGate 1 := ⟨sw_295, sw_297, sv_2, sw_3, sw_298, rfl, ⟨by decide +kernel, by decide +kernel, by decide +kernel⟩⟩
theorem lk_P_37 : sk_lkV "StuckLines$PackedSet" 37 m_P_gather 0 := ⟨sw_307, sw_309, sv_3, sw_6, sw_310, rfl, ⟨by decide +kernel, by decide +kernel, by decide +kernel⟩⟩
theorem lk_P_40 : sk_lkV "StuckLines$PackedSet" 40 m_P_thinOut 0 := ⟨sw_321, sw_323, sv_4, sw_6, sw_324, rfl, ⟨by decide +kernel, by decide +kernel, by decide +kernel⟩⟩
theorem lk_P_43 : sk_lkV "StuckLines$PackedSet" 43 m_P_dropTheLeftOut 0 := ⟨sw_330, sw_332, sv_6, sw_6, sw_333, rfl, ⟨by decide +kernel, by decide +kernel, by decide +kernel⟩⟩
theorem lk_P_46 : sk_lkV "StuckLines$PackedSet" 46 m_C_faults 0 := ⟨sw_311, sw_264, sw_265, sw_2, sw_266, rfl, ⟨by decide +kernel, by decide +kernel, by decide +kernel⟩⟩
theorem lk_P_50 : sk_lkV "StuckLines$PackedSet" 50 m_R_firstShowing 1 := ⟨sw_312, sw_313, sw_314, sw_4, sw_315, rfl, ⟨by decide +kernel, by decide +kernel, by decide +kernel⟩⟩
theorem lk_P_56 : sk_lkV "StuckLines$PackedSet" 56 m_R_vectorsShowing 1 := ⟨sw_320, sw_317, sw_318, sw_4, sw_319, rfl, ⟨by decide +kernel, by decide +kernel, by decide +kernel⟩⟩
theorem lk_R_67 : sk_lkV "StuckLines$Responses" 67 m_R_vectorsShowing 1 := ⟨sw_316, sw_317, sw_318, sw_4, sw_319, rfl, ⟨by decide +kernel, by decide +kernel, by decide +kernel⟩⟩
theorem lk_P_62 : sk_lkV "StuckLines$PackedSet" 62 m_P_showAll 1 := ⟨sw_326, sw_328, sv_5, sw_6, sw_329, rfl, ⟨by decide +kernel, by decide +kernel, by decide +kernel⟩⟩
theorem lk_X_153 : sk_lkV "StuckLines" 153 m_R_prepare 1 := ⟨sw_342, sw_343, sw_344, sw_4, sw_345, rfl, ⟨by decide +kernel, by decide +kernel, by decide +kernel⟩⟩
theorem lk_X_220 : sk_lkV "StuckLines" 220 m_G_isExplainedBy 1 := ⟨sw_346, sw_347, sw_348, sw_7, sw_349, rfl, ⟨by decide +kernel, by decide +kernel, by decide +kernel⟩⟩
theorem lk_X_125 : sk_lkV "StuckLines" 125 m_C_faults 0 := ⟨sw_354, sw_264, sw_265, sw_2, sw_266, rfl, ⟨by decide +kernel, by decide +kernel, by decide +kernel⟩⟩
theorem lk_G_26 : sk_lkV "StuckLines$SeenLog" 26 m_R_to 2 := ⟨sw_350, sw_351, sw_352, sw_4, sw_353, rfl, ⟨by decide +kernel, by decide +kernel, by decide +kernel⟩⟩
theorem lk_L_7 : sk_lkV "StuckLinesLaw" 7 m_X_source 1 := ⟨sw_359, sw_360, sw_361, sw_1, sw_362, rfl, ⟨by decide +kernel, by decide +kernel, by decide +kernel⟩⟩
theorem lk_X_75 : sk_lkV "StuckLines" 75 m_C_addSource 1 := ⟨sw_431, sw_432, sw_433, sw_2, sw_434, rfl, ⟨by decide +kernel, by decide +kernel, by decide +kernel⟩⟩
theorem lk_C_59 : sk_lkV "StuckLines$Circuit" 59 m_C_addLine 1 := ⟨sw_435, sw_437, sv_8, sw_2, sw_438, rfl, ⟨by decide +kernel, by decide +kernel, by decide +kernel⟩⟩
theorem lk_L_15 : sk_lkV "StuckLinesLaw" 15 m_X_gate 4 := ⟨sw_444, sw_445, sw_446, sw_1, sw_447, rfl, ⟨by decide +kernel, by decide +kernel, by decide +kernel⟩⟩
theorem lk_X_86 : sk_lkV "StuckLines" 86 m_X_requireLine 1 := ⟨sw_465, sw_467, sv_9, sw_1, sw_468, rfl, ⟨by decide +kernel, by decide +kernel, by decide +kernel⟩⟩
theorem lk_X_90 : sk_lkV "StuckLines" 90 m_X_requireLineOrNone 1 := ⟨sw_485, sw_487, sv_10, sw_1, sw_488, rfl, ⟨by decide +kernel, by decide +kernel, by decide +kernel⟩⟩
theorem lk_X_95 : sk_lkV "StuckLines" 95 m_C_addGate 4 := ⟨sw_490, sw_491, sw_492, sw_2, sw_493, rfl, ⟨by decide +kernel, by decide +kernel, by decide +kernel⟩⟩
theorem lk_C_63 : sk_lkV "StuckLines$Circuit" 63 m_C_addPin 2 := ⟨sw_494, sw_496, sv_11, sw_2, sw_497, rfl, ⟨by decide +kernel, by decide +kernel, by decide +kernel⟩⟩
theorem lk_L_23 : sk_lkV "StuckLinesLaw" 23 m_X_output 1 := ⟨sw_501, sw_502, sw_503, sw_1, sw_504, rfl, ⟨by decide +kernel, by decide +kernel, by decide +kernel⟩⟩
theorem lk_X_99 : sk_lkV "StuckLines" 99 m_C_isOutput 1 := ⟨sw_505, sw_506, sw_507, sw_2, sw_508, rfl, ⟨by decide +kernel, by decide +kernel, by decide +kernel⟩⟩
theorem lk_X_108 : sk_lkV "StuckLines" 108 m_C_addOutput 1 := ⟨sw_510, sw_511, sw_512, sw_2, sw_513, rfl, ⟨by decide +kernel, by decide +kernel, by decide +kernel⟩⟩
theorem lk_C_67 : sk_lkV "StuckLines$Circuit" 67 m_C_gatherObserved 0 := ⟨sw_514, sw_516, sv_12, sw_2, sw_517, rfl, ⟨by decide +kernel, by decide +kernel, by decide +kernel⟩⟩
theorem lk_C_70 : sk_lkV "StuckLines$Circuit" 70 m_C_observe 1 := ⟨sw_518, sw_520, sv_13, sw_2, sw_521, rfl, ⟨by decide +kernel, by decide +kernel, by decide +kernel⟩⟩
theorem lk_L_27 : sk_lkV "StuckLinesLaw" 27 m_X_data 2 := ⟨sw_525, sw_526, sw_527, sw_1, sw_528, rfl, ⟨by decide +kernel, by decide +kernel, by decide +kernel⟩⟩
theorem lk_X_118 : sk_lkV "StuckLines" 118 m_C_connectData 2 := ⟨sw_530, sw_531, sw_532, sw_2, sw_533, rfl, ⟨by decide +kernel, by decide +kernel, by decide +kernel⟩⟩
theorem lk_L_31 : sk_lkV "StuckLinesLaw" 31 m_X_count 1 := ⟨sw_537, sw_538, sw_539, sw_1, sw_540, rfl, ⟨by decide +kernel, by decide +kernel, by decide +kernel⟩⟩
theorem lk_X_132 : sk_lkV "StuckLines" 132 m_R_shownFaults 0 := ⟨sw_541, sw_542, sw_543, sw_4, sw_544, rfl, ⟨by decide +kernel, by decide +kernel, by decide +kernel⟩⟩
theorem lk_X_135 : sk_lkV "StuckLines" 135 m_R_classesOfAlike 0 := ⟨sw_545, sw_546, sw_547, sw_4, sw_548, rfl, ⟨by decide +kernel, by decide +kernel, by decide +kernel⟩⟩
theorem lk_R_74 : sk_lkV "StuckLines$Responses" 74 m_R_firstAlike 1 := ⟨sw_549, sw_550, sw_551, sw_4, sw_552, rfl, ⟨by decide +kernel, by decide +kernel, by decide +kernel⟩⟩
theorem lk_R_70 : sk_lkV "StuckLines$Responses" 70 m_R_areAlike 2 := ⟨sw_553, sw_555, sv_14, sw_4, sw_556, rfl, ⟨by decide +kernel, by decide +kernel, by decide +kernel⟩⟩
theorem lk_L_34 : sk_lkV "StuckLinesLaw" 34 m_X_value 3 := ⟨sw_561, sw_562, sw_563, sw_1, sw_564, rfl, ⟨by decide +kernel, by decide +kernel, by decide +kernel⟩⟩
theorem lk_X_140 : sk_lkV "StuckLines" 140 m_X_requireVector 1 := ⟨sw_565, sw_567, sv_15, sw_1, sw_568, rfl, ⟨by decide +kernel, by decide +kernel, by decide +kernel⟩⟩
theorem lk_X_143 : sk_lkV "StuckLines" 143 m_X_requireFaultOrNone 1 := ⟨sw_571, sw_573, sv_16, sw_1, sw_574, rfl, ⟨by decide +kernel, by decide +kernel, by decide +kernel⟩⟩
theorem lk_X_146 : sk_lkV "StuckLines" 146 m_S_settleVectors 1 := ⟨sw_580, sw_277, sw_278, sw_3, sw_279, rfl, ⟨by decide +kernel, by decide +kernel, by decide +kernel⟩⟩
theorem lk_X_149 : sk_lkV "StuckLines" 149 m_S_stateOf 2 := ⟨sw_581, sw_582, sw_583, sw_3, sw_584, rfl, ⟨by decide +kernel, by decide +kernel, by decide +kernel⟩⟩
theorem lk_X_228 : sk_lkV "StuckLines" 228 m_C_vectors 0 := ⟨sw_569, sw_273, sw_274, sw_2, sw_275, rfl, ⟨by decide +kernel, by decide +kernel, by decide +kernel⟩⟩
theorem lk_X_169 : sk_lkV "StuckLines" 169 m_X_requireFault 1 := ⟨sw_575, sw_577, sv_17, sw_1, sw_578, rfl, ⟨by decide +kernel, by decide +kernel, by decide +kernel⟩⟩
theorem lk_L_38 : sk_lkV "StuckLinesLaw" 38 m_X_response 2 := ⟨sw_588, sw_589, sw_590, sw_1, sw_591, rfl, ⟨by decide +kernel, by decide +kernel, by decide +kernel⟩⟩
theorem lk_X_156 : sk_lkV "StuckLines" 156 m_R_to 2 := ⟨sw_592, sw_351, sw_352, sw_4, sw_353, rfl, ⟨by decide +kernel, by decide +kernel, by decide +kernel⟩⟩
theorem lk_L_42 : sk_lkV "StuckLinesLaw" 42 m_X_faultAt 2 := ⟨sw_596, sw_597, sw_598, sw_1, sw_599, rfl, ⟨by decide +kernel, by decide +kernel, by decide +kernel⟩⟩
theorem lk_X_172 : sk_lkV "StuckLines" 172 m_C_stuckLine 1 := ⟨sw_600, sw_288, sw_289, sw_2, sw_290, rfl, ⟨by decide +kernel, by decide +kernel, by decide +kernel⟩⟩
theorem lk_X_175 : sk_lkV "StuckLines" 175 m_C_stuckPin 1 := ⟨sw_601, sw_292, sw_293, sw_2, sw_294, rfl, ⟨by decide +kernel, by decide +kernel, by decide +kernel⟩⟩
theorem lk_L_45 : sk_lkV "StuckLinesLaw" 45 m_X_least 1 := ⟨sw_606, sw_607, sw_608, sw_1, sw_609, rfl, ⟨by decide +kernel, by decide +kernel, by decide +kernel⟩⟩
theorem lk_X_183 : sk_lkV "StuckLines" 183 m_R_firstShowing 1 := ⟨sw_610, sw_313, sw_314, sw_4, sw_315, rfl, ⟨by decide +kernel, by decide +kernel, by decide +kernel⟩⟩
theorem lk_L_48 : sk_lkV "StuckLinesLaw" 48 m_X_showing 1 := ⟨sw_614, sw_615, sw_616, sw_1, sw_617, rfl, ⟨by decide +kernel, by decide +kernel, by decide +kernel⟩⟩
theorem lk_X_186 : sk_lkV "StuckLines" 186 m_R_vectorsShowing 1 := ⟨sw_618, sw_317, sw_318, sw_4, sw_319, rfl, ⟨by decide +kernel, by decide +kernel, by decide +kernel⟩⟩
theorem lk_L_52 : sk_lkV "StuckLinesLaw" 52 m_X_alike 1 := ⟨sw_622, sw_623, sw_624, sw_1, sw_625, rfl, ⟨by decide +kernel, by decide +kernel, by decide +kernel⟩⟩
theorem lk_X_190 : sk_lkV "StuckLines" 190 m_R_firstAlike 1 := ⟨sw_626, sw_550, sw_551, sw_4, sw_552, rfl, ⟨by decide +kernel, by decide +kernel, by decide +kernel⟩⟩
theorem lk_L_55 : sk_lkV "StuckLinesLaw" 55 m_X_ternary 4 := ⟨sw_630, sw_631, sw_632, sw_1, sw_633, rfl, ⟨by decide +kernel, by decide +kernel, by decide +kernel⟩⟩
theorem lk_X_193 : sk_lkV "StuckLines" 193 m_C_isSumOfSources 1 := ⟨sw_634, sw_635, sw_636, sw_2, sw_637, rfl, ⟨by decide +kernel, by decide +kernel, by decide +kernel⟩⟩
theorem lk_X_200 : sk_lkV "StuckLines" 200 m_S_settleCube 3 := ⟨sw_641, sw_642, sw_643, sw_3, sw_644, rfl, ⟨by decide +kernel, by decide +kernel, by decide +kernel⟩⟩
theorem lk_C_74 : sk_lkV "StuckLines$Circuit" 74 m_C_vectors 0 := ⟨sw_638, sw_273, sw_274, sw_2, sw_275, rfl, ⟨by decide +kernel, by decide +kernel, by decide +kernel⟩⟩
theorem lk_L_58 : sk_lkV "StuckLinesLaw" 58 m_X_cube 1 := ⟨sw_648, sw_649, sw_650, sw_1, sw_651, rfl, ⟨by decide +kernel, by decide +kernel, by decide +kernel⟩⟩
theorem lk_X_204 : sk_lkV "StuckLines" 204 m_U_widen 2 := ⟨sw_652, sw_653, sw_654, sw_5, sw_655, rfl, ⟨by decide +kernel, by decide +kernel, by decide +kernel⟩⟩
theorem lk_U_33 : sk_lkV "StuckLines$Cubes" 33 m_U_shows 3 := ⟨sw_656, sw_658, sv_18, sw_5, sw_659, rfl, ⟨by decide +kernel, by decide +kernel, by decide +kernel⟩⟩
theorem lk_U_37 : sk_lkV "StuckLines$Cubes" 37 m_S_settleCube 3 := ⟨sw_660, sw_642, sw_643, sw_3, sw_644, rfl, ⟨by decide +kernel, by decide +kernel, by decide +kernel⟩⟩
theorem lk_U_41 : sk_lkV "StuckLines$Cubes" 41 m_S_isContraryTo 1 := ⟨sw_661, sw_662, sw_663, sw_3, sw_664, rfl, ⟨by decide +kernel, by decide +kernel, by decide +kernel⟩⟩
theorem lk_L_61 : sk_lkV "StuckLinesLaw" 61 m_X_log 2 := ⟨sw_668, sw_669, sw_670, sw_1, sw_671, rfl, ⟨by decide +kernel, by decide +kernel, by decide +kernel⟩⟩
theorem lk_X_217 : sk_lkV "StuckLines" 217 m_G_add 2 := ⟨sw_674, sw_675, sw_676, sw_7, sw_677, rfl, ⟨by decide +kernel, by decide +kernel, by decide +kernel⟩⟩
theorem lk_M_97 : sk_lkV "StuckLinesModel" 97 m_M_built 0 := ⟨sw_780, sw_782, sv_19, sw_8, sw_783, rfl, ⟨by decide +kernel, by decide +kernel, by decide +kernel⟩⟩
theorem lk_M_100 : sk_lkV "StuckLinesModel" 100 m_M_noLine 1 := ⟨sw_792, sw_794, sv_20, sw_8, sw_795, rfl, ⟨by decide +kernel, by decide +kernel, by decide +kernel⟩⟩
theorem lk_M_119 : sk_lkV "StuckLinesModel" 119 m_M_learn 0 := ⟨sw_808, sw_810, sv_21, sw_8, sw_811, rfl, ⟨by decide +kernel, by decide +kernel, by decide +kernel⟩⟩
theorem lk_M_122 : sk_lkV "StuckLinesModel" 122 m_M_leastOf 1 := ⟨sw_827, sw_829, sv_25, sw_8, sw_830, rfl, ⟨by decide +kernel, by decide +kernel, by decide +kernel⟩⟩
theorem lk_M_126 : sk_lkV "StuckLinesModel" 126 m_M_firstAlike 1 := ⟨sw_831, sw_833, sv_26, sw_8, sw_834, rfl, ⟨by decide +kernel, by decide +kernel, by decide +kernel⟩⟩
theorem lk_M_108 : sk_lkV "StuckLinesModel" 108 m_M_vectors 0 := ⟨sw_812, sw_814, sv_22, sw_8, sw_815, rfl, ⟨by decide +kernel, by decide +kernel, by decide +kernel⟩⟩
theorem lk_M_112 : sk_lkV "StuckLinesModel" 112 m_M_make 3 := ⟨sw_816, sw_818, sv_23, sw_8, sw_819, rfl, ⟨by decide +kernel, by decide +kernel, by decide +kernel⟩⟩
theorem lk_M_116 : sk_lkV "StuckLinesModel" 116 m_M_answered 0 := ⟨sw_823, sw_825, sv_24, sw_8, sw_826, rfl, ⟨by decide +kernel, by decide +kernel, by decide +kernel⟩⟩
theorem lk_M_104 : sk_lkS "StuckLinesModel" 104 m_M_madeOf 4 := ⟨sw_820, sw_821, sw_8, sw_822, ⟨by decide +kernel, by decide +kernel, by decide +kernel⟩⟩
theorem lk_M_129 : sk_lkV "StuckLinesModel" 129 m_M_noFault 1 := ⟨sw_839, sw_841, sv_27, sw_8, sw_842, rfl, ⟨by decide +kernel, by decide +kernel, by decide +kernel⟩⟩
theorem lk_M_132 : sk_lkV "StuckLinesModel" 132 m_M_tells 3 := ⟨sw_875, sw_877, sv_28, sw_8, sw_878, rfl, ⟨by decide +kernel, by decide +kernel, by decide +kernel⟩⟩
theorem lk_M_143 : sk_lkV "StuckLinesModel" 143 m_M_pack 0 := ⟨sw_883, sw_885, sv_29, sw_8, sw_886, rfl, ⟨by decide +kernel, by decide +kernel, by decide +kernel⟩⟩
theorem lk_M_139 : sk_lkV "StuckLinesModel" 139 m_M_covered 2 := ⟨sw_887, sw_889, sv_30, sw_8, sw_890, rfl, ⟨by decide +kernel, by decide +kernel, by decide +kernel⟩⟩
theorem lk_M_146 : sk_lkV "StuckLinesModel" 146 m_M_gives 1 := ⟨sw_903, sw_905, sv_31, sw_8, sw_906, rfl, ⟨by decide +kernel, by decide +kernel, by decide +kernel⟩⟩
theorem lk_L_64 : sk_lkI "StuckLinesLaw" 64 m_X_init 0 := ⟨Or.inl sw_17, sw_18, sw_1, sw_19, rfl, rfl, rfl, ⟨by decide +kernel, by decide +kernel, by decide +kernel⟩⟩
theorem lk_L_67 : sk_lkI "StuckLinesLaw" 67 m_M_init 0 := ⟨Or.inl sw_680, sw_681, sw_8, sw_682, rfl, rfl, rfl, ⟨by decide +kernel, by decide +kernel, by decide +kernel⟩⟩
theorem lk_L_68 : sk_lkV "StuckLinesLaw" 68 m_X_clear 0 := ⟨sw_231, sw_232, sw_233, sw_1, sw_234, rfl, ⟨by decide +kernel, by decide +kernel, by decide +kernel⟩⟩
theorem lk_L_71 : sk_lkV "StuckLinesLaw" 71 m_M_clear 0 := ⟨sw_776, sw_777, sw_778, sw_8, sw_779, rfl, ⟨by decide +kernel, by decide +kernel, by decide +kernel⟩⟩
theorem lk_L_72 : sk_lkS "StuckLinesLaw" 72 m_L_source 3 := ⟨sw_355, sw_356, sw_0, sw_357, ⟨by decide +kernel, by decide +kernel, by decide +kernel⟩⟩
theorem lk_L_77 : sk_lkV "StuckLinesLaw" 77 m_M_source 1 := ⟨sw_784, sw_785, sw_786, sw_8, sw_787, rfl, ⟨by decide +kernel, by decide +kernel, by decide +kernel⟩⟩
theorem lk_L_78 : sk_lkV "StuckLinesLaw" 78 m_M_thrown 0 := ⟨sw_772, sw_773, sw_774, sw_8, sw_775, rfl, ⟨by decide +kernel, by decide +kernel, by decide +kernel⟩⟩
theorem lk_L_82 : sk_lkS "StuckLinesLaw" 82 m_L_gate 6 := ⟨sw_439, sw_440, sw_0, sw_441, ⟨by decide +kernel, by decide +kernel, by decide +kernel⟩⟩
theorem lk_L_85 : sk_lkV "StuckLinesLaw" 85 m_M_gate 4 := ⟨sw_788, sw_789, sw_790, sw_8, sw_791, rfl, ⟨by decide +kernel, by decide +kernel, by decide +kernel⟩⟩
theorem lk_L_86 : sk_lkS "StuckLinesLaw" 86 m_L_output 3 := ⟨sw_498, sw_499, sw_0, sw_500, ⟨by decide +kernel, by decide +kernel, by decide +kernel⟩⟩
theorem lk_L_89 : sk_lkV "StuckLinesLaw" 89 m_M_output 1 := ⟨sw_796, sw_797, sw_798, sw_8, sw_799, rfl, ⟨by decide +kernel, by decide +kernel, by decide +kernel⟩⟩
theorem lk_L_90 : sk_lkS "StuckLinesLaw" 90 m_L_data 3 := ⟨sw_522, sw_523, sw_0, sw_524, ⟨by decide +kernel, by decide +kernel, by decide +kernel⟩⟩
theorem lk_L_93 : sk_lkV "StuckLinesLaw" 93 m_M_data 2 := ⟨sw_800, sw_801, sw_802, sw_8, sw_803, rfl, ⟨by decide +kernel, by decide +kernel, by decide +kernel⟩⟩
theorem lk_L_94 : sk_lkS "StuckLinesLaw" 94 m_L_count 3 := ⟨sw_534, sw_535, sw_0, sw_536, ⟨by decide +kernel, by decide +kernel, by decide +kernel⟩⟩
theorem lk_L_96 : sk_lkV "StuckLinesLaw" 96 m_M_count 1 := ⟨sw_804, sw_805, sw_806, sw_8, sw_807, rfl, ⟨by decide +kernel, by decide +kernel, by decide +kernel⟩⟩
theorem lk_L_97 : sk_lkS "StuckLinesLaw" 97 m_L_value 5 := ⟨sw_558, sw_559, sw_0, sw_560, ⟨by decide +kernel, by decide +kernel, by decide +kernel⟩⟩
theorem lk_L_100 : sk_lkV "StuckLinesLaw" 100 m_M_value 3 := ⟨sw_835, sw_836, sw_837, sw_8, sw_838, rfl, ⟨by decide +kernel, by decide +kernel, by decide +kernel⟩⟩
theorem lk_L_101 : sk_lkS "StuckLinesLaw" 101 m_L_response 4 := ⟨sw_585, sw_586, sw_0, sw_587, ⟨by decide +kernel, by decide +kernel, by decide +kernel⟩⟩
theorem lk_L_104 : sk_lkV "StuckLinesLaw" 104 m_M_response 2 := ⟨sw_843, sw_844, sw_845, sw_8, sw_846, rfl, ⟨by decide +kernel, by decide +kernel, by decide +kernel⟩⟩
theorem lk_L_105 : sk_lkV "StuckLinesLaw" 105 m_X_fault 3 := ⟨sw_243, sw_244, sw_245, sw_1, sw_246, rfl, ⟨by decide +kernel, by decide +kernel, by decide +kernel⟩⟩
theorem lk_L_108 : sk_lkV "StuckLinesLaw" 108 m_M_fault 3 := ⟨sw_847, sw_848, sw_849, sw_8, sw_850, rfl, ⟨by decide +kernel, by decide +kernel, by decide +kernel⟩⟩
theorem lk_L_109 : sk_lkS "StuckLinesLaw" 109 m_L_faultAt 4 := ⟨sw_593, sw_594, sw_0, sw_595, ⟨by decide +kernel, by decide +kernel, by decide +kernel⟩⟩
theorem lk_L_111 : sk_lkV "StuckLinesLaw" 111 m_M_faultAt 2 := ⟨sw_851, sw_852, sw_853, sw_8, sw_854, rfl, ⟨by decide +kernel, by decide +kernel, by decide +kernel⟩⟩
theorem lk_L_112 : sk_lkS "StuckLinesLaw" 112 m_L_least 3 := ⟨sw_603, sw_604, sw_0, sw_605, ⟨by decide +kernel, by decide +kernel, by decide +kernel⟩⟩
theorem lk_L_114 : sk_lkV "StuckLinesLaw" 114 m_M_least 1 := ⟨sw_855, sw_856, sw_857, sw_8, sw_858, rfl, ⟨by decide +kernel, by decide +kernel, by decide +kernel⟩⟩
theorem lk_L_115 : sk_lkS "StuckLinesLaw" 115 m_L_showing 3 := ⟨sw_611, sw_612, sw_0, sw_613, ⟨by decide +kernel, by decide +kernel, by decide +kernel⟩⟩
theorem lk_L_117 : sk_lkV "StuckLinesLaw" 117 m_M_showing 1 := ⟨sw_859, sw_860, sw_861, sw_8, sw_862, rfl, ⟨by decide +kernel, by decide +kernel, by decide +kernel⟩⟩
theorem lk_L_118 : sk_lkS "StuckLinesLaw" 118 m_L_alike 3 := ⟨sw_619, sw_620, sw_0, sw_621, ⟨by decide +kernel, by decide +kernel, by decide +kernel⟩⟩
theorem lk_L_120 : sk_lkV "StuckLinesLaw" 120 m_M_alike 1 := ⟨sw_863, sw_864, sw_865, sw_8, sw_866, rfl, ⟨by decide +kernel, by decide +kernel, by decide +kernel⟩⟩
theorem lk_L_121 : sk_lkS "StuckLinesLaw" 121 m_L_ternary 6 := ⟨sw_627, sw_628, sw_0, sw_629, ⟨by decide +kernel, by decide +kernel, by decide +kernel⟩⟩
theorem lk_L_123 : sk_lkV "StuckLinesLaw" 123 m_M_ternary 4 := ⟨sw_867, sw_868, sw_869, sw_8, sw_870, rfl, ⟨by decide +kernel, by decide +kernel, by decide +kernel⟩⟩
theorem lk_L_124 : sk_lkS "StuckLinesLaw" 124 m_L_cube 3 := ⟨sw_645, sw_646, sw_0, sw_647, ⟨by decide +kernel, by decide +kernel, by decide +kernel⟩⟩
theorem lk_L_126 : sk_lkV "StuckLinesLaw" 126 m_M_cube 1 := ⟨sw_871, sw_872, sw_873, sw_8, sw_874, rfl, ⟨by decide +kernel, by decide +kernel, by decide +kernel⟩⟩
theorem lk_L_127 : sk_lkV "StuckLinesLaw" 127 m_X_packed 1 := ⟨sw_255, sw_256, sw_257, sw_1, sw_258, rfl, ⟨by decide +kernel, by decide +kernel, by decide +kernel⟩⟩
theorem lk_L_130 : sk_lkV "StuckLinesLaw" 130 m_M_packed 1 := ⟨sw_879, sw_880, sw_881, sw_8, sw_882, rfl, ⟨by decide +kernel, by decide +kernel, by decide +kernel⟩⟩
theorem lk_L_131 : sk_lkS "StuckLinesLaw" 131 m_L_log 4 := ⟨sw_665, sw_666, sw_0, sw_667, ⟨by decide +kernel, by decide +kernel, by decide +kernel⟩⟩
theorem lk_L_133 : sk_lkV "StuckLinesLaw" 133 m_M_log 2 := ⟨sw_891, sw_892, sw_893, sw_8, sw_894, rfl, ⟨by decide +kernel, by decide +kernel, by decide +kernel⟩⟩
theorem lk_L_134 : sk_lkV "StuckLinesLaw" 134 m_X_forget 0 := ⟨sw_334, sw_335, sw_336, sw_1, sw_337, rfl, ⟨by decide +kernel, by decide +kernel, by decide +kernel⟩⟩
theorem lk_L_137 : sk_lkV "StuckLinesLaw" 137 m_M_forget 0 := ⟨sw_895, sw_896, sw_897, sw_8, sw_898, rfl, ⟨by decide +kernel, by decide +kernel, by decide +kernel⟩⟩
theorem lk_L_138 : sk_lkV "StuckLinesLaw" 138 m_X_explains 1 := ⟨sw_338, sw_339, sw_340, sw_1, sw_341, rfl, ⟨by decide +kernel, by decide +kernel, by decide +kernel⟩⟩
theorem lk_L_141 : sk_lkV "StuckLinesLaw" 141 m_M_explains 1 := ⟨sw_899, sw_900, sw_901, sw_8, sw_902, rfl, ⟨by decide +kernel, by decide +kernel, by decide +kernel⟩⟩
theorem nw_X_9 : sk_nwc "StuckLines" 9 1 15 := ⟨"StuckLines$Circuit", sk_T1, rfl, sw_23, sw_24, sw_2⟩
theorem fp_X_12 : sk_fp "StuckLines" 12 0 6 0 2 (.object "StuckLines$Circuit") true := ⟨"StuckLines", sk_T0, rfl, by decide, sw_212, rfl, by decide +kernel, rfl, rfl⟩
theorem nw_X_16 : sk_nwc "StuckLines" 16 2 7 := ⟨"StuckLines$Signals", sk_T2, rfl, sw_96, sw_97, sw_3⟩
theorem fg_X_12 : sk_fg "StuckLines" 12 0 6 0 2 := ⟨"StuckLines", sk_T0, rfl, by decide, Or.inl sw_212, rfl⟩
theorem fp_X_21 : sk_fp "StuckLines" 21 0 6 1 2 (.object "StuckLines$Signals") true := ⟨"StuckLines", sk_T0, rfl, by decide, sw_213, rfl, by decide +kernel, rfl, rfl⟩
theorem nw_X_25 : sk_nwc "StuckLines" 25 3 5 := ⟨"StuckLines$Responses", sk_T3, rfl, sw_125, sw_126, sw_4⟩
theorem fp_X_28 : sk_fp "StuckLines" 28 0 6 2 2 (.object "StuckLines$Responses") true := ⟨"StuckLines", sk_T0, rfl, by decide, sw_214, rfl, by decide +kernel, rfl, rfl⟩
theorem nw_X_32 : sk_nwc "StuckLines" 32 4 3 := ⟨"StuckLines$Cubes", sk_T4, rfl, sw_149, sw_150, sw_5⟩
theorem fp_X_35 : sk_fp "StuckLines" 35 0 6 3 2 (.object "StuckLines$Cubes") true := ⟨"StuckLines", sk_T0, rfl, by decide, sw_215, rfl, by decide +kernel, rfl, rfl⟩
theorem nw_X_39 : sk_nwc "StuckLines" 39 5 6 := ⟨"StuckLines$PackedSet", sk_T5, rfl, sw_167, sw_168, sw_6⟩
theorem fg_X_28 : sk_fg "StuckLines" 28 0 6 2 2 := ⟨"StuckLines", sk_T0, rfl, by decide, Or.inl sw_214, rfl⟩
theorem fp_X_44 : sk_fp "StuckLines" 44 0 6 4 2 (.object "StuckLines$PackedSet") true := ⟨"StuckLines", sk_T0, rfl, by decide, sw_216, rfl, by decide +kernel, rfl, rfl⟩
theorem nw_X_48 : sk_nwc "StuckLines" 48 6 4 := ⟨"StuckLines$SeenLog", sk_T6, rfl, sw_192, sw_193, sw_7⟩
theorem fp_X_53 : sk_fp "StuckLines" 53 0 6 5 2 (.object "StuckLines$SeenLog") true := ⟨"StuckLines", sk_T0, rfl, by decide, sw_217, rfl, by decide +kernel, rfl, rfl⟩
theorem fp_C_9 : sk_fp "StuckLines$Circuit" 9 1 15 0 0 .int false := ⟨"StuckLines$Circuit", sk_T1, rfl, by decide, sw_29, rfl, by decide +kernel, rfl, rfl⟩
theorem fp_C_15 : sk_fp "StuckLines$Circuit" 15 1 15 1 0 .int false := ⟨"StuckLines$Circuit", sk_T1, rfl, by decide, sw_32, rfl, by decide +kernel, rfl, rfl⟩
theorem fp_C_18 : sk_fp "StuckLines$Circuit" 18 1 15 2 0 .int false := ⟨"StuckLines$Circuit", sk_T1, rfl, by decide, sw_35, rfl, by decide +kernel, rfl, rfl⟩
theorem fp_C_21 : sk_fp "StuckLines$Circuit" 21 1 15 3 0 .int false := ⟨"StuckLines$Circuit", sk_T1, rfl, by decide, sw_38, rfl, by decide +kernel, rfl, rfl⟩
theorem fp_C_24 : sk_fp "StuckLines$Circuit" 24 1 15 4 0 .int false := ⟨"StuckLines$Circuit", sk_T1, rfl, by decide, sw_40, rfl, by decide +kernel, rfl, rfl⟩
theorem fp_C_27 : sk_fp "StuckLines$Circuit" 27 1 15 5 0 .int false := ⟨"StuckLines$Circuit", sk_T1, rfl, by decide, sw_44, rfl, by decide +kernel, rfl, rfl⟩
theorem fp_C_30 : sk_fp "StuckLines$Circuit" 30 1 15 6 2 (.array .int) true := ⟨"StuckLines$Circuit", sk_T1, rfl, by decide, sw_45, rfl, by decide +kernel, rfl, rfl⟩
theorem fp_C_34 : sk_fp "StuckLines$Circuit" 34 1 15 7 2 (.array .int) true := ⟨"StuckLines$Circuit", sk_T1, rfl, by decide, sw_47, rfl, by decide +kernel, rfl, rfl⟩
theorem fp_C_37 : sk_fp "StuckLines$Circuit" 37 1 15 8 2 (.array .boolean) true := ⟨"StuckLines$Circuit", sk_T1, rfl, by decide, sw_49, rfl, by decide +kernel, rfl, rfl⟩
theorem fp_C_41 : sk_fp "StuckLines$Circuit" 41 1 15 9 2 (.array .int) true := ⟨"StuckLines$Circuit", sk_T1, rfl, by decide, sw_51, rfl, by decide +kernel, rfl, rfl⟩
theorem fp_C_44 : sk_fp "StuckLines$Circuit" 44 1 15 10 2 (.array .int) true := ⟨"StuckLines$Circuit", sk_T1, rfl, by decide, sw_54, rfl, by decide +kernel, rfl, rfl⟩
theorem fp_C_47 : sk_fp "StuckLines$Circuit" 47 1 15 11 2 (.array .int) true := ⟨"StuckLines$Circuit", sk_T1, rfl, by decide, sw_56, rfl, by decide +kernel, rfl, rfl⟩
theorem fp_C_50 : sk_fp "StuckLines$Circuit" 50 1 15 12 2 (.array .int) true := ⟨"StuckLines$Circuit", sk_T1, rfl, by decide, sw_58, rfl, by decide +kernel, rfl, rfl⟩
theorem fp_C_53 : sk_fp "StuckLines$Circuit" 53 1 15 13 2 (.array .int) true := ⟨"StuckLines$Circuit", sk_T1, rfl, by decide, sw_61, rfl, by decide +kernel, rfl, rfl⟩
theorem fp_C_56 : sk_fp "StuckLines$Circuit" 56 1 15 14 2 (.array .int) true := ⟨"StuckLines$Circuit", sk_T1, rfl, by decide, sw_62, rfl, by decide +kernel, rfl, rfl⟩
theorem fp_S_9 : sk_fp "StuckLines$Signals" 9 2 7 1 2 (.array .long) true := ⟨"StuckLines$Signals", sk_T2, rfl, by decide, sw_103, rfl, by decide +kernel, rfl, rfl⟩
theorem fp_S_15 : sk_fp "StuckLines$Signals" 15 2 7 2 2 (.array .long) true := ⟨"StuckLines$Signals", sk_T2, rfl, by decide, sw_104, rfl, by decide +kernel, rfl, rfl⟩
theorem fp_S_18 : sk_fp "StuckLines$Signals" 18 2 7 3 2 (.array .long) true := ⟨"StuckLines$Signals", sk_T2, rfl, by decide, sw_105, rfl, by decide +kernel, rfl, rfl⟩
theorem fp_S_21 : sk_fp "StuckLines$Signals" 21 2 7 4 2 (.array .long) true := ⟨"StuckLines$Signals", sk_T2, rfl, by decide, sw_106, rfl, by decide +kernel, rfl, rfl⟩
theorem fp_S_24 : sk_fp "StuckLines$Signals" 24 2 7 5 0 .int false := ⟨"StuckLines$Signals", sk_T2, rfl, by decide, sw_107, rfl, by decide +kernel, rfl, rfl⟩
theorem fp_S_28 : sk_fp "StuckLines$Signals" 28 2 7 6 1 .long false := ⟨"StuckLines$Signals", sk_T2, rfl, by decide, sw_108, rfl, by decide +kernel, rfl, rfl⟩
theorem fp_S_32 : sk_fp "StuckLines$Signals" 32 2 7 0 2 (.object "StuckLines$Circuit") true := ⟨"StuckLines$Signals", sk_T2, rfl, by decide, sw_102, rfl, by decide +kernel, rfl, rfl⟩
theorem fp_R_9 : sk_fp "StuckLines$Responses" 9 3 5 2 2 (.array .long) true := ⟨"StuckLines$Responses", sk_T3, rfl, by decide, sw_135, rfl, by decide +kernel, rfl, rfl⟩
theorem fp_R_15 : sk_fp "StuckLines$Responses" 15 3 5 3 2 (.array .long) true := ⟨"StuckLines$Responses", sk_T3, rfl, by decide, sw_136, rfl, by decide +kernel, rfl, rfl⟩
theorem fp_R_18 : sk_fp "StuckLines$Responses" 18 3 5 4 2 (.array .int) true := ⟨"StuckLines$Responses", sk_T3, rfl, by decide, sw_137, rfl, by decide +kernel, rfl, rfl⟩
theorem fp_R_22 : sk_fp "StuckLines$Responses" 22 3 5 0 2 (.object "StuckLines$Circuit") true := ⟨"StuckLines$Responses", sk_T3, rfl, by decide, sw_133, rfl, by decide +kernel, rfl, rfl⟩
theorem nw_R_26 : sk_nwc "StuckLines$Responses" 26 2 7 := ⟨"StuckLines$Signals", sk_T2, rfl, sw_131, sw_97, sw_3⟩
theorem fp_R_31 : sk_fp "StuckLines$Responses" 31 3 5 1 2 (.object "StuckLines$Signals") true := ⟨"StuckLines$Responses", sk_T3, rfl, by decide, sw_134, rfl, by decide +kernel, rfl, rfl⟩
theorem fp_U_9 : sk_fp "StuckLines$Cubes" 9 4 3 0 2 (.object "StuckLines$Circuit") true := ⟨"StuckLines$Cubes", sk_T4, rfl, by decide, sw_157, rfl, by decide +kernel, rfl, rfl⟩
theorem nw_U_15 : sk_nwc "StuckLines$Cubes" 15 2 7 := ⟨"StuckLines$Signals", sk_T2, rfl, sw_155, sw_97, sw_3⟩
theorem fp_U_20 : sk_fp "StuckLines$Cubes" 20 4 3 1 2 (.object "StuckLines$Signals") true := ⟨"StuckLines$Cubes", sk_T4, rfl, by decide, sw_158, rfl, by decide +kernel, rfl, rfl⟩
theorem fp_U_24 : sk_fp "StuckLines$Cubes" 24 4 3 2 2 (.object "StuckLines$Signals") true := ⟨"StuckLines$Cubes", sk_T4, rfl, by decide, sw_159, rfl, by decide +kernel, rfl, rfl⟩
theorem fp_P_9 : sk_fp "StuckLines$PackedSet" 9 5 6 2 2 (.array .int) true := ⟨"StuckLines$PackedSet", sk_T5, rfl, by decide, sw_175, rfl, by decide +kernel, rfl, rfl⟩
theorem fp_P_15 : sk_fp "StuckLines$PackedSet" 15 5 6 3 0 .int false := ⟨"StuckLines$PackedSet", sk_T5, rfl, by decide, sw_176, rfl, by decide +kernel, rfl, rfl⟩
theorem fp_P_19 : sk_fp "StuckLines$PackedSet" 19 5 6 4 1 .long false := ⟨"StuckLines$PackedSet", sk_T5, rfl, by decide, sw_177, rfl, by decide +kernel, rfl, rfl⟩
theorem fp_P_23 : sk_fp "StuckLines$PackedSet" 23 5 6 5 0 .int false := ⟨"StuckLines$PackedSet", sk_T5, rfl, by decide, sw_178, rfl, by decide +kernel, rfl, rfl⟩
theorem fp_P_26 : sk_fp "StuckLines$PackedSet" 26 5 6 0 2 (.object "StuckLines$Circuit") true := ⟨"StuckLines$PackedSet", sk_T5, rfl, by decide, sw_173, rfl, by decide +kernel, rfl, rfl⟩
theorem fp_P_30 : sk_fp "StuckLines$PackedSet" 30 5 6 1 2 (.object "StuckLines$Responses") true := ⟨"StuckLines$PackedSet", sk_T5, rfl, by decide, sw_174, rfl, by decide +kernel, rfl, rfl⟩
theorem fp_G_9 : sk_fp "StuckLines$SeenLog" 9 6 4 1 2 (.array .int) true := ⟨"StuckLines$SeenLog", sk_T6, rfl, by decide, sw_199, rfl, by decide +kernel, rfl, rfl⟩
theorem fp_G_15 : sk_fp "StuckLines$SeenLog" 15 6 4 2 2 (.array .int) true := ⟨"StuckLines$SeenLog", sk_T6, rfl, by decide, sw_200, rfl, by decide +kernel, rfl, rfl⟩
theorem fp_G_18 : sk_fp "StuckLines$SeenLog" 18 6 4 3 0 .int false := ⟨"StuckLines$SeenLog", sk_T6, rfl, by decide, sw_201, rfl, by decide +kernel, rfl, rfl⟩
theorem fp_G_22 : sk_fp "StuckLines$SeenLog" 22 6 4 0 2 (.object "StuckLines$Responses") true := ⟨"StuckLines$SeenLog", sk_T6, rfl, by decide, sw_198, rfl, by decide +kernel, rfl, rfl⟩
theorem fg_X_53 : sk_fg "StuckLines" 53 0 6 5 2 := ⟨"StuckLines", sk_T0, rfl, by decide, Or.inl sw_217, rfl⟩
theorem fg_C_9 : sk_fg "StuckLines$Circuit" 9 1 15 0 0 := ⟨"StuckLines$Circuit", sk_T1, rfl, by decide, Or.inl sw_29, rfl⟩
theorem fg_X_65 : sk_fg "StuckLines" 65 1 15 1 0 := ⟨"StuckLines$Circuit", sk_T1, rfl, by decide, Or.inl sw_33, rfl⟩
theorem fg_X_165 : sk_fg "StuckLines" 165 1 15 9 2 := ⟨"StuckLines$Circuit", sk_T1, rfl, by decide, Or.inl sw_53, rfl⟩
theorem fg_C_15 : sk_fg "StuckLines$Circuit" 15 1 15 1 0 := ⟨"StuckLines$Circuit", sk_T1, rfl, by decide, Or.inl sw_32, rfl⟩
theorem fg_C_41 : sk_fg "StuckLines$Circuit" 41 1 15 9 2 := ⟨"StuckLines$Circuit", sk_T1, rfl, by decide, Or.inl sw_51, rfl⟩
theorem fg_X_44 : sk_fg "StuckLines" 44 0 6 4 2 := ⟨"StuckLines", sk_T0, rfl, by decide, Or.inl sw_216, rfl⟩
theorem fg_R_22 : sk_fg "StuckLines$Responses" 22 3 5 0 2 := ⟨"StuckLines$Responses", sk_T3, rfl, by decide, Or.inl sw_133, rfl⟩
theorem fg_C_27 : sk_fg "StuckLines$Circuit" 27 1 15 5 0 := ⟨"StuckLines$Circuit", sk_T1, rfl, by decide, Or.inl sw_44, rfl⟩
theorem fg_R_18 : sk_fg "StuckLines$Responses" 18 3 5 4 2 := ⟨"StuckLines$Responses", sk_T3, rfl, by decide, Or.inl sw_137, rfl⟩
theorem fg_R_45 : sk_fg "StuckLines$Responses" 45 1 15 0 0 := ⟨"StuckLines$Circuit", sk_T1, rfl, by decide, Or.inl sw_31, rfl⟩
theorem fg_R_31 : sk_fg "StuckLines$Responses" 31 3 5 1 2 := ⟨"StuckLines$Responses", sk_T3, rfl, by decide, Or.inl sw_134, rfl⟩
theorem fg_R_57 : sk_fg "StuckLines$Responses" 57 1 15 4 0 := ⟨"StuckLines$Circuit", sk_T1, rfl, by decide, Or.inl sw_41, rfl⟩
theorem fg_R_60 : sk_fg "StuckLines$Responses" 60 1 15 12 2 := ⟨"StuckLines$Circuit", sk_T1, rfl, by decide, Or.inl sw_59, rfl⟩
theorem fg_R_9 : sk_fg "StuckLines$Responses" 9 3 5 2 2 := ⟨"StuckLines$Responses", sk_T3, rfl, by decide, Or.inl sw_135, rfl⟩
theorem fg_R_15 : sk_fg "StuckLines$Responses" 15 3 5 3 2 := ⟨"StuckLines$Responses", sk_T3, rfl, by decide, Or.inl sw_136, rfl⟩
theorem fg_C_18 : sk_fg "StuckLines$Circuit" 18 1 15 2 0 := ⟨"StuckLines$Circuit", sk_T1, rfl, by decide, Or.inl sw_35, rfl⟩
theorem fg_S_9 : sk_fg "StuckLines$Signals" 9 2 7 1 2 := ⟨"StuckLines$Signals", sk_T2, rfl, by decide, Or.inl sw_103, rfl⟩
theorem fg_S_15 : sk_fg "StuckLines$Signals" 15 2 7 2 2 := ⟨"StuckLines$Signals", sk_T2, rfl, by decide, Or.inl sw_104, rfl⟩
theorem fg_S_32 : sk_fg "StuckLines$Signals" 32 2 7 0 2 := ⟨"StuckLines$Signals", sk_T2, rfl, by decide, Or.inl sw_102, rfl⟩
theorem fg_S_53 : sk_fg "StuckLines$Signals" 53 1 15 1 0 := ⟨"StuckLines$Circuit", sk_T1, rfl, by decide, Or.inl sw_34, rfl⟩
theorem fg_S_18 : sk_fg "StuckLines$Signals" 18 2 7 3 2 := ⟨"StuckLines$Signals", sk_T2, rfl, by decide, Or.inl sw_105, rfl⟩
theorem fg_S_28 : sk_fg "StuckLines$Signals" 28 2 7 6 1 := ⟨"StuckLines$Signals", sk_T2, rfl, by decide, Or.inl sw_108, rfl⟩
theorem fg_S_21 : sk_fg "StuckLines$Signals" 21 2 7 4 2 := ⟨"StuckLines$Signals", sk_T2, rfl, by decide, Or.inl sw_106, rfl⟩
theorem fg_S_56 : sk_fg "StuckLines$Signals" 56 1 15 6 2 := ⟨"StuckLines$Circuit", sk_T1, rfl, by decide, Or.inl sw_46, rfl⟩
theorem fg_S_60 : sk_fg "StuckLines$Signals" 60 1 15 7 2 := ⟨"StuckLines$Circuit", sk_T1, rfl, by decide, Or.inl sw_48, rfl⟩
theorem fg_S_66 : sk_fg "StuckLines$Signals" 66 1 15 9 2 := ⟨"StuckLines$Circuit", sk_T1, rfl, by decide, Or.inl sw_52, rfl⟩
theorem fg_S_69 : sk_fg "StuckLines$Signals" 69 1 15 10 2 := ⟨"StuckLines$Circuit", sk_T1, rfl, by decide, Or.inl sw_55, rfl⟩
theorem fg_S_24 : sk_fg "StuckLines$Signals" 24 2 7 5 0 := ⟨"StuckLines$Signals", sk_T2, rfl, by decide, Or.inl sw_107, rfl⟩
theorem fg_P_23 : sk_fg "StuckLines$PackedSet" 23 5 6 5 0 := ⟨"StuckLines$PackedSet", sk_T5, rfl, by decide, Or.inl sw_178, rfl⟩
theorem fg_P_26 : sk_fg "StuckLines$PackedSet" 26 5 6 0 2 := ⟨"StuckLines$PackedSet", sk_T5, rfl, by decide, Or.inl sw_173, rfl⟩
theorem fg_P_34 : sk_fg "StuckLines$PackedSet" 34 1 15 0 0 := ⟨"StuckLines$Circuit", sk_T1, rfl, by decide, Or.inl sw_30, rfl⟩
theorem fg_P_15 : sk_fg "StuckLines$PackedSet" 15 5 6 3 0 := ⟨"StuckLines$PackedSet", sk_T5, rfl, by decide, Or.inl sw_176, rfl⟩
theorem fg_P_9 : sk_fg "StuckLines$PackedSet" 9 5 6 2 2 := ⟨"StuckLines$PackedSet", sk_T5, rfl, by decide, Or.inl sw_175, rfl⟩
theorem fg_P_30 : sk_fg "StuckLines$PackedSet" 30 5 6 1 2 := ⟨"StuckLines$PackedSet", sk_T5, rfl, by decide, Or.inl sw_174, rfl⟩
theorem fg_P_19 : sk_fg "StuckLines$PackedSet" 19 5 6 4 1 := ⟨"StuckLines$PackedSet", sk_T5, rfl, by decide, Or.inl sw_177, rfl⟩
theorem fg_X_212 : sk_fg "StuckLines" 212 6 4 3 0 := ⟨"StuckLines$SeenLog", sk_T6, rfl, by decide, Or.inl sw_202, rfl⟩
theorem fg_G_18 : sk_fg "StuckLines$SeenLog" 18 6 4 3 0 := ⟨"StuckLines$SeenLog", sk_T6, rfl, by decide, Or.inl sw_201, rfl⟩
theorem fg_G_22 : sk_fg "StuckLines$SeenLog" 22 6 4 0 2 := ⟨"StuckLines$SeenLog", sk_T6, rfl, by decide, Or.inl sw_198, rfl⟩
theorem fg_G_9 : sk_fg "StuckLines$SeenLog" 9 6 4 1 2 := ⟨"StuckLines$SeenLog", sk_T6, rfl, by decide, Or.inl sw_199, rfl⟩
theorem fg_G_15 : sk_fg "StuckLines$SeenLog" 15 6 4 2 2 := ⟨"StuckLines$SeenLog", sk_T6, rfl, by decide, Or.inl sw_200, rfl⟩
theorem fg_X_61 : sk_fg "StuckLines" 61 1 15 2 0 := ⟨"StuckLines$Circuit", sk_T1, rfl, by decide, Or.inl sw_37, rfl⟩
theorem fg_C_37 : sk_fg "StuckLines$Circuit" 37 1 15 8 2 := ⟨"StuckLines$Circuit", sk_T1, rfl, by decide, Or.inl sw_49, rfl⟩
theorem fg_C_34 : sk_fg "StuckLines$Circuit" 34 1 15 7 2 := ⟨"StuckLines$Circuit", sk_T1, rfl, by decide, Or.inl sw_47, rfl⟩
theorem fg_C_30 : sk_fg "StuckLines$Circuit" 30 1 15 6 2 := ⟨"StuckLines$Circuit", sk_T1, rfl, by decide, Or.inl sw_45, rfl⟩
theorem fg_C_53 : sk_fg "StuckLines$Circuit" 53 1 15 13 2 := ⟨"StuckLines$Circuit", sk_T1, rfl, by decide, Or.inl sw_61, rfl⟩
theorem fg_C_44 : sk_fg "StuckLines$Circuit" 44 1 15 10 2 := ⟨"StuckLines$Circuit", sk_T1, rfl, by decide, Or.inl sw_54, rfl⟩
theorem fg_C_47 : sk_fg "StuckLines$Circuit" 47 1 15 11 2 := ⟨"StuckLines$Circuit", sk_T1, rfl, by decide, Or.inl sw_56, rfl⟩
theorem fg_X_103 : sk_fg "StuckLines" 103 1 15 3 0 := ⟨"StuckLines$Circuit", sk_T1, rfl, by decide, Or.inl sw_39, rfl⟩
theorem fg_C_21 : sk_fg "StuckLines$Circuit" 21 1 15 3 0 := ⟨"StuckLines$Circuit", sk_T1, rfl, by decide, Or.inl sw_38, rfl⟩
theorem fg_C_56 : sk_fg "StuckLines$Circuit" 56 1 15 14 2 := ⟨"StuckLines$Circuit", sk_T1, rfl, by decide, Or.inl sw_62, rfl⟩
theorem fg_C_50 : sk_fg "StuckLines$Circuit" 50 1 15 12 2 := ⟨"StuckLines$Circuit", sk_T1, rfl, by decide, Or.inl sw_58, rfl⟩
theorem fg_C_24 : sk_fg "StuckLines$Circuit" 24 1 15 4 0 := ⟨"StuckLines$Circuit", sk_T1, rfl, by decide, Or.inl sw_40, rfl⟩
theorem fg_X_112 : sk_fg "StuckLines" 112 1 15 8 2 := ⟨"StuckLines$Circuit", sk_T1, rfl, by decide, Or.inl sw_50, rfl⟩
theorem fg_X_122 : sk_fg "StuckLines" 122 1 15 4 0 := ⟨"StuckLines$Circuit", sk_T1, rfl, by decide, Or.inl sw_42, rfl⟩
theorem fg_X_21 : sk_fg "StuckLines" 21 0 6 1 2 := ⟨"StuckLines", sk_T0, rfl, by decide, Or.inl sw_213, rfl⟩
theorem fg_X_178 : sk_fg "StuckLines" 178 1 15 11 2 := ⟨"StuckLines$Circuit", sk_T1, rfl, by decide, Or.inl sw_57, rfl⟩
theorem fg_X_35 : sk_fg "StuckLines" 35 0 6 3 2 := ⟨"StuckLines", sk_T0, rfl, by decide, Or.inl sw_215, rfl⟩
theorem fg_U_9 : sk_fg "StuckLines$Cubes" 9 4 3 0 2 := ⟨"StuckLines$Cubes", sk_T4, rfl, by decide, Or.inl sw_157, rfl⟩
theorem fg_U_27 : sk_fg "StuckLines$Cubes" 27 1 15 2 0 := ⟨"StuckLines$Circuit", sk_T1, rfl, by decide, Or.inl sw_36, rfl⟩
theorem fg_U_20 : sk_fg "StuckLines$Cubes" 20 4 3 1 2 := ⟨"StuckLines$Cubes", sk_T4, rfl, by decide, Or.inl sw_158, rfl⟩
theorem fg_U_24 : sk_fg "StuckLines$Cubes" 24 4 3 2 2 := ⟨"StuckLines$Cubes", sk_T4, rfl, by decide, Or.inl sw_159, rfl⟩
theorem fg_S_72 : sk_fg "StuckLines$Signals" 72 1 15 4 0 := ⟨"StuckLines$Circuit", sk_T1, rfl, by decide, Or.inl sw_43, rfl⟩
theorem fg_S_75 : sk_fg "StuckLines$Signals" 75 1 15 12 2 := ⟨"StuckLines$Circuit", sk_T1, rfl, by decide, Or.inl sw_60, rfl⟩
theorem fp_M_7 : sk_fp "StuckLinesModel" 7 7 29 2 2 (.array .int) true := ⟨"StuckLinesModel", sk_T7, rfl, by decide, sw_686, rfl, by decide +kernel, rfl, rfl⟩
theorem fp_M_13 : sk_fp "StuckLinesModel" 13 7 29 3 2 (.array .int) true := ⟨"StuckLinesModel", sk_T7, rfl, by decide, sw_687, rfl, by decide +kernel, rfl, rfl⟩
theorem fp_M_16 : sk_fp "StuckLinesModel" 16 7 29 4 2 (.array .int) true := ⟨"StuckLinesModel", sk_T7, rfl, by decide, sw_688, rfl, by decide +kernel, rfl, rfl⟩
theorem fp_M_19 : sk_fp "StuckLinesModel" 19 7 29 5 2 (.array .int) true := ⟨"StuckLinesModel", sk_T7, rfl, by decide, sw_689, rfl, by decide +kernel, rfl, rfl⟩
theorem fp_M_22 : sk_fp "StuckLinesModel" 22 7 29 7 2 (.array .int) true := ⟨"StuckLinesModel", sk_T7, rfl, by decide, sw_691, rfl, by decide +kernel, rfl, rfl⟩
theorem fp_M_25 : sk_fp "StuckLinesModel" 25 7 29 8 2 (.array .boolean) true := ⟨"StuckLinesModel", sk_T7, rfl, by decide, sw_692, rfl, by decide +kernel, rfl, rfl⟩
theorem fp_M_29 : sk_fp "StuckLinesModel" 29 7 29 9 2 (.array .int) true := ⟨"StuckLinesModel", sk_T7, rfl, by decide, sw_693, rfl, by decide +kernel, rfl, rfl⟩
theorem fp_M_32 : sk_fp "StuckLinesModel" 32 7 29 11 2 (.array .int) true := ⟨"StuckLinesModel", sk_T7, rfl, by decide, sw_695, rfl, by decide +kernel, rfl, rfl⟩
theorem fp_M_35 : sk_fp "StuckLinesModel" 35 7 29 13 2 (.array .int) true := ⟨"StuckLinesModel", sk_T7, rfl, by decide, sw_697, rfl, by decide +kernel, rfl, rfl⟩
theorem fp_M_38 : sk_fp "StuckLinesModel" 38 7 29 15 2 (.array .int) true := ⟨"StuckLinesModel", sk_T7, rfl, by decide, sw_699, rfl, by decide +kernel, rfl, rfl⟩
theorem fp_M_41 : sk_fp "StuckLinesModel" 41 7 29 16 2 (.array .int) true := ⟨"StuckLinesModel", sk_T7, rfl, by decide, sw_700, rfl, by decide +kernel, rfl, rfl⟩
theorem fp_M_44 : sk_fp "StuckLinesModel" 44 7 29 17 2 (.array .int) true := ⟨"StuckLinesModel", sk_T7, rfl, by decide, sw_701, rfl, by decide +kernel, rfl, rfl⟩
theorem fp_M_47 : sk_fp "StuckLinesModel" 47 7 29 18 2 (.array .int) true := ⟨"StuckLinesModel", sk_T7, rfl, by decide, sw_702, rfl, by decide +kernel, rfl, rfl⟩
theorem fp_M_50 : sk_fp "StuckLinesModel" 50 7 29 20 2 (.array .int) true := ⟨"StuckLinesModel", sk_T7, rfl, by decide, sw_704, rfl, by decide +kernel, rfl, rfl⟩
theorem fp_M_53 : sk_fp "StuckLinesModel" 53 7 29 21 2 (.array .int) true := ⟨"StuckLinesModel", sk_T7, rfl, by decide, sw_705, rfl, by decide +kernel, rfl, rfl⟩
theorem fp_M_56 : sk_fp "StuckLinesModel" 56 7 29 24 2 (.array .int) true := ⟨"StuckLinesModel", sk_T7, rfl, by decide, sw_708, rfl, by decide +kernel, rfl, rfl⟩
theorem fp_M_59 : sk_fp "StuckLinesModel" 59 7 29 25 2 (.array .boolean) true := ⟨"StuckLinesModel", sk_T7, rfl, by decide, sw_709, rfl, by decide +kernel, rfl, rfl⟩
theorem fp_M_62 : sk_fp "StuckLinesModel" 62 7 29 27 2 (.array .int) true := ⟨"StuckLinesModel", sk_T7, rfl, by decide, sw_711, rfl, by decide +kernel, rfl, rfl⟩
theorem fp_M_65 : sk_fp "StuckLinesModel" 65 7 29 28 2 (.array .int) true := ⟨"StuckLinesModel", sk_T7, rfl, by decide, sw_712, rfl, by decide +kernel, rfl, rfl⟩
theorem fg_M_68 : sk_fg "StuckLinesModel" 68 7 29 0 0 := ⟨"StuckLinesModel", sk_T7, rfl, by decide, Or.inl sw_684, rfl⟩
theorem fp_M_68 : sk_fp "StuckLinesModel" 68 7 29 0 0 .int false := ⟨"StuckLinesModel", sk_T7, rfl, by decide, sw_684, rfl, by decide +kernel, rfl, rfl⟩
theorem fp_M_72 : sk_fp "StuckLinesModel" 72 7 29 1 0 .int false := ⟨"StuckLinesModel", sk_T7, rfl, by decide, sw_685, rfl, by decide +kernel, rfl, rfl⟩
theorem fp_M_75 : sk_fp "StuckLinesModel" 75 7 29 6 0 .int false := ⟨"StuckLinesModel", sk_T7, rfl, by decide, sw_690, rfl, by decide +kernel, rfl, rfl⟩
theorem fp_M_94 : sk_fp "StuckLinesModel" 94 7 29 10 0 .int false := ⟨"StuckLinesModel", sk_T7, rfl, by decide, sw_694, rfl, by decide +kernel, rfl, rfl⟩
theorem fp_M_81 : sk_fp "StuckLinesModel" 81 7 29 19 0 .boolean false := ⟨"StuckLinesModel", sk_T7, rfl, by decide, sw_703, rfl, by decide +kernel, rfl, rfl⟩
theorem fp_M_85 : sk_fp "StuckLinesModel" 85 7 29 22 0 .boolean false := ⟨"StuckLinesModel", sk_T7, rfl, by decide, sw_706, rfl, by decide +kernel, rfl, rfl⟩
theorem fp_M_88 : sk_fp "StuckLinesModel" 88 7 29 26 0 .int false := ⟨"StuckLinesModel", sk_T7, rfl, by decide, sw_710, rfl, by decide +kernel, rfl, rfl⟩
theorem fp_M_91 : sk_fp "StuckLinesModel" 91 7 29 12 0 .int false := ⟨"StuckLinesModel", sk_T7, rfl, by decide, sw_696, rfl, by decide +kernel, rfl, rfl⟩
theorem fg_M_94 : sk_fg "StuckLinesModel" 94 7 29 10 0 := ⟨"StuckLinesModel", sk_T7, rfl, by decide, Or.inl sw_694, rfl⟩
theorem fg_M_35 : sk_fg "StuckLinesModel" 35 7 29 13 2 := ⟨"StuckLinesModel", sk_T7, rfl, by decide, Or.inl sw_697, rfl⟩
theorem fg_M_91 : sk_fg "StuckLinesModel" 91 7 29 12 0 := ⟨"StuckLinesModel", sk_T7, rfl, by decide, Or.inl sw_696, rfl⟩
theorem fg_M_32 : sk_fg "StuckLinesModel" 32 7 29 11 2 := ⟨"StuckLinesModel", sk_T7, rfl, by decide, Or.inl sw_695, rfl⟩
theorem fg_M_75 : sk_fg "StuckLinesModel" 75 7 29 6 0 := ⟨"StuckLinesModel", sk_T7, rfl, by decide, Or.inl sw_690, rfl⟩
theorem fg_M_25 : sk_fg "StuckLinesModel" 25 7 29 8 2 := ⟨"StuckLinesModel", sk_T7, rfl, by decide, Or.inl sw_692, rfl⟩
theorem fg_M_29 : sk_fg "StuckLinesModel" 29 7 29 9 2 := ⟨"StuckLinesModel", sk_T7, rfl, by decide, Or.inl sw_693, rfl⟩
theorem fp_M_78 : sk_fp "StuckLinesModel" 78 7 29 14 0 .int false := ⟨"StuckLinesModel", sk_T7, rfl, by decide, sw_698, rfl, by decide +kernel, rfl, rfl⟩
theorem fg_M_72 : sk_fg "StuckLinesModel" 72 7 29 1 0 := ⟨"StuckLinesModel", sk_T7, rfl, by decide, Or.inl sw_685, rfl⟩
theorem fg_M_38 : sk_fg "StuckLinesModel" 38 7 29 15 2 := ⟨"StuckLinesModel", sk_T7, rfl, by decide, Or.inl sw_699, rfl⟩
theorem fg_M_78 : sk_fg "StuckLinesModel" 78 7 29 14 0 := ⟨"StuckLinesModel", sk_T7, rfl, by decide, Or.inl sw_698, rfl⟩
theorem fg_M_41 : sk_fg "StuckLinesModel" 41 7 29 16 2 := ⟨"StuckLinesModel", sk_T7, rfl, by decide, Or.inl sw_700, rfl⟩
theorem fg_M_19 : sk_fg "StuckLinesModel" 19 7 29 5 2 := ⟨"StuckLinesModel", sk_T7, rfl, by decide, Or.inl sw_689, rfl⟩
theorem fg_M_7 : sk_fg "StuckLinesModel" 7 7 29 2 2 := ⟨"StuckLinesModel", sk_T7, rfl, by decide, Or.inl sw_686, rfl⟩
theorem fg_M_22 : sk_fg "StuckLinesModel" 22 7 29 7 2 := ⟨"StuckLinesModel", sk_T7, rfl, by decide, Or.inl sw_691, rfl⟩
theorem fg_M_13 : sk_fg "StuckLinesModel" 13 7 29 3 2 := ⟨"StuckLinesModel", sk_T7, rfl, by decide, Or.inl sw_687, rfl⟩
theorem fg_M_16 : sk_fg "StuckLinesModel" 16 7 29 4 2 := ⟨"StuckLinesModel", sk_T7, rfl, by decide, Or.inl sw_688, rfl⟩
theorem fg_M_81 : sk_fg "StuckLinesModel" 81 7 29 19 0 := ⟨"StuckLinesModel", sk_T7, rfl, by decide, Or.inl sw_703, rfl⟩
theorem fg_M_53 : sk_fg "StuckLinesModel" 53 7 29 21 2 := ⟨"StuckLinesModel", sk_T7, rfl, by decide, Or.inl sw_705, rfl⟩
theorem fg_M_50 : sk_fg "StuckLinesModel" 50 7 29 20 2 := ⟨"StuckLinesModel", sk_T7, rfl, by decide, Or.inl sw_704, rfl⟩
theorem fg_M_44 : sk_fg "StuckLinesModel" 44 7 29 17 2 := ⟨"StuckLinesModel", sk_T7, rfl, by decide, Or.inl sw_701, rfl⟩
theorem fg_M_47 : sk_fg "StuckLinesModel" 47 7 29 18 2 := ⟨"StuckLinesModel", sk_T7, rfl, by decide, Or.inl sw_702, rfl⟩
theorem fg_M_136 : sk_fg "StuckLinesModel" 136 7 29 23 0 := ⟨"StuckLinesModel", sk_T7, rfl, by decide, Or.inl sw_707, rfl⟩
theorem fg_M_59 : sk_fg "StuckLinesModel" 59 7 29 25 2 := ⟨"StuckLinesModel", sk_T7, rfl, by decide, Or.inl sw_709, rfl⟩
theorem fg_M_56 : sk_fg "StuckLinesModel" 56 7 29 24 2 := ⟨"StuckLinesModel", sk_T7, rfl, by decide, Or.inl sw_708, rfl⟩
theorem fg_M_85 : sk_fg "StuckLinesModel" 85 7 29 22 0 := ⟨"StuckLinesModel", sk_T7, rfl, by decide, Or.inl sw_706, rfl⟩
theorem fp_M_136 : sk_fp "StuckLinesModel" 136 7 29 23 0 .int false := ⟨"StuckLinesModel", sk_T7, rfl, by decide, sw_707, rfl, by decide +kernel, rfl, rfl⟩
theorem fg_M_88 : sk_fg "StuckLinesModel" 88 7 29 26 0 := ⟨"StuckLinesModel", sk_T7, rfl, by decide, Or.inl sw_710, rfl⟩
theorem fg_M_62 : sk_fg "StuckLinesModel" 62 7 29 27 2 := ⟨"StuckLinesModel", sk_T7, rfl, by decide, Or.inl sw_711, rfl⟩
theorem fg_M_65 : sk_fg "StuckLinesModel" 65 7 29 28 2 := ⟨"StuckLinesModel", sk_T7, rfl, by decide, Or.inl sw_712, rfl⟩
theorem nw_L_8 : sk_nwc "StuckLinesLaw" 8 0 6 := ⟨"StuckLines", sk_T0, rfl, sw_15, sw_16, sw_1⟩
theorem nw_L_65 : sk_nwc "StuckLinesLaw" 65 7 29 := ⟨"StuckLinesModel", sk_T7, rfl, sw_678, sw_679, sw_8⟩
theorem th_68_70_72 : sk_th 68 70 72 0 "java/lang/IllegalStateException" := ⟨by decide +kernel, sw_363, sw_12, _, rfl, by decide +kernel⟩
theorem th_68_93_72 : sk_th 68 93 72 4 "java/lang/IllegalStateException" := ⟨by decide +kernel, sw_363, sw_12, _, rfl, by decide +kernel⟩
theorem th_68_106_72 : sk_th 68 106 72 5 "java/lang/IllegalStateException" := ⟨by decide +kernel, sw_363, sw_12, _, rfl, by decide +kernel⟩
theorem th_68_215_72 : sk_th 68 215 72 14 "java/lang/IllegalStateException" := ⟨by decide +kernel, sw_363, sw_12, _, rfl, by decide +kernel⟩
theorem th_79_81_83 : sk_th 79 81 83 1 "java/lang/IllegalArgumentException" := ⟨by decide +kernel, sw_448, sw_13, _, rfl, by decide +kernel⟩
theorem th_79_84_83 : sk_th 79 84 83 2 "java/lang/IllegalArgumentException" := ⟨by decide +kernel, sw_448, sw_13, _, rfl, by decide +kernel⟩
theorem th_79_116_83 : sk_th 79 116 83 6 "java/lang/IllegalArgumentException" := ⟨by decide +kernel, sw_448, sw_13, _, rfl, by decide +kernel⟩
theorem th_79_138_83 : sk_th 79 138 83 7 "java/lang/IllegalArgumentException" := ⟨by decide +kernel, sw_448, sw_13, _, rfl, by decide +kernel⟩
theorem th_79_181_83 : sk_th 79 181 83 10 "java/lang/IllegalArgumentException" := ⟨by decide +kernel, sw_448, sw_13, _, rfl, by decide +kernel⟩
theorem th_79_196_83 : sk_th 79 196 83 11 "java/lang/IllegalArgumentException" := ⟨by decide +kernel, sw_448, sw_13, _, rfl, by decide +kernel⟩
theorem th_79_198_83 : sk_th 79 198 83 12 "java/lang/IllegalArgumentException" := ⟨by decide +kernel, sw_448, sw_13, _, rfl, by decide +kernel⟩
theorem th_79_210_83 : sk_th 79 210 83 13 "java/lang/IllegalArgumentException" := ⟨by decide +kernel, sw_448, sw_13, _, rfl, by decide +kernel⟩
theorem th_223_225_227 : sk_th 223 225 227 3 "java/lang/IndexOutOfBoundsException" := ⟨by decide +kernel, sw_469, sw_14, _, rfl, by decide +kernel⟩
theorem th_223_231_227 : sk_th 223 231 227 8 "java/lang/IndexOutOfBoundsException" := ⟨by decide +kernel, sw_469, sw_14, _, rfl, by decide +kernel⟩
theorem th_223_233_227 : sk_th 223 233 227 9 "java/lang/IndexOutOfBoundsException" := ⟨by decide +kernel, sw_469, sw_14, _, rfl, by decide +kernel⟩
end
section
/-! decode rows -/
theorem d_X_init_0 : decode (sk_cc m_X_init) 0 = .ok (.aload_n 0, 1) := by decide +kernel
theorem d_X_init_1 : decode (sk_cc m_X_init) 1 = .ok (.invokespecial 3, 3) := by decide +kernel
theorem d_X_init_4 : decode (sk_cc m_X_init) 4 = .ok (.aload_n 0, 1) := by decide +kernel
theorem d_X_init_5 : decode (sk_cc m_X_init) 5 = .ok (.new 9, 3) := by decide +kernel
theorem d_X_init_8 : decode (sk_cc m_X_init) 8 = .ok (.dup, 1) := by decide +kernel
theorem d_X_init_9 : decode (sk_cc m_X_init) 9 = .ok (.invokespecial 11, 3) := by decide +kernel
theorem d_X_init_12 : decode (sk_cc m_X_init) 12 = .ok (.putfield 12, 3) := by decide +kernel
theorem d_X_init_15 : decode (sk_cc m_X_init) 15 = .ok (.aload_n 0, 1) := by decide +kernel
theorem d_X_init_16 : decode (sk_cc m_X_init) 16 = .ok (.new 16, 3) := by decide +kernel
theorem d_X_init_19 : decode (sk_cc m_X_init) 19 = .ok (.dup, 1) := by decide +kernel
theorem d_X_init_20 : decode (sk_cc m_X_init) 20 = .ok (.aload_n 0, 1) := by decide +kernel
theorem d_X_init_21 : decode (sk_cc m_X_init) 21 = .ok (.getfield 12, 3) := by decide +kernel
theorem d_X_init_24 : decode (sk_cc m_X_init) 24 = .ok (.invokespecial 18, 3) := by decide +kernel
theorem d_X_init_27 : decode (sk_cc m_X_init) 27 = .ok (.putfield 21, 3) := by decide +kernel
theorem d_X_init_30 : decode (sk_cc m_X_init) 30 = .ok (.aload_n 0, 1) := by decide +kernel
theorem d_X_init_31 : decode (sk_cc m_X_init) 31 = .ok (.new 25, 3) := by decide +kernel
theorem d_X_init_34 : decode (sk_cc m_X_init) 34 = .ok (.dup, 1) := by decide +kernel
theorem d_X_init_35 : decode (sk_cc m_X_init) 35 = .ok (.aload_n 0, 1) := by decide +kernel
theorem d_X_init_36 : decode (sk_cc m_X_init) 36 = .ok (.getfield 12, 3) := by decide +kernel
theorem d_X_init_39 : decode (sk_cc m_X_init) 39 = .ok (.invokespecial 27, 3) := by decide +kernel
theorem d_X_init_42 : decode (sk_cc m_X_init) 42 = .ok (.putfield 28, 3) := by decide +kernel
theorem d_X_init_45 : decode (sk_cc m_X_init) 45 = .ok (.aload_n 0, 1) := by decide +kernel
theorem d_X_init_46 : decode (sk_cc m_X_init) 46 = .ok (.new 32, 3) := by decide +kernel
theorem d_X_init_49 : decode (sk_cc m_X_init) 49 = .ok (.dup, 1) := by decide +kernel
theorem d_X_init_50 : decode (sk_cc m_X_init) 50 = .ok (.aload_n 0, 1) := by decide +kernel
theorem d_X_init_51 : decode (sk_cc m_X_init) 51 = .ok (.getfield 12, 3) := by decide +kernel
theorem d_X_init_54 : decode (sk_cc m_X_init) 54 = .ok (.invokespecial 34, 3) := by decide +kernel
theorem d_X_init_57 : decode (sk_cc m_X_init) 57 = .ok (.putfield 35, 3) := by decide +kernel
theorem d_X_init_60 : decode (sk_cc m_X_init) 60 = .ok (.aload_n 0, 1) := by decide +kernel
theorem d_X_init_61 : decode (sk_cc m_X_init) 61 = .ok (.new 39, 3) := by decide +kernel
theorem d_X_init_64 : decode (sk_cc m_X_init) 64 = .ok (.dup, 1) := by decide +kernel
theorem d_X_init_65 : decode (sk_cc m_X_init) 65 = .ok (.aload_n 0, 1) := by decide +kernel
theorem d_X_init_66 : decode (sk_cc m_X_init) 66 = .ok (.getfield 12, 3) := by decide +kernel
theorem d_X_init_69 : decode (sk_cc m_X_init) 69 = .ok (.aload_n 0, 1) := by decide +kernel
theorem d_X_init_70 : decode (sk_cc m_X_init) 70 = .ok (.getfield 28, 3) := by decide +kernel
theorem d_X_init_73 : decode (sk_cc m_X_init) 73 = .ok (.invokespecial 41, 3) := by decide +kernel
theorem d_X_init_76 : decode (sk_cc m_X_init) 76 = .ok (.putfield 44, 3) := by decide +kernel
theorem d_X_init_79 : decode (sk_cc m_X_init) 79 = .ok (.aload_n 0, 1) := by decide +kernel
theorem d_X_init_80 : decode (sk_cc m_X_init) 80 = .ok (.new 48, 3) := by decide +kernel
theorem d_X_init_83 : decode (sk_cc m_X_init) 83 = .ok (.dup, 1) := by decide +kernel
theorem d_X_init_84 : decode (sk_cc m_X_init) 84 = .ok (.aload_n 0, 1) := by decide +kernel
theorem d_X_init_85 : decode (sk_cc m_X_init) 85 = .ok (.getfield 28, 3) := by decide +kernel
theorem d_X_init_88 : decode (sk_cc m_X_init) 88 = .ok (.invokespecial 50, 3) := by decide +kernel
theorem d_X_init_91 : decode (sk_cc m_X_init) 91 = .ok (.putfield 53, 3) := by decide +kernel
theorem d_X_init_94 : decode (sk_cc m_X_init) 94 = .ok (.return_, 1) := by decide +kernel
theorem d_C_init_0 : decode (sk_cc m_C_init) 0 = .ok (.aload_n 0, 1) := by decide +kernel
theorem d_C_init_1 : decode (sk_cc m_C_init) 1 = .ok (.invokespecial 3, 3) := by decide +kernel
theorem d_C_init_4 : decode (sk_cc m_C_init) 4 = .ok (.aload_n 0, 1) := by decide +kernel
theorem d_C_init_5 : decode (sk_cc m_C_init) 5 = .ok (.iconst 1, 1) := by decide +kernel
theorem d_C_init_6 : decode (sk_cc m_C_init) 6 = .ok (.putfield 9, 3) := by decide +kernel
theorem d_C_init_9 : decode (sk_cc m_C_init) 9 = .ok (.aload_n 0, 1) := by decide +kernel
theorem d_C_init_10 : decode (sk_cc m_C_init) 10 = .ok (.iconst 0, 1) := by decide +kernel
theorem d_C_init_11 : decode (sk_cc m_C_init) 11 = .ok (.putfield 15, 3) := by decide +kernel
theorem d_C_init_14 : decode (sk_cc m_C_init) 14 = .ok (.aload_n 0, 1) := by decide +kernel
theorem d_C_init_15 : decode (sk_cc m_C_init) 15 = .ok (.iconst 0, 1) := by decide +kernel
theorem d_C_init_16 : decode (sk_cc m_C_init) 16 = .ok (.putfield 18, 3) := by decide +kernel
theorem d_C_init_19 : decode (sk_cc m_C_init) 19 = .ok (.aload_n 0, 1) := by decide +kernel
theorem d_C_init_20 : decode (sk_cc m_C_init) 20 = .ok (.iconst 0, 1) := by decide +kernel
theorem d_C_init_21 : decode (sk_cc m_C_init) 21 = .ok (.putfield 21, 3) := by decide +kernel
theorem d_C_init_24 : decode (sk_cc m_C_init) 24 = .ok (.aload_n 0, 1) := by decide +kernel
theorem d_C_init_25 : decode (sk_cc m_C_init) 25 = .ok (.iconst 0, 1) := by decide +kernel
theorem d_C_init_26 : decode (sk_cc m_C_init) 26 = .ok (.putfield 24, 3) := by decide +kernel
theorem d_C_init_29 : decode (sk_cc m_C_init) 29 = .ok (.aload_n 0, 1) := by decide +kernel
theorem d_C_init_30 : decode (sk_cc m_C_init) 30 = .ok (.iconst 0, 1) := by decide +kernel
theorem d_C_init_31 : decode (sk_cc m_C_init) 31 = .ok (.putfield 27, 3) := by decide +kernel
theorem d_C_init_34 : decode (sk_cc m_C_init) 34 = .ok (.aload_n 0, 1) := by decide +kernel
theorem d_C_init_35 : decode (sk_cc m_C_init) 35 = .ok (.bipush 26, 2) := by decide +kernel
theorem d_C_init_37 : decode (sk_cc m_C_init) 37 = .ok (.newarray .int, 2) := by decide +kernel
theorem d_C_init_39 : decode (sk_cc m_C_init) 39 = .ok (.putfield 30, 3) := by decide +kernel
theorem d_C_init_42 : decode (sk_cc m_C_init) 42 = .ok (.aload_n 0, 1) := by decide +kernel
theorem d_C_init_43 : decode (sk_cc m_C_init) 43 = .ok (.bipush 26, 2) := by decide +kernel
theorem d_C_init_45 : decode (sk_cc m_C_init) 45 = .ok (.newarray .int, 2) := by decide +kernel
theorem d_C_init_47 : decode (sk_cc m_C_init) 47 = .ok (.putfield 34, 3) := by decide +kernel
theorem d_C_init_50 : decode (sk_cc m_C_init) 50 = .ok (.aload_n 0, 1) := by decide +kernel
theorem d_C_init_51 : decode (sk_cc m_C_init) 51 = .ok (.bipush 26, 2) := by decide +kernel
theorem d_C_init_53 : decode (sk_cc m_C_init) 53 = .ok (.newarray .boolean, 2) := by decide +kernel
theorem d_C_init_55 : decode (sk_cc m_C_init) 55 = .ok (.putfield 37, 3) := by decide +kernel
theorem d_C_init_58 : decode (sk_cc m_C_init) 58 = .ok (.aload_n 0, 1) := by decide +kernel
theorem d_C_init_59 : decode (sk_cc m_C_init) 59 = .ok (.bipush 27, 2) := by decide +kernel
theorem d_C_init_61 : decode (sk_cc m_C_init) 61 = .ok (.newarray .int, 2) := by decide +kernel
theorem d_C_init_63 : decode (sk_cc m_C_init) 63 = .ok (.putfield 41, 3) := by decide +kernel
theorem d_C_init_66 : decode (sk_cc m_C_init) 66 = .ok (.aload_n 0, 1) := by decide +kernel
theorem d_C_init_67 : decode (sk_cc m_C_init) 67 = .ok (.bipush 78, 2) := by decide +kernel
theorem d_C_init_69 : decode (sk_cc m_C_init) 69 = .ok (.newarray .int, 2) := by decide +kernel
theorem d_C_init_71 : decode (sk_cc m_C_init) 71 = .ok (.putfield 44, 3) := by decide +kernel
theorem d_C_init_74 : decode (sk_cc m_C_init) 74 = .ok (.aload_n 0, 1) := by decide +kernel
theorem d_C_init_75 : decode (sk_cc m_C_init) 75 = .ok (.bipush 78, 2) := by decide +kernel
theorem d_C_init_77 : decode (sk_cc m_C_init) 77 = .ok (.newarray .int, 2) := by decide +kernel
theorem d_C_init_79 : decode (sk_cc m_C_init) 79 = .ok (.putfield 47, 3) := by decide +kernel
theorem d_C_init_82 : decode (sk_cc m_C_init) 82 = .ok (.aload_n 0, 1) := by decide +kernel
theorem d_C_init_83 : decode (sk_cc m_C_init) 83 = .ok (.bipush 12, 2) := by decide +kernel
theorem d_C_init_85 : decode (sk_cc m_C_init) 85 = .ok (.newarray .int, 2) := by decide +kernel
theorem d_C_init_87 : decode (sk_cc m_C_init) 87 = .ok (.putfield 50, 3) := by decide +kernel
theorem d_C_init_90 : decode (sk_cc m_C_init) 90 = .ok (.aload_n 0, 1) := by decide +kernel
theorem d_C_init_91 : decode (sk_cc m_C_init) 91 = .ok (.bipush 26, 2) := by decide +kernel
theorem d_C_init_93 : decode (sk_cc m_C_init) 93 = .ok (.newarray .int, 2) := by decide +kernel
theorem d_C_init_95 : decode (sk_cc m_C_init) 95 = .ok (.putfield 53, 3) := by decide +kernel
theorem d_C_init_98 : decode (sk_cc m_C_init) 98 = .ok (.aload_n 0, 1) := by decide +kernel
theorem d_C_init_99 : decode (sk_cc m_C_init) 99 = .ok (.bipush 6, 2) := by decide +kernel
theorem d_C_init_101 : decode (sk_cc m_C_init) 101 = .ok (.newarray .int, 2) := by decide +kernel
theorem d_C_init_103 : decode (sk_cc m_C_init) 103 = .ok (.putfield 56, 3) := by decide +kernel
theorem d_C_init_106 : decode (sk_cc m_C_init) 106 = .ok (.return_, 1) := by decide +kernel
theorem d_S_init_0 : decode (sk_cc m_S_init) 0 = .ok (.aload_n 0, 1) := by decide +kernel
theorem d_S_init_1 : decode (sk_cc m_S_init) 1 = .ok (.invokespecial 3, 3) := by decide +kernel
theorem d_S_init_4 : decode (sk_cc m_S_init) 4 = .ok (.aload_n 0, 1) := by decide +kernel
theorem d_S_init_5 : decode (sk_cc m_S_init) 5 = .ok (.bipush 6, 2) := by decide +kernel
theorem d_S_init_7 : decode (sk_cc m_S_init) 7 = .ok (.newarray .long, 2) := by decide +kernel
theorem d_S_init_9 : decode (sk_cc m_S_init) 9 = .ok (.putfield 9, 3) := by decide +kernel
theorem d_S_init_12 : decode (sk_cc m_S_init) 12 = .ok (.aload_n 0, 1) := by decide +kernel
theorem d_S_init_13 : decode (sk_cc m_S_init) 13 = .ok (.bipush 6, 2) := by decide +kernel
theorem d_S_init_15 : decode (sk_cc m_S_init) 15 = .ok (.newarray .long, 2) := by decide +kernel
theorem d_S_init_17 : decode (sk_cc m_S_init) 17 = .ok (.putfield 15, 3) := by decide +kernel
theorem d_S_init_20 : decode (sk_cc m_S_init) 20 = .ok (.aload_n 0, 1) := by decide +kernel
theorem d_S_init_21 : decode (sk_cc m_S_init) 21 = .ok (.bipush 26, 2) := by decide +kernel
theorem d_S_init_23 : decode (sk_cc m_S_init) 23 = .ok (.newarray .long, 2) := by decide +kernel
theorem d_S_init_25 : decode (sk_cc m_S_init) 25 = .ok (.putfield 18, 3) := by decide +kernel
theorem d_S_init_28 : decode (sk_cc m_S_init) 28 = .ok (.aload_n 0, 1) := by decide +kernel
theorem d_S_init_29 : decode (sk_cc m_S_init) 29 = .ok (.bipush 26, 2) := by decide +kernel
theorem d_S_init_31 : decode (sk_cc m_S_init) 31 = .ok (.newarray .long, 2) := by decide +kernel
theorem d_S_init_33 : decode (sk_cc m_S_init) 33 = .ok (.putfield 21, 3) := by decide +kernel
theorem d_S_init_36 : decode (sk_cc m_S_init) 36 = .ok (.aload_n 0, 1) := by decide +kernel
theorem d_S_init_37 : decode (sk_cc m_S_init) 37 = .ok (.iconst (-1), 1) := by decide +kernel
theorem d_S_init_38 : decode (sk_cc m_S_init) 38 = .ok (.putfield 24, 3) := by decide +kernel
theorem d_S_init_41 : decode (sk_cc m_S_init) 41 = .ok (.aload_n 0, 1) := by decide +kernel
theorem d_S_init_42 : decode (sk_cc m_S_init) 42 = .ok (.lconst 0, 1) := by decide +kernel
theorem d_S_init_43 : decode (sk_cc m_S_init) 43 = .ok (.putfield 28, 3) := by decide +kernel
theorem d_S_init_46 : decode (sk_cc m_S_init) 46 = .ok (.aload_n 0, 1) := by decide +kernel
theorem d_S_init_47 : decode (sk_cc m_S_init) 47 = .ok (.aload_n 1, 1) := by decide +kernel
theorem d_S_init_48 : decode (sk_cc m_S_init) 48 = .ok (.putfield 32, 3) := by decide +kernel
theorem d_S_init_51 : decode (sk_cc m_S_init) 51 = .ok (.return_, 1) := by decide +kernel
theorem d_R_init_0 : decode (sk_cc m_R_init) 0 = .ok (.aload_n 0, 1) := by decide +kernel
theorem d_R_init_1 : decode (sk_cc m_R_init) 1 = .ok (.invokespecial 3, 3) := by decide +kernel
theorem d_R_init_4 : decode (sk_cc m_R_init) 4 = .ok (.aload_n 0, 1) := by decide +kernel
theorem d_R_init_5 : decode (sk_cc m_R_init) 5 = .ok (.sipush 2508, 3) := by decide +kernel
theorem d_R_init_8 : decode (sk_cc m_R_init) 8 = .ok (.newarray .long, 2) := by decide +kernel
theorem d_R_init_10 : decode (sk_cc m_R_init) 10 = .ok (.putfield 9, 3) := by decide +kernel
theorem d_R_init_13 : decode (sk_cc m_R_init) 13 = .ok (.aload_n 0, 1) := by decide +kernel
theorem d_R_init_14 : decode (sk_cc m_R_init) 14 = .ok (.sipush 209, 3) := by decide +kernel
theorem d_R_init_17 : decode (sk_cc m_R_init) 17 = .ok (.newarray .long, 2) := by decide +kernel
theorem d_R_init_19 : decode (sk_cc m_R_init) 19 = .ok (.putfield 15, 3) := by decide +kernel
theorem d_R_init_22 : decode (sk_cc m_R_init) 22 = .ok (.aload_n 0, 1) := by decide +kernel
theorem d_R_init_23 : decode (sk_cc m_R_init) 23 = .ok (.sipush 209, 3) := by decide +kernel
theorem d_R_init_26 : decode (sk_cc m_R_init) 26 = .ok (.newarray .int, 2) := by decide +kernel
theorem d_R_init_28 : decode (sk_cc m_R_init) 28 = .ok (.putfield 18, 3) := by decide +kernel
theorem d_R_init_31 : decode (sk_cc m_R_init) 31 = .ok (.aload_n 0, 1) := by decide +kernel
theorem d_R_init_32 : decode (sk_cc m_R_init) 32 = .ok (.aload_n 1, 1) := by decide +kernel
theorem d_R_init_33 : decode (sk_cc m_R_init) 33 = .ok (.putfield 22, 3) := by decide +kernel
theorem d_R_init_36 : decode (sk_cc m_R_init) 36 = .ok (.aload_n 0, 1) := by decide +kernel
theorem d_R_init_37 : decode (sk_cc m_R_init) 37 = .ok (.new 26, 3) := by decide +kernel
theorem d_R_init_40 : decode (sk_cc m_R_init) 40 = .ok (.dup, 1) := by decide +kernel
theorem d_R_init_41 : decode (sk_cc m_R_init) 41 = .ok (.aload_n 1, 1) := by decide +kernel
theorem d_R_init_42 : decode (sk_cc m_R_init) 42 = .ok (.invokespecial 28, 3) := by decide +kernel
theorem d_R_init_45 : decode (sk_cc m_R_init) 45 = .ok (.putfield 31, 3) := by decide +kernel
theorem d_R_init_48 : decode (sk_cc m_R_init) 48 = .ok (.return_, 1) := by decide +kernel
theorem d_U_init_0 : decode (sk_cc m_U_init) 0 = .ok (.aload_n 0, 1) := by decide +kernel
theorem d_U_init_1 : decode (sk_cc m_U_init) 1 = .ok (.invokespecial 3, 3) := by decide +kernel
theorem d_U_init_4 : decode (sk_cc m_U_init) 4 = .ok (.aload_n 0, 1) := by decide +kernel
theorem d_U_init_5 : decode (sk_cc m_U_init) 5 = .ok (.aload_n 1, 1) := by decide +kernel
theorem d_U_init_6 : decode (sk_cc m_U_init) 6 = .ok (.putfield 9, 3) := by decide +kernel
theorem d_U_init_9 : decode (sk_cc m_U_init) 9 = .ok (.aload_n 0, 1) := by decide +kernel
theorem d_U_init_10 : decode (sk_cc m_U_init) 10 = .ok (.new 15, 3) := by decide +kernel
theorem d_U_init_13 : decode (sk_cc m_U_init) 13 = .ok (.dup, 1) := by decide +kernel
theorem d_U_init_14 : decode (sk_cc m_U_init) 14 = .ok (.aload_n 1, 1) := by decide +kernel
theorem d_U_init_15 : decode (sk_cc m_U_init) 15 = .ok (.invokespecial 17, 3) := by decide +kernel
theorem d_U_init_18 : decode (sk_cc m_U_init) 18 = .ok (.putfield 20, 3) := by decide +kernel
theorem d_U_init_21 : decode (sk_cc m_U_init) 21 = .ok (.aload_n 0, 1) := by decide +kernel
theorem d_U_init_22 : decode (sk_cc m_U_init) 22 = .ok (.new 15, 3) := by decide +kernel
theorem d_U_init_25 : decode (sk_cc m_U_init) 25 = .ok (.dup, 1) := by decide +kernel
theorem d_U_init_26 : decode (sk_cc m_U_init) 26 = .ok (.aload_n 1, 1) := by decide +kernel
theorem d_U_init_27 : decode (sk_cc m_U_init) 27 = .ok (.invokespecial 17, 3) := by decide +kernel
theorem d_U_init_30 : decode (sk_cc m_U_init) 30 = .ok (.putfield 24, 3) := by decide +kernel
theorem d_U_init_33 : decode (sk_cc m_U_init) 33 = .ok (.return_, 1) := by decide +kernel
theorem d_P_init_0 : decode (sk_cc m_P_init) 0 = .ok (.aload_n 0, 1) := by decide +kernel
theorem d_P_init_1 : decode (sk_cc m_P_init) 1 = .ok (.invokespecial 3, 3) := by decide +kernel
theorem d_P_init_4 : decode (sk_cc m_P_init) 4 = .ok (.aload_n 0, 1) := by decide +kernel
theorem d_P_init_5 : decode (sk_cc m_P_init) 5 = .ok (.bipush 64, 2) := by decide +kernel
theorem d_P_init_7 : decode (sk_cc m_P_init) 7 = .ok (.newarray .int, 2) := by decide +kernel
theorem d_P_init_9 : decode (sk_cc m_P_init) 9 = .ok (.putfield 9, 3) := by decide +kernel
theorem d_P_init_12 : decode (sk_cc m_P_init) 12 = .ok (.aload_n 0, 1) := by decide +kernel
theorem d_P_init_13 : decode (sk_cc m_P_init) 13 = .ok (.iconst 0, 1) := by decide +kernel
theorem d_P_init_14 : decode (sk_cc m_P_init) 14 = .ok (.putfield 15, 3) := by decide +kernel
theorem d_P_init_17 : decode (sk_cc m_P_init) 17 = .ok (.aload_n 0, 1) := by decide +kernel
theorem d_P_init_18 : decode (sk_cc m_P_init) 18 = .ok (.lconst 0, 1) := by decide +kernel
theorem d_P_init_19 : decode (sk_cc m_P_init) 19 = .ok (.putfield 19, 3) := by decide +kernel
theorem d_P_init_22 : decode (sk_cc m_P_init) 22 = .ok (.aload_n 0, 1) := by decide +kernel
theorem d_P_init_23 : decode (sk_cc m_P_init) 23 = .ok (.iconst 0, 1) := by decide +kernel
theorem d_P_init_24 : decode (sk_cc m_P_init) 24 = .ok (.putfield 23, 3) := by decide +kernel
theorem d_P_init_27 : decode (sk_cc m_P_init) 27 = .ok (.aload_n 0, 1) := by decide +kernel
theorem d_P_init_28 : decode (sk_cc m_P_init) 28 = .ok (.aload_n 1, 1) := by decide +kernel
theorem d_P_init_29 : decode (sk_cc m_P_init) 29 = .ok (.putfield 26, 3) := by decide +kernel
theorem d_P_init_32 : decode (sk_cc m_P_init) 32 = .ok (.aload_n 0, 1) := by decide +kernel
theorem d_P_init_33 : decode (sk_cc m_P_init) 33 = .ok (.aload_n 2, 1) := by decide +kernel
theorem d_P_init_34 : decode (sk_cc m_P_init) 34 = .ok (.putfield 30, 3) := by decide +kernel
theorem d_P_init_37 : decode (sk_cc m_P_init) 37 = .ok (.return_, 1) := by decide +kernel
theorem d_G_init_0 : decode (sk_cc m_G_init) 0 = .ok (.aload_n 0, 1) := by decide +kernel
theorem d_G_init_1 : decode (sk_cc m_G_init) 1 = .ok (.invokespecial 3, 3) := by decide +kernel
theorem d_G_init_4 : decode (sk_cc m_G_init) 4 = .ok (.aload_n 0, 1) := by decide +kernel
theorem d_G_init_5 : decode (sk_cc m_G_init) 5 = .ok (.bipush 16, 2) := by decide +kernel
theorem d_G_init_7 : decode (sk_cc m_G_init) 7 = .ok (.newarray .int, 2) := by decide +kernel
theorem d_G_init_9 : decode (sk_cc m_G_init) 9 = .ok (.putfield 9, 3) := by decide +kernel
theorem d_G_init_12 : decode (sk_cc m_G_init) 12 = .ok (.aload_n 0, 1) := by decide +kernel
theorem d_G_init_13 : decode (sk_cc m_G_init) 13 = .ok (.bipush 16, 2) := by decide +kernel
theorem d_G_init_15 : decode (sk_cc m_G_init) 15 = .ok (.newarray .int, 2) := by decide +kernel
theorem d_G_init_17 : decode (sk_cc m_G_init) 17 = .ok (.putfield 15, 3) := by decide +kernel
theorem d_G_init_20 : decode (sk_cc m_G_init) 20 = .ok (.aload_n 0, 1) := by decide +kernel
theorem d_G_init_21 : decode (sk_cc m_G_init) 21 = .ok (.iconst 0, 1) := by decide +kernel
theorem d_G_init_22 : decode (sk_cc m_G_init) 22 = .ok (.putfield 18, 3) := by decide +kernel
theorem d_G_init_25 : decode (sk_cc m_G_init) 25 = .ok (.aload_n 0, 1) := by decide +kernel
theorem d_G_init_26 : decode (sk_cc m_G_init) 26 = .ok (.aload_n 1, 1) := by decide +kernel
theorem d_G_init_27 : decode (sk_cc m_G_init) 27 = .ok (.putfield 22, 3) := by decide +kernel
theorem d_G_init_30 : decode (sk_cc m_G_init) 30 = .ok (.return_, 1) := by decide +kernel
theorem d_X_clear_0 : decode (sk_cc m_X_clear) 0 = .ok (.aload_n 0, 1) := by decide +kernel
theorem d_X_clear_1 : decode (sk_cc m_X_clear) 1 = .ok (.getfield 12, 3) := by decide +kernel
theorem d_X_clear_4 : decode (sk_cc m_X_clear) 4 = .ok (.invokevirtual 57, 3) := by decide +kernel
theorem d_X_clear_7 : decode (sk_cc m_X_clear) 7 = .ok (.aload_n 0, 1) := by decide +kernel
theorem d_X_clear_8 : decode (sk_cc m_X_clear) 8 = .ok (.getfield 53, 3) := by decide +kernel
theorem d_X_clear_11 : decode (sk_cc m_X_clear) 11 = .ok (.invokevirtual 60, 3) := by decide +kernel
theorem d_X_clear_14 : decode (sk_cc m_X_clear) 14 = .ok (.return_, 1) := by decide +kernel
theorem d_C_removeAll_0 : decode (sk_cc m_C_removeAll) 0 = .ok (.aload_n 0, 1) := by decide +kernel
theorem d_C_removeAll_1 : decode (sk_cc m_C_removeAll) 1 = .ok (.iconst 0, 1) := by decide +kernel
theorem d_C_removeAll_2 : decode (sk_cc m_C_removeAll) 2 = .ok (.putfield 15, 3) := by decide +kernel
theorem d_C_removeAll_5 : decode (sk_cc m_C_removeAll) 5 = .ok (.aload_n 0, 1) := by decide +kernel
theorem d_C_removeAll_6 : decode (sk_cc m_C_removeAll) 6 = .ok (.iconst 0, 1) := by decide +kernel
theorem d_C_removeAll_7 : decode (sk_cc m_C_removeAll) 7 = .ok (.putfield 18, 3) := by decide +kernel
theorem d_C_removeAll_10 : decode (sk_cc m_C_removeAll) 10 = .ok (.aload_n 0, 1) := by decide +kernel
theorem d_C_removeAll_11 : decode (sk_cc m_C_removeAll) 11 = .ok (.iconst 0, 1) := by decide +kernel
theorem d_C_removeAll_12 : decode (sk_cc m_C_removeAll) 12 = .ok (.putfield 21, 3) := by decide +kernel
theorem d_C_removeAll_15 : decode (sk_cc m_C_removeAll) 15 = .ok (.aload_n 0, 1) := by decide +kernel
theorem d_C_removeAll_16 : decode (sk_cc m_C_removeAll) 16 = .ok (.iconst 0, 1) := by decide +kernel
theorem d_C_removeAll_17 : decode (sk_cc m_C_removeAll) 17 = .ok (.putfield 24, 3) := by decide +kernel
theorem d_C_removeAll_20 : decode (sk_cc m_C_removeAll) 20 = .ok (.aload_n 0, 1) := by decide +kernel
theorem d_C_removeAll_21 : decode (sk_cc m_C_removeAll) 21 = .ok (.iconst 0, 1) := by decide +kernel
theorem d_C_removeAll_22 : decode (sk_cc m_C_removeAll) 22 = .ok (.putfield 27, 3) := by decide +kernel
theorem d_C_removeAll_25 : decode (sk_cc m_C_removeAll) 25 = .ok (.aload_n 0, 1) := by decide +kernel
theorem d_C_removeAll_26 : decode (sk_cc m_C_removeAll) 26 = .ok (.dup, 1) := by decide +kernel
theorem d_C_removeAll_27 : decode (sk_cc m_C_removeAll) 27 = .ok (.getfield 9, 3) := by decide +kernel
theorem d_C_removeAll_30 : decode (sk_cc m_C_removeAll) 30 = .ok (.iconst 1, 1) := by decide +kernel
theorem d_C_removeAll_31 : decode (sk_cc m_C_removeAll) 31 = .ok (.iadd, 1) := by decide +kernel
theorem d_C_removeAll_32 : decode (sk_cc m_C_removeAll) 32 = .ok (.putfield 9, 3) := by decide +kernel
theorem d_C_removeAll_35 : decode (sk_cc m_C_removeAll) 35 = .ok (.return_, 1) := by decide +kernel
theorem d_G_removeAll_0 : decode (sk_cc m_G_removeAll) 0 = .ok (.aload_n 0, 1) := by decide +kernel
theorem d_G_removeAll_1 : decode (sk_cc m_G_removeAll) 1 = .ok (.iconst 0, 1) := by decide +kernel
theorem d_G_removeAll_2 : decode (sk_cc m_G_removeAll) 2 = .ok (.putfield 18, 3) := by decide +kernel
theorem d_G_removeAll_5 : decode (sk_cc m_G_removeAll) 5 = .ok (.return_, 1) := by decide +kernel
theorem d_X_fault_0 : decode (sk_cc m_X_fault) 0 = .ok (.aload_n 0, 1) := by decide +kernel
theorem d_X_fault_1 : decode (sk_cc m_X_fault) 1 = .ok (.getfield 12, 3) := by decide +kernel
theorem d_X_fault_4 : decode (sk_cc m_X_fault) 4 = .ok (.iload_n 1, 1) := by decide +kernel
theorem d_X_fault_5 : decode (sk_cc m_X_fault) 5 = .ok (.invokevirtual 159, 3) := by decide +kernel
theorem d_X_fault_8 : decode (sk_cc m_X_fault) 8 = .ok (.ifCond .eq 12, 3) := by decide +kernel
theorem d_X_fault_11 : decode (sk_cc m_X_fault) 11 = .ok (.iload_n 3, 1) := by decide +kernel
theorem d_X_fault_12 : decode (sk_cc m_X_fault) 12 = .ok (.ifCond .lt 8, 3) := by decide +kernel
theorem d_X_fault_15 : decode (sk_cc m_X_fault) 15 = .ok (.iload_n 3, 1) := by decide +kernel
theorem d_X_fault_16 : decode (sk_cc m_X_fault) 16 = .ok (.iconst 1, 1) := by decide +kernel
theorem d_X_fault_17 : decode (sk_cc m_X_fault) 17 = .ok (.if_icmp .le 5, 3) := by decide +kernel
theorem d_X_fault_20 : decode (sk_cc m_X_fault) 20 = .ok (.iconst (-1), 1) := by decide +kernel
theorem d_X_fault_21 : decode (sk_cc m_X_fault) 21 = .ok (.ireturn, 1) := by decide +kernel
theorem d_X_fault_22 : decode (sk_cc m_X_fault) 22 = .ok (.iload_n 2, 1) := by decide +kernel
theorem d_X_fault_23 : decode (sk_cc m_X_fault) 23 = .ok (.iconst (-1), 1) := by decide +kernel
theorem d_X_fault_24 : decode (sk_cc m_X_fault) 24 = .ok (.if_icmp .ne 9, 3) := by decide +kernel
theorem d_X_fault_27 : decode (sk_cc m_X_fault) 27 = .ok (.iconst 2, 1) := by decide +kernel
theorem d_X_fault_28 : decode (sk_cc m_X_fault) 28 = .ok (.iload_n 1, 1) := by decide +kernel
theorem d_X_fault_29 : decode (sk_cc m_X_fault) 29 = .ok (.imul, 1) := by decide +kernel
theorem d_X_fault_30 : decode (sk_cc m_X_fault) 30 = .ok (.iload_n 3, 1) := by decide +kernel
theorem d_X_fault_31 : decode (sk_cc m_X_fault) 31 = .ok (.iadd, 1) := by decide +kernel
theorem d_X_fault_32 : decode (sk_cc m_X_fault) 32 = .ok (.ireturn, 1) := by decide +kernel
theorem d_X_fault_33 : decode (sk_cc m_X_fault) 33 = .ok (.iload_n 2, 1) := by decide +kernel
theorem d_X_fault_34 : decode (sk_cc m_X_fault) 34 = .ok (.ifCond .lt 15, 3) := by decide +kernel
theorem d_X_fault_37 : decode (sk_cc m_X_fault) 37 = .ok (.iload_n 2, 1) := by decide +kernel
theorem d_X_fault_38 : decode (sk_cc m_X_fault) 38 = .ok (.aload_n 0, 1) := by decide +kernel
theorem d_X_fault_39 : decode (sk_cc m_X_fault) 39 = .ok (.getfield 12, 3) := by decide +kernel
theorem d_X_fault_42 : decode (sk_cc m_X_fault) 42 = .ok (.iload_n 1, 1) := by decide +kernel
theorem d_X_fault_43 : decode (sk_cc m_X_fault) 43 = .ok (.invokevirtual 162, 3) := by decide +kernel
theorem d_X_fault_46 : decode (sk_cc m_X_fault) 46 = .ok (.if_icmp .lt 5, 3) := by decide +kernel
theorem d_X_fault_49 : decode (sk_cc m_X_fault) 49 = .ok (.iconst (-1), 1) := by decide +kernel
theorem d_X_fault_50 : decode (sk_cc m_X_fault) 50 = .ok (.ireturn, 1) := by decide +kernel
theorem d_X_fault_51 : decode (sk_cc m_X_fault) 51 = .ok (.iconst 2, 1) := by decide +kernel
theorem d_X_fault_52 : decode (sk_cc m_X_fault) 52 = .ok (.aload_n 0, 1) := by decide +kernel
theorem d_X_fault_53 : decode (sk_cc m_X_fault) 53 = .ok (.getfield 12, 3) := by decide +kernel
theorem d_X_fault_56 : decode (sk_cc m_X_fault) 56 = .ok (.getfield 65, 3) := by decide +kernel
theorem d_X_fault_59 : decode (sk_cc m_X_fault) 59 = .ok (.aload_n 0, 1) := by decide +kernel
theorem d_X_fault_60 : decode (sk_cc m_X_fault) 60 = .ok (.getfield 12, 3) := by decide +kernel
theorem d_X_fault_63 : decode (sk_cc m_X_fault) 63 = .ok (.getfield 165, 3) := by decide +kernel
theorem d_X_fault_66 : decode (sk_cc m_X_fault) 66 = .ok (.iload_n 1, 1) := by decide +kernel
theorem d_X_fault_67 : decode (sk_cc m_X_fault) 67 = .ok (.iaload, 1) := by decide +kernel
theorem d_X_fault_68 : decode (sk_cc m_X_fault) 68 = .ok (.iadd, 1) := by decide +kernel
theorem d_X_fault_69 : decode (sk_cc m_X_fault) 69 = .ok (.iload_n 2, 1) := by decide +kernel
theorem d_X_fault_70 : decode (sk_cc m_X_fault) 70 = .ok (.iadd, 1) := by decide +kernel
theorem d_X_fault_71 : decode (sk_cc m_X_fault) 71 = .ok (.imul, 1) := by decide +kernel
theorem d_X_fault_72 : decode (sk_cc m_X_fault) 72 = .ok (.iload_n 3, 1) := by decide +kernel
theorem d_X_fault_73 : decode (sk_cc m_X_fault) 73 = .ok (.iadd, 1) := by decide +kernel
theorem d_X_fault_74 : decode (sk_cc m_X_fault) 74 = .ok (.ireturn, 1) := by decide +kernel
theorem d_C_hasLine_0 : decode (sk_cc m_C_hasLine) 0 = .ok (.iload_n 1, 1) := by decide +kernel
theorem d_C_hasLine_1 : decode (sk_cc m_C_hasLine) 1 = .ok (.ifCond .lt 15, 3) := by decide +kernel
theorem d_C_hasLine_4 : decode (sk_cc m_C_hasLine) 4 = .ok (.iload_n 1, 1) := by decide +kernel
theorem d_C_hasLine_5 : decode (sk_cc m_C_hasLine) 5 = .ok (.aload_n 0, 1) := by decide +kernel
theorem d_C_hasLine_6 : decode (sk_cc m_C_hasLine) 6 = .ok (.getfield 15, 3) := by decide +kernel
theorem d_C_hasLine_9 : decode (sk_cc m_C_hasLine) 9 = .ok (.if_icmp .ge 7, 3) := by decide +kernel
theorem d_C_hasLine_12 : decode (sk_cc m_C_hasLine) 12 = .ok (.iconst 1, 1) := by decide +kernel
theorem d_C_hasLine_13 : decode (sk_cc m_C_hasLine) 13 = .ok (.goto 4, 3) := by decide +kernel
theorem d_C_hasLine_16 : decode (sk_cc m_C_hasLine) 16 = .ok (.iconst 0, 1) := by decide +kernel
theorem d_C_hasLine_17 : decode (sk_cc m_C_hasLine) 17 = .ok (.ireturn, 1) := by decide +kernel
theorem d_C_pinsOf_0 : decode (sk_cc m_C_pinsOf) 0 = .ok (.aload_n 0, 1) := by decide +kernel
theorem d_C_pinsOf_1 : decode (sk_cc m_C_pinsOf) 1 = .ok (.getfield 41, 3) := by decide +kernel
theorem d_C_pinsOf_4 : decode (sk_cc m_C_pinsOf) 4 = .ok (.iload_n 1, 1) := by decide +kernel
theorem d_C_pinsOf_5 : decode (sk_cc m_C_pinsOf) 5 = .ok (.iconst 1, 1) := by decide +kernel
theorem d_C_pinsOf_6 : decode (sk_cc m_C_pinsOf) 6 = .ok (.iadd, 1) := by decide +kernel
theorem d_C_pinsOf_7 : decode (sk_cc m_C_pinsOf) 7 = .ok (.iaload, 1) := by decide +kernel
theorem d_C_pinsOf_8 : decode (sk_cc m_C_pinsOf) 8 = .ok (.aload_n 0, 1) := by decide +kernel
theorem d_C_pinsOf_9 : decode (sk_cc m_C_pinsOf) 9 = .ok (.getfield 41, 3) := by decide +kernel
theorem d_C_pinsOf_12 : decode (sk_cc m_C_pinsOf) 12 = .ok (.iload_n 1, 1) := by decide +kernel
theorem d_C_pinsOf_13 : decode (sk_cc m_C_pinsOf) 13 = .ok (.iaload, 1) := by decide +kernel
theorem d_C_pinsOf_14 : decode (sk_cc m_C_pinsOf) 14 = .ok (.isub, 1) := by decide +kernel
theorem d_C_pinsOf_15 : decode (sk_cc m_C_pinsOf) 15 = .ok (.ireturn, 1) := by decide +kernel
theorem d_X_packed_0 : decode (sk_cc m_X_packed) 0 = .ok (.aload_n 0, 1) := by decide +kernel
theorem d_X_packed_1 : decode (sk_cc m_X_packed) 1 = .ok (.getfield 28, 3) := by decide +kernel
theorem d_X_packed_4 : decode (sk_cc m_X_packed) 4 = .ok (.invokevirtual 129, 3) := by decide +kernel
theorem d_X_packed_7 : decode (sk_cc m_X_packed) 7 = .ok (.aload_n 0, 1) := by decide +kernel
theorem d_X_packed_8 : decode (sk_cc m_X_packed) 8 = .ok (.getfield 44, 3) := by decide +kernel
theorem d_X_packed_11 : decode (sk_cc m_X_packed) 11 = .ok (.iload_n 1, 1) := by decide +kernel
theorem d_X_packed_12 : decode (sk_cc m_X_packed) 12 = .ok (.invokevirtual 207, 3) := by decide +kernel
theorem d_X_packed_15 : decode (sk_cc m_X_packed) 15 = .ok (.ireturn, 1) := by decide +kernel
theorem d_R_prepareAll_0 : decode (sk_cc m_R_prepareAll) 0 = .ok (.iconst (-1), 1) := by decide +kernel
theorem d_R_prepareAll_1 : decode (sk_cc m_R_prepareAll) 1 = .ok (.istore_n 1, 1) := by decide +kernel
theorem d_R_prepareAll_2 : decode (sk_cc m_R_prepareAll) 2 = .ok (.iload_n 1, 1) := by decide +kernel
theorem d_R_prepareAll_3 : decode (sk_cc m_R_prepareAll) 3 = .ok (.aload_n 0, 1) := by decide +kernel
theorem d_R_prepareAll_4 : decode (sk_cc m_R_prepareAll) 4 = .ok (.getfield 22, 3) := by decide +kernel
theorem d_R_prepareAll_7 : decode (sk_cc m_R_prepareAll) 7 = .ok (.invokevirtual 35, 3) := by decide +kernel
theorem d_R_prepareAll_10 : decode (sk_cc m_R_prepareAll) 10 = .ok (.if_icmp .ge 14, 3) := by decide +kernel
theorem d_R_prepareAll_13 : decode (sk_cc m_R_prepareAll) 13 = .ok (.aload_n 0, 1) := by decide +kernel
theorem d_R_prepareAll_14 : decode (sk_cc m_R_prepareAll) 14 = .ok (.iload_n 1, 1) := by decide +kernel
theorem d_R_prepareAll_15 : decode (sk_cc m_R_prepareAll) 15 = .ok (.invokevirtual 41, 3) := by decide +kernel
theorem d_R_prepareAll_18 : decode (sk_cc m_R_prepareAll) 18 = .ok (.iinc 1 1, 3) := by decide +kernel
theorem d_R_prepareAll_21 : decode (sk_cc m_R_prepareAll) 21 = .ok (.goto (-19), 3) := by decide +kernel
theorem d_R_prepareAll_24 : decode (sk_cc m_R_prepareAll) 24 = .ok (.return_, 1) := by decide +kernel
theorem d_C_faults_0 : decode (sk_cc m_C_faults) 0 = .ok (.iconst 2, 1) := by decide +kernel
theorem d_C_faults_1 : decode (sk_cc m_C_faults) 1 = .ok (.aload_n 0, 1) := by decide +kernel
theorem d_C_faults_2 : decode (sk_cc m_C_faults) 2 = .ok (.getfield 15, 3) := by decide +kernel
theorem d_C_faults_5 : decode (sk_cc m_C_faults) 5 = .ok (.aload_n 0, 1) := by decide +kernel
theorem d_C_faults_6 : decode (sk_cc m_C_faults) 6 = .ok (.getfield 27, 3) := by decide +kernel
theorem d_C_faults_9 : decode (sk_cc m_C_faults) 9 = .ok (.iadd, 1) := by decide +kernel
theorem d_C_faults_10 : decode (sk_cc m_C_faults) 10 = .ok (.imul, 1) := by decide +kernel
theorem d_C_faults_11 : decode (sk_cc m_C_faults) 11 = .ok (.ireturn, 1) := by decide +kernel
theorem d_R_workOut_0 : decode (sk_cc m_R_workOut) 0 = .ok (.iload_n 1, 1) := by decide +kernel
theorem d_R_workOut_1 : decode (sk_cc m_R_workOut) 1 = .ok (.iconst 1, 1) := by decide +kernel
theorem d_R_workOut_2 : decode (sk_cc m_R_workOut) 2 = .ok (.iadd, 1) := by decide +kernel
theorem d_R_workOut_3 : decode (sk_cc m_R_workOut) 3 = .ok (.istore_n 2, 1) := by decide +kernel
theorem d_R_workOut_4 : decode (sk_cc m_R_workOut) 4 = .ok (.aload_n 0, 1) := by decide +kernel
theorem d_R_workOut_5 : decode (sk_cc m_R_workOut) 5 = .ok (.getfield 18, 3) := by decide +kernel
theorem d_R_workOut_8 : decode (sk_cc m_R_workOut) 8 = .ok (.iload_n 2, 1) := by decide +kernel
theorem d_R_workOut_9 : decode (sk_cc m_R_workOut) 9 = .ok (.iaload, 1) := by decide +kernel
theorem d_R_workOut_10 : decode (sk_cc m_R_workOut) 10 = .ok (.aload_n 0, 1) := by decide +kernel
theorem d_R_workOut_11 : decode (sk_cc m_R_workOut) 11 = .ok (.getfield 22, 3) := by decide +kernel
theorem d_R_workOut_14 : decode (sk_cc m_R_workOut) 14 = .ok (.getfield 45, 3) := by decide +kernel
theorem d_R_workOut_17 : decode (sk_cc m_R_workOut) 17 = .ok (.if_icmp .ne 4, 3) := by decide +kernel
theorem d_R_workOut_20 : decode (sk_cc m_R_workOut) 20 = .ok (.return_, 1) := by decide +kernel
theorem d_R_workOut_21 : decode (sk_cc m_R_workOut) 21 = .ok (.ldc2_w 49, 3) := by decide +kernel
theorem d_R_workOut_24 : decode (sk_cc m_R_workOut) 24 = .ok (.bipush 64, 2) := by decide +kernel
theorem d_R_workOut_26 : decode (sk_cc m_R_workOut) 26 = .ok (.aload_n 0, 1) := by decide +kernel
theorem d_R_workOut_27 : decode (sk_cc m_R_workOut) 27 = .ok (.getfield 22, 3) := by decide +kernel
theorem d_R_workOut_30 : decode (sk_cc m_R_workOut) 30 = .ok (.invokevirtual 51, 3) := by decide +kernel
theorem d_R_workOut_33 : decode (sk_cc m_R_workOut) 33 = .ok (.isub, 1) := by decide +kernel
theorem d_R_workOut_34 : decode (sk_cc m_R_workOut) 34 = .ok (.lushr, 1) := by decide +kernel
theorem d_R_workOut_35 : decode (sk_cc m_R_workOut) 35 = .ok (.lstore_n 3, 1) := by decide +kernel
theorem d_R_workOut_36 : decode (sk_cc m_R_workOut) 36 = .ok (.lconst 0, 1) := by decide +kernel
theorem d_R_workOut_37 : decode (sk_cc m_R_workOut) 37 = .ok (.lstore 5, 2) := by decide +kernel
theorem d_R_workOut_39 : decode (sk_cc m_R_workOut) 39 = .ok (.aload_n 0, 1) := by decide +kernel
theorem d_R_workOut_40 : decode (sk_cc m_R_workOut) 40 = .ok (.getfield 31, 3) := by decide +kernel
theorem d_R_workOut_43 : decode (sk_cc m_R_workOut) 43 = .ok (.iload_n 1, 1) := by decide +kernel
theorem d_R_workOut_44 : decode (sk_cc m_R_workOut) 44 = .ok (.invokevirtual 54, 3) := by decide +kernel
theorem d_R_workOut_47 : decode (sk_cc m_R_workOut) 47 = .ok (.iconst 0, 1) := by decide +kernel
theorem d_R_workOut_48 : decode (sk_cc m_R_workOut) 48 = .ok (.istore 7, 2) := by decide +kernel
theorem d_R_workOut_50 : decode (sk_cc m_R_workOut) 50 = .ok (.iload 7, 2) := by decide +kernel
theorem d_R_workOut_52 : decode (sk_cc m_R_workOut) 52 = .ok (.aload_n 0, 1) := by decide +kernel
theorem d_R_workOut_53 : decode (sk_cc m_R_workOut) 53 = .ok (.getfield 22, 3) := by decide +kernel
theorem d_R_workOut_56 : decode (sk_cc m_R_workOut) 56 = .ok (.getfield 57, 3) := by decide +kernel
theorem d_R_workOut_59 : decode (sk_cc m_R_workOut) 59 = .ok (.if_icmp .ge 59, 3) := by decide +kernel
theorem d_R_workOut_62 : decode (sk_cc m_R_workOut) 62 = .ok (.aload_n 0, 1) := by decide +kernel
theorem d_R_workOut_63 : decode (sk_cc m_R_workOut) 63 = .ok (.getfield 31, 3) := by decide +kernel
theorem d_R_workOut_66 : decode (sk_cc m_R_workOut) 66 = .ok (.aload_n 0, 1) := by decide +kernel
theorem d_R_workOut_67 : decode (sk_cc m_R_workOut) 67 = .ok (.getfield 22, 3) := by decide +kernel
theorem d_R_workOut_70 : decode (sk_cc m_R_workOut) 70 = .ok (.getfield 60, 3) := by decide +kernel
theorem d_R_workOut_73 : decode (sk_cc m_R_workOut) 73 = .ok (.iload 7, 2) := by decide +kernel
theorem d_R_workOut_75 : decode (sk_cc m_R_workOut) 75 = .ok (.iaload, 1) := by decide +kernel
theorem d_R_workOut_76 : decode (sk_cc m_R_workOut) 76 = .ok (.invokevirtual 63, 3) := by decide +kernel
theorem d_R_workOut_79 : decode (sk_cc m_R_workOut) 79 = .ok (.lload_n 3, 1) := by decide +kernel
theorem d_R_workOut_80 : decode (sk_cc m_R_workOut) 80 = .ok (.land, 1) := by decide +kernel
theorem d_R_workOut_81 : decode (sk_cc m_R_workOut) 81 = .ok (.lstore 8, 2) := by decide +kernel
theorem d_R_workOut_83 : decode (sk_cc m_R_workOut) 83 = .ok (.aload_n 0, 1) := by decide +kernel
theorem d_R_workOut_84 : decode (sk_cc m_R_workOut) 84 = .ok (.getfield 9, 3) := by decide +kernel
theorem d_R_workOut_87 : decode (sk_cc m_R_workOut) 87 = .ok (.iload_n 2, 1) := by decide +kernel
theorem d_R_workOut_88 : decode (sk_cc m_R_workOut) 88 = .ok (.bipush 12, 2) := by decide +kernel
theorem d_R_workOut_90 : decode (sk_cc m_R_workOut) 90 = .ok (.imul, 1) := by decide +kernel
theorem d_R_workOut_91 : decode (sk_cc m_R_workOut) 91 = .ok (.iload 7, 2) := by decide +kernel
theorem d_R_workOut_93 : decode (sk_cc m_R_workOut) 93 = .ok (.iadd, 1) := by decide +kernel
theorem d_R_workOut_94 : decode (sk_cc m_R_workOut) 94 = .ok (.lload 8, 2) := by decide +kernel
theorem d_R_workOut_96 : decode (sk_cc m_R_workOut) 96 = .ok (.lastore, 1) := by decide +kernel
theorem d_R_workOut_97 : decode (sk_cc m_R_workOut) 97 = .ok (.lload 5, 2) := by decide +kernel
theorem d_R_workOut_99 : decode (sk_cc m_R_workOut) 99 = .ok (.lload 8, 2) := by decide +kernel
theorem d_R_workOut_101 : decode (sk_cc m_R_workOut) 101 = .ok (.aload_n 0, 1) := by decide +kernel
theorem d_R_workOut_102 : decode (sk_cc m_R_workOut) 102 = .ok (.getfield 9, 3) := by decide +kernel
theorem d_R_workOut_105 : decode (sk_cc m_R_workOut) 105 = .ok (.iload 7, 2) := by decide +kernel
theorem d_R_workOut_107 : decode (sk_cc m_R_workOut) 107 = .ok (.laload, 1) := by decide +kernel
theorem d_R_workOut_108 : decode (sk_cc m_R_workOut) 108 = .ok (.lxor, 1) := by decide +kernel
theorem d_R_workOut_109 : decode (sk_cc m_R_workOut) 109 = .ok (.lor, 1) := by decide +kernel
theorem d_R_workOut_110 : decode (sk_cc m_R_workOut) 110 = .ok (.lstore 5, 2) := by decide +kernel
theorem d_R_workOut_112 : decode (sk_cc m_R_workOut) 112 = .ok (.iinc 7 1, 3) := by decide +kernel
theorem d_R_workOut_115 : decode (sk_cc m_R_workOut) 115 = .ok (.goto (-65), 3) := by decide +kernel
theorem d_R_workOut_118 : decode (sk_cc m_R_workOut) 118 = .ok (.aload_n 0, 1) := by decide +kernel
theorem d_R_workOut_119 : decode (sk_cc m_R_workOut) 119 = .ok (.getfield 15, 3) := by decide +kernel
theorem d_R_workOut_122 : decode (sk_cc m_R_workOut) 122 = .ok (.iload_n 2, 1) := by decide +kernel
theorem d_R_workOut_123 : decode (sk_cc m_R_workOut) 123 = .ok (.lload 5, 2) := by decide +kernel
theorem d_R_workOut_125 : decode (sk_cc m_R_workOut) 125 = .ok (.lastore, 1) := by decide +kernel
theorem d_R_workOut_126 : decode (sk_cc m_R_workOut) 126 = .ok (.aload_n 0, 1) := by decide +kernel
theorem d_R_workOut_127 : decode (sk_cc m_R_workOut) 127 = .ok (.getfield 18, 3) := by decide +kernel
theorem d_R_workOut_130 : decode (sk_cc m_R_workOut) 130 = .ok (.iload_n 2, 1) := by decide +kernel
theorem d_R_workOut_131 : decode (sk_cc m_R_workOut) 131 = .ok (.aload_n 0, 1) := by decide +kernel
theorem d_R_workOut_132 : decode (sk_cc m_R_workOut) 132 = .ok (.getfield 22, 3) := by decide +kernel
theorem d_R_workOut_135 : decode (sk_cc m_R_workOut) 135 = .ok (.getfield 45, 3) := by decide +kernel
theorem d_R_workOut_138 : decode (sk_cc m_R_workOut) 138 = .ok (.iastore, 1) := by decide +kernel
theorem d_R_workOut_139 : decode (sk_cc m_R_workOut) 139 = .ok (.return_, 1) := by decide +kernel
theorem d_C_vectors_0 : decode (sk_cc m_C_vectors) 0 = .ok (.iconst 1, 1) := by decide +kernel
theorem d_C_vectors_1 : decode (sk_cc m_C_vectors) 1 = .ok (.aload_n 0, 1) := by decide +kernel
theorem d_C_vectors_2 : decode (sk_cc m_C_vectors) 2 = .ok (.getfield 18, 3) := by decide +kernel
theorem d_C_vectors_5 : decode (sk_cc m_C_vectors) 5 = .ok (.ishl, 1) := by decide +kernel
theorem d_C_vectors_6 : decode (sk_cc m_C_vectors) 6 = .ok (.ireturn, 1) := by decide +kernel
theorem d_S_settleVectors_0 : decode (sk_cc m_S_settleVectors) 0 = .ok (.iconst 0, 1) := by decide +kernel
theorem d_S_settleVectors_1 : decode (sk_cc m_S_settleVectors) 1 = .ok (.istore_n 2, 1) := by decide +kernel
theorem d_S_settleVectors_2 : decode (sk_cc m_S_settleVectors) 2 = .ok (.iload_n 2, 1) := by decide +kernel
theorem d_S_settleVectors_3 : decode (sk_cc m_S_settleVectors) 3 = .ok (.bipush 6, 2) := by decide +kernel
theorem d_S_settleVectors_5 : decode (sk_cc m_S_settleVectors) 5 = .ok (.if_icmp .ge 35, 3) := by decide +kernel
theorem d_S_settleVectors_8 : decode (sk_cc m_S_settleVectors) 8 = .ok (.aload_n 0, 1) := by decide +kernel
theorem d_S_settleVectors_9 : decode (sk_cc m_S_settleVectors) 9 = .ok (.getfield 9, 3) := by decide +kernel
theorem d_S_settleVectors_12 : decode (sk_cc m_S_settleVectors) 12 = .ok (.iload_n 2, 1) := by decide +kernel
theorem d_S_settleVectors_13 : decode (sk_cc m_S_settleVectors) 13 = .ok (.getstatic 36, 3) := by decide +kernel
theorem d_S_settleVectors_16 : decode (sk_cc m_S_settleVectors) 16 = .ok (.iload_n 2, 1) := by decide +kernel
theorem d_S_settleVectors_17 : decode (sk_cc m_S_settleVectors) 17 = .ok (.laload, 1) := by decide +kernel
theorem d_S_settleVectors_18 : decode (sk_cc m_S_settleVectors) 18 = .ok (.lastore, 1) := by decide +kernel
theorem d_S_settleVectors_19 : decode (sk_cc m_S_settleVectors) 19 = .ok (.aload_n 0, 1) := by decide +kernel
theorem d_S_settleVectors_20 : decode (sk_cc m_S_settleVectors) 20 = .ok (.getfield 15, 3) := by decide +kernel
theorem d_S_settleVectors_23 : decode (sk_cc m_S_settleVectors) 23 = .ok (.iload_n 2, 1) := by decide +kernel
theorem d_S_settleVectors_24 : decode (sk_cc m_S_settleVectors) 24 = .ok (.getstatic 36, 3) := by decide +kernel
theorem d_S_settleVectors_27 : decode (sk_cc m_S_settleVectors) 27 = .ok (.iload_n 2, 1) := by decide +kernel
theorem d_S_settleVectors_28 : decode (sk_cc m_S_settleVectors) 28 = .ok (.laload, 1) := by decide +kernel
theorem d_S_settleVectors_29 : decode (sk_cc m_S_settleVectors) 29 = .ok (.ldc2_w 39, 3) := by decide +kernel
theorem d_S_settleVectors_32 : decode (sk_cc m_S_settleVectors) 32 = .ok (.lxor, 1) := by decide +kernel
theorem d_S_settleVectors_33 : decode (sk_cc m_S_settleVectors) 33 = .ok (.lastore, 1) := by decide +kernel
theorem d_S_settleVectors_34 : decode (sk_cc m_S_settleVectors) 34 = .ok (.iinc 2 1, 3) := by decide +kernel
theorem d_S_settleVectors_37 : decode (sk_cc m_S_settleVectors) 37 = .ok (.goto (-35), 3) := by decide +kernel
theorem d_S_settleVectors_40 : decode (sk_cc m_S_settleVectors) 40 = .ok (.aload_n 0, 1) := by decide +kernel
theorem d_S_settleVectors_41 : decode (sk_cc m_S_settleVectors) 41 = .ok (.iload_n 1, 1) := by decide +kernel
theorem d_S_settleVectors_42 : decode (sk_cc m_S_settleVectors) 42 = .ok (.invokevirtual 41, 3) := by decide +kernel
theorem d_S_settleVectors_45 : decode (sk_cc m_S_settleVectors) 45 = .ok (.return_, 1) := by decide +kernel
theorem d_S_settle_0 : decode (sk_cc m_S_settle) 0 = .ok (.aload_n 0, 1) := by decide +kernel
theorem d_S_settle_1 : decode (sk_cc m_S_settle) 1 = .ok (.getfield 32, 3) := by decide +kernel
theorem d_S_settle_4 : decode (sk_cc m_S_settle) 4 = .ok (.iload_n 1, 1) := by decide +kernel
theorem d_S_settle_5 : decode (sk_cc m_S_settle) 5 = .ok (.invokevirtual 45, 3) := by decide +kernel
theorem d_S_settle_8 : decode (sk_cc m_S_settle) 8 = .ok (.istore_n 2, 1) := by decide +kernel
theorem d_S_settle_9 : decode (sk_cc m_S_settle) 9 = .ok (.aload_n 0, 1) := by decide +kernel
theorem d_S_settle_10 : decode (sk_cc m_S_settle) 10 = .ok (.aload_n 0, 1) := by decide +kernel
theorem d_S_settle_11 : decode (sk_cc m_S_settle) 11 = .ok (.getfield 32, 3) := by decide +kernel
theorem d_S_settle_14 : decode (sk_cc m_S_settle) 14 = .ok (.iload_n 1, 1) := by decide +kernel
theorem d_S_settle_15 : decode (sk_cc m_S_settle) 15 = .ok (.invokevirtual 51, 3) := by decide +kernel
theorem d_S_settle_18 : decode (sk_cc m_S_settle) 18 = .ok (.putfield 24, 3) := by decide +kernel
theorem d_S_settle_21 : decode (sk_cc m_S_settle) 21 = .ok (.aload_n 0, 1) := by decide +kernel
theorem d_S_settle_22 : decode (sk_cc m_S_settle) 22 = .ok (.iload_n 1, 1) := by decide +kernel
theorem d_S_settle_23 : decode (sk_cc m_S_settle) 23 = .ok (.iconst 1, 1) := by decide +kernel
theorem d_S_settle_24 : decode (sk_cc m_S_settle) 24 = .ok (.iand, 1) := by decide +kernel
theorem d_S_settle_25 : decode (sk_cc m_S_settle) 25 = .ok (.iconst 1, 1) := by decide +kernel
theorem d_S_settle_26 : decode (sk_cc m_S_settle) 26 = .ok (.if_icmp .ne 9, 3) := by decide +kernel
theorem d_S_settle_29 : decode (sk_cc m_S_settle) 29 = .ok (.ldc2_w 39, 3) := by decide +kernel
theorem d_S_settle_32 : decode (sk_cc m_S_settle) 32 = .ok (.goto 4, 3) := by decide +kernel
theorem d_S_settle_35 : decode (sk_cc m_S_settle) 35 = .ok (.lconst 0, 1) := by decide +kernel
theorem d_S_settle_36 : decode (sk_cc m_S_settle) 36 = .ok (.putfield 28, 3) := by decide +kernel
theorem d_S_settle_39 : decode (sk_cc m_S_settle) 39 = .ok (.iconst 0, 1) := by decide +kernel
theorem d_S_settle_40 : decode (sk_cc m_S_settle) 40 = .ok (.istore_n 3, 1) := by decide +kernel
theorem d_S_settle_41 : decode (sk_cc m_S_settle) 41 = .ok (.iload_n 3, 1) := by decide +kernel
theorem d_S_settle_42 : decode (sk_cc m_S_settle) 42 = .ok (.aload_n 0, 1) := by decide +kernel
theorem d_S_settle_43 : decode (sk_cc m_S_settle) 43 = .ok (.getfield 32, 3) := by decide +kernel
theorem d_S_settle_46 : decode (sk_cc m_S_settle) 46 = .ok (.getfield 53, 3) := by decide +kernel
theorem d_S_settle_49 : decode (sk_cc m_S_settle) 49 = .ok (.if_icmp .ge 102, 3) := by decide +kernel
theorem d_S_settle_52 : decode (sk_cc m_S_settle) 52 = .ok (.iload_n 3, 1) := by decide +kernel
theorem d_S_settle_53 : decode (sk_cc m_S_settle) 53 = .ok (.iload_n 2, 1) := by decide +kernel
theorem d_S_settle_54 : decode (sk_cc m_S_settle) 54 = .ok (.if_icmp .ne 30, 3) := by decide +kernel
theorem d_S_settle_57 : decode (sk_cc m_S_settle) 57 = .ok (.aload_n 0, 1) := by decide +kernel
theorem d_S_settle_58 : decode (sk_cc m_S_settle) 58 = .ok (.getfield 18, 3) := by decide +kernel
theorem d_S_settle_61 : decode (sk_cc m_S_settle) 61 = .ok (.iload_n 3, 1) := by decide +kernel
theorem d_S_settle_62 : decode (sk_cc m_S_settle) 62 = .ok (.aload_n 0, 1) := by decide +kernel
theorem d_S_settle_63 : decode (sk_cc m_S_settle) 63 = .ok (.getfield 28, 3) := by decide +kernel
theorem d_S_settle_66 : decode (sk_cc m_S_settle) 66 = .ok (.lastore, 1) := by decide +kernel
theorem d_S_settle_67 : decode (sk_cc m_S_settle) 67 = .ok (.aload_n 0, 1) := by decide +kernel
theorem d_S_settle_68 : decode (sk_cc m_S_settle) 68 = .ok (.getfield 21, 3) := by decide +kernel
theorem d_S_settle_71 : decode (sk_cc m_S_settle) 71 = .ok (.iload_n 3, 1) := by decide +kernel
theorem d_S_settle_72 : decode (sk_cc m_S_settle) 72 = .ok (.aload_n 0, 1) := by decide +kernel
theorem d_S_settle_73 : decode (sk_cc m_S_settle) 73 = .ok (.getfield 28, 3) := by decide +kernel
theorem d_S_settle_76 : decode (sk_cc m_S_settle) 76 = .ok (.ldc2_w 39, 3) := by decide +kernel
theorem d_S_settle_79 : decode (sk_cc m_S_settle) 79 = .ok (.lxor, 1) := by decide +kernel
theorem d_S_settle_80 : decode (sk_cc m_S_settle) 80 = .ok (.lastore, 1) := by decide +kernel
theorem d_S_settle_81 : decode (sk_cc m_S_settle) 81 = .ok (.goto 64, 3) := by decide +kernel
theorem d_S_settle_84 : decode (sk_cc m_S_settle) 84 = .ok (.aload_n 0, 1) := by decide +kernel
theorem d_S_settle_85 : decode (sk_cc m_S_settle) 85 = .ok (.getfield 32, 3) := by decide +kernel
theorem d_S_settle_88 : decode (sk_cc m_S_settle) 88 = .ok (.getfield 56, 3) := by decide +kernel
theorem d_S_settle_91 : decode (sk_cc m_S_settle) 91 = .ok (.iload_n 3, 1) := by decide +kernel
theorem d_S_settle_92 : decode (sk_cc m_S_settle) 92 = .ok (.iaload, 1) := by decide +kernel
theorem d_S_settle_93 : decode (sk_cc m_S_settle) 93 = .ok (.iconst (-1), 1) := by decide +kernel
theorem d_S_settle_94 : decode (sk_cc m_S_settle) 94 = .ok (.if_icmp .ne 46, 3) := by decide +kernel
theorem d_S_settle_97 : decode (sk_cc m_S_settle) 97 = .ok (.aload_n 0, 1) := by decide +kernel
theorem d_S_settle_98 : decode (sk_cc m_S_settle) 98 = .ok (.getfield 18, 3) := by decide +kernel
theorem d_S_settle_101 : decode (sk_cc m_S_settle) 101 = .ok (.iload_n 3, 1) := by decide +kernel
theorem d_S_settle_102 : decode (sk_cc m_S_settle) 102 = .ok (.aload_n 0, 1) := by decide +kernel
theorem d_S_settle_103 : decode (sk_cc m_S_settle) 103 = .ok (.getfield 9, 3) := by decide +kernel
theorem d_S_settle_106 : decode (sk_cc m_S_settle) 106 = .ok (.aload_n 0, 1) := by decide +kernel
theorem d_S_settle_107 : decode (sk_cc m_S_settle) 107 = .ok (.getfield 32, 3) := by decide +kernel
theorem d_S_settle_110 : decode (sk_cc m_S_settle) 110 = .ok (.getfield 60, 3) := by decide +kernel
theorem d_S_settle_113 : decode (sk_cc m_S_settle) 113 = .ok (.iload_n 3, 1) := by decide +kernel
theorem d_S_settle_114 : decode (sk_cc m_S_settle) 114 = .ok (.iaload, 1) := by decide +kernel
theorem d_S_settle_115 : decode (sk_cc m_S_settle) 115 = .ok (.laload, 1) := by decide +kernel
theorem d_S_settle_116 : decode (sk_cc m_S_settle) 116 = .ok (.lastore, 1) := by decide +kernel
theorem d_S_settle_117 : decode (sk_cc m_S_settle) 117 = .ok (.aload_n 0, 1) := by decide +kernel
theorem d_S_settle_118 : decode (sk_cc m_S_settle) 118 = .ok (.getfield 21, 3) := by decide +kernel
theorem d_S_settle_121 : decode (sk_cc m_S_settle) 121 = .ok (.iload_n 3, 1) := by decide +kernel
theorem d_S_settle_122 : decode (sk_cc m_S_settle) 122 = .ok (.aload_n 0, 1) := by decide +kernel
theorem d_S_settle_123 : decode (sk_cc m_S_settle) 123 = .ok (.getfield 15, 3) := by decide +kernel
theorem d_S_settle_126 : decode (sk_cc m_S_settle) 126 = .ok (.aload_n 0, 1) := by decide +kernel
theorem d_S_settle_127 : decode (sk_cc m_S_settle) 127 = .ok (.getfield 32, 3) := by decide +kernel
theorem d_S_settle_130 : decode (sk_cc m_S_settle) 130 = .ok (.getfield 60, 3) := by decide +kernel
theorem d_S_settle_133 : decode (sk_cc m_S_settle) 133 = .ok (.iload_n 3, 1) := by decide +kernel
theorem d_S_settle_134 : decode (sk_cc m_S_settle) 134 = .ok (.iaload, 1) := by decide +kernel
theorem d_S_settle_135 : decode (sk_cc m_S_settle) 135 = .ok (.laload, 1) := by decide +kernel
theorem d_S_settle_136 : decode (sk_cc m_S_settle) 136 = .ok (.lastore, 1) := by decide +kernel
theorem d_S_settle_137 : decode (sk_cc m_S_settle) 137 = .ok (.goto 8, 3) := by decide +kernel
theorem d_S_settle_140 : decode (sk_cc m_S_settle) 140 = .ok (.aload_n 0, 1) := by decide +kernel
theorem d_S_settle_141 : decode (sk_cc m_S_settle) 141 = .ok (.iload_n 3, 1) := by decide +kernel
theorem d_S_settle_142 : decode (sk_cc m_S_settle) 142 = .ok (.invokevirtual 63, 3) := by decide +kernel
theorem d_S_settle_145 : decode (sk_cc m_S_settle) 145 = .ok (.iinc 3 1, 3) := by decide +kernel
theorem d_S_settle_148 : decode (sk_cc m_S_settle) 148 = .ok (.goto (-107), 3) := by decide +kernel
theorem d_S_settle_151 : decode (sk_cc m_S_settle) 151 = .ok (.return_, 1) := by decide +kernel
theorem d_C_stuckLine_0 : decode (sk_cc m_C_stuckLine) 0 = .ok (.iload_n 1, 1) := by decide +kernel
theorem d_C_stuckLine_1 : decode (sk_cc m_C_stuckLine) 1 = .ok (.iconst 1, 1) := by decide +kernel
theorem d_C_stuckLine_2 : decode (sk_cc m_C_stuckLine) 2 = .ok (.ishr, 1) := by decide +kernel
theorem d_C_stuckLine_3 : decode (sk_cc m_C_stuckLine) 3 = .ok (.istore_n 2, 1) := by decide +kernel
theorem d_C_stuckLine_4 : decode (sk_cc m_C_stuckLine) 4 = .ok (.iload_n 2, 1) := by decide +kernel
theorem d_C_stuckLine_5 : decode (sk_cc m_C_stuckLine) 5 = .ok (.ifCond .lt 15, 3) := by decide +kernel
theorem d_C_stuckLine_8 : decode (sk_cc m_C_stuckLine) 8 = .ok (.iload_n 2, 1) := by decide +kernel
theorem d_C_stuckLine_9 : decode (sk_cc m_C_stuckLine) 9 = .ok (.aload_n 0, 1) := by decide +kernel
theorem d_C_stuckLine_10 : decode (sk_cc m_C_stuckLine) 10 = .ok (.getfield 15, 3) := by decide +kernel
theorem d_C_stuckLine_13 : decode (sk_cc m_C_stuckLine) 13 = .ok (.if_icmp .ge 7, 3) := by decide +kernel
theorem d_C_stuckLine_16 : decode (sk_cc m_C_stuckLine) 16 = .ok (.iload_n 2, 1) := by decide +kernel
theorem d_C_stuckLine_17 : decode (sk_cc m_C_stuckLine) 17 = .ok (.goto 4, 3) := by decide +kernel
theorem d_C_stuckLine_20 : decode (sk_cc m_C_stuckLine) 20 = .ok (.iconst (-1), 1) := by decide +kernel
theorem d_C_stuckLine_21 : decode (sk_cc m_C_stuckLine) 21 = .ok (.ireturn, 1) := by decide +kernel
theorem d_C_stuckPin_0 : decode (sk_cc m_C_stuckPin) 0 = .ok (.iload_n 1, 1) := by decide +kernel
theorem d_C_stuckPin_1 : decode (sk_cc m_C_stuckPin) 1 = .ok (.iconst 1, 1) := by decide +kernel
theorem d_C_stuckPin_2 : decode (sk_cc m_C_stuckPin) 2 = .ok (.ishr, 1) := by decide +kernel
theorem d_C_stuckPin_3 : decode (sk_cc m_C_stuckPin) 3 = .ok (.istore_n 2, 1) := by decide +kernel
theorem d_C_stuckPin_4 : decode (sk_cc m_C_stuckPin) 4 = .ok (.iload_n 2, 1) := by decide +kernel
theorem d_C_stuckPin_5 : decode (sk_cc m_C_stuckPin) 5 = .ok (.aload_n 0, 1) := by decide +kernel
theorem d_C_stuckPin_6 : decode (sk_cc m_C_stuckPin) 6 = .ok (.getfield 15, 3) := by decide +kernel
theorem d_C_stuckPin_9 : decode (sk_cc m_C_stuckPin) 9 = .ok (.if_icmp .lt 12, 3) := by decide +kernel
theorem d_C_stuckPin_12 : decode (sk_cc m_C_stuckPin) 12 = .ok (.iload_n 2, 1) := by decide +kernel
theorem d_C_stuckPin_13 : decode (sk_cc m_C_stuckPin) 13 = .ok (.aload_n 0, 1) := by decide +kernel
theorem d_C_stuckPin_14 : decode (sk_cc m_C_stuckPin) 14 = .ok (.getfield 15, 3) := by decide +kernel
theorem d_C_stuckPin_17 : decode (sk_cc m_C_stuckPin) 17 = .ok (.isub, 1) := by decide +kernel
theorem d_C_stuckPin_18 : decode (sk_cc m_C_stuckPin) 18 = .ok (.goto 4, 3) := by decide +kernel
theorem d_C_stuckPin_21 : decode (sk_cc m_C_stuckPin) 21 = .ok (.iconst (-1), 1) := by decide +kernel
theorem d_C_stuckPin_22 : decode (sk_cc m_C_stuckPin) 22 = .ok (.ireturn, 1) := by decide +kernel
theorem d_S_settleGate_0 : decode (sk_cc m_S_settleGate) 0 = .ok (.aload_n 0, 1) := by decide +kernel
theorem d_S_settleGate_1 : decode (sk_cc m_S_settleGate) 1 = .ok (.getfield 32, 3) := by decide +kernel
theorem d_S_settleGate_4 : decode (sk_cc m_S_settleGate) 4 = .ok (.getfield 56, 3) := by decide +kernel
theorem d_S_settleGate_7 : decode (sk_cc m_S_settleGate) 7 = .ok (.iload_n 1, 1) := by decide +kernel
theorem d_S_settleGate_8 : decode (sk_cc m_S_settleGate) 8 = .ok (.iaload, 1) := by decide +kernel
theorem d_S_settleGate_9 : decode (sk_cc m_S_settleGate) 9 = .ok (.iconst 1, 1) := by decide +kernel
theorem d_S_settleGate_10 : decode (sk_cc m_S_settleGate) 10 = .ok (.ishr, 1) := by decide +kernel
theorem d_S_settleGate_11 : decode (sk_cc m_S_settleGate) 11 = .ok (.istore_n 2, 1) := by decide +kernel
theorem d_S_settleGate_12 : decode (sk_cc m_S_settleGate) 12 = .ok (.aload_n 0, 1) := by decide +kernel
theorem d_S_settleGate_13 : decode (sk_cc m_S_settleGate) 13 = .ok (.getfield 32, 3) := by decide +kernel
theorem d_S_settleGate_16 : decode (sk_cc m_S_settleGate) 16 = .ok (.getfield 56, 3) := by decide +kernel
theorem d_S_settleGate_19 : decode (sk_cc m_S_settleGate) 19 = .ok (.iload_n 1, 1) := by decide +kernel
theorem d_S_settleGate_20 : decode (sk_cc m_S_settleGate) 20 = .ok (.iaload, 1) := by decide +kernel
theorem d_S_settleGate_21 : decode (sk_cc m_S_settleGate) 21 = .ok (.iconst 1, 1) := by decide +kernel
theorem d_S_settleGate_22 : decode (sk_cc m_S_settleGate) 22 = .ok (.iand, 1) := by decide +kernel
theorem d_S_settleGate_23 : decode (sk_cc m_S_settleGate) 23 = .ok (.iconst 1, 1) := by decide +kernel
theorem d_S_settleGate_24 : decode (sk_cc m_S_settleGate) 24 = .ok (.if_icmp .ne 7, 3) := by decide +kernel
theorem d_S_settleGate_27 : decode (sk_cc m_S_settleGate) 27 = .ok (.iconst 1, 1) := by decide +kernel
theorem d_S_settleGate_28 : decode (sk_cc m_S_settleGate) 28 = .ok (.goto 4, 3) := by decide +kernel
theorem d_S_settleGate_31 : decode (sk_cc m_S_settleGate) 31 = .ok (.iconst 0, 1) := by decide +kernel
theorem d_S_settleGate_32 : decode (sk_cc m_S_settleGate) 32 = .ok (.istore_n 3, 1) := by decide +kernel
theorem d_S_settleGate_33 : decode (sk_cc m_S_settleGate) 33 = .ok (.iload_n 2, 1) := by decide +kernel
theorem d_S_settleGate_34 : decode (sk_cc m_S_settleGate) 34 = .ok (.ifCond .ne 9, 3) := by decide +kernel
theorem d_S_settleGate_37 : decode (sk_cc m_S_settleGate) 37 = .ok (.ldc2_w 39, 3) := by decide +kernel
theorem d_S_settleGate_40 : decode (sk_cc m_S_settleGate) 40 = .ok (.goto 4, 3) := by decide +kernel
theorem d_S_settleGate_43 : decode (sk_cc m_S_settleGate) 43 = .ok (.lconst 0, 1) := by decide +kernel
theorem d_S_settleGate_44 : decode (sk_cc m_S_settleGate) 44 = .ok (.lstore 4, 2) := by decide +kernel
theorem d_S_settleGate_46 : decode (sk_cc m_S_settleGate) 46 = .ok (.lload 4, 2) := by decide +kernel
theorem d_S_settleGate_48 : decode (sk_cc m_S_settleGate) 48 = .ok (.ldc2_w 39, 3) := by decide +kernel
theorem d_S_settleGate_51 : decode (sk_cc m_S_settleGate) 51 = .ok (.lxor, 1) := by decide +kernel
theorem d_S_settleGate_52 : decode (sk_cc m_S_settleGate) 52 = .ok (.lstore 6, 2) := by decide +kernel
theorem d_S_settleGate_54 : decode (sk_cc m_S_settleGate) 54 = .ok (.aload_n 0, 1) := by decide +kernel
theorem d_S_settleGate_55 : decode (sk_cc m_S_settleGate) 55 = .ok (.getfield 32, 3) := by decide +kernel
theorem d_S_settleGate_58 : decode (sk_cc m_S_settleGate) 58 = .ok (.getfield 66, 3) := by decide +kernel
theorem d_S_settleGate_61 : decode (sk_cc m_S_settleGate) 61 = .ok (.iload_n 1, 1) := by decide +kernel
theorem d_S_settleGate_62 : decode (sk_cc m_S_settleGate) 62 = .ok (.iaload, 1) := by decide +kernel
theorem d_S_settleGate_63 : decode (sk_cc m_S_settleGate) 63 = .ok (.istore 8, 2) := by decide +kernel
theorem d_S_settleGate_65 : decode (sk_cc m_S_settleGate) 65 = .ok (.iload 8, 2) := by decide +kernel
theorem d_S_settleGate_67 : decode (sk_cc m_S_settleGate) 67 = .ok (.aload_n 0, 1) := by decide +kernel
theorem d_S_settleGate_68 : decode (sk_cc m_S_settleGate) 68 = .ok (.getfield 32, 3) := by decide +kernel
theorem d_S_settleGate_71 : decode (sk_cc m_S_settleGate) 71 = .ok (.getfield 66, 3) := by decide +kernel
theorem d_S_settleGate_74 : decode (sk_cc m_S_settleGate) 74 = .ok (.iload_n 1, 1) := by decide +kernel
theorem d_S_settleGate_75 : decode (sk_cc m_S_settleGate) 75 = .ok (.iconst 1, 1) := by decide +kernel
theorem d_S_settleGate_76 : decode (sk_cc m_S_settleGate) 76 = .ok (.iadd, 1) := by decide +kernel
theorem d_S_settleGate_77 : decode (sk_cc m_S_settleGate) 77 = .ok (.iaload, 1) := by decide +kernel
theorem d_S_settleGate_78 : decode (sk_cc m_S_settleGate) 78 = .ok (.if_icmp .ge 148, 3) := by decide +kernel
theorem d_S_settleGate_81 : decode (sk_cc m_S_settleGate) 81 = .ok (.aload_n 0, 1) := by decide +kernel
theorem d_S_settleGate_82 : decode (sk_cc m_S_settleGate) 82 = .ok (.getfield 32, 3) := by decide +kernel
theorem d_S_settleGate_85 : decode (sk_cc m_S_settleGate) 85 = .ok (.getfield 69, 3) := by decide +kernel
theorem d_S_settleGate_88 : decode (sk_cc m_S_settleGate) 88 = .ok (.iload 8, 2) := by decide +kernel
theorem d_S_settleGate_90 : decode (sk_cc m_S_settleGate) 90 = .ok (.iaload, 1) := by decide +kernel
theorem d_S_settleGate_91 : decode (sk_cc m_S_settleGate) 91 = .ok (.istore 9, 2) := by decide +kernel
theorem d_S_settleGate_93 : decode (sk_cc m_S_settleGate) 93 = .ok (.iload 8, 2) := by decide +kernel
theorem d_S_settleGate_95 : decode (sk_cc m_S_settleGate) 95 = .ok (.aload_n 0, 1) := by decide +kernel
theorem d_S_settleGate_96 : decode (sk_cc m_S_settleGate) 96 = .ok (.getfield 24, 3) := by decide +kernel
theorem d_S_settleGate_99 : decode (sk_cc m_S_settleGate) 99 = .ok (.if_icmp .ne 10, 3) := by decide +kernel
theorem d_S_settleGate_102 : decode (sk_cc m_S_settleGate) 102 = .ok (.aload_n 0, 1) := by decide +kernel
theorem d_S_settleGate_103 : decode (sk_cc m_S_settleGate) 103 = .ok (.getfield 28, 3) := by decide +kernel
theorem d_S_settleGate_106 : decode (sk_cc m_S_settleGate) 106 = .ok (.goto 10, 3) := by decide +kernel
theorem d_S_settleGate_109 : decode (sk_cc m_S_settleGate) 109 = .ok (.aload_n 0, 1) := by decide +kernel
theorem d_S_settleGate_110 : decode (sk_cc m_S_settleGate) 110 = .ok (.getfield 18, 3) := by decide +kernel
theorem d_S_settleGate_113 : decode (sk_cc m_S_settleGate) 113 = .ok (.iload 9, 2) := by decide +kernel
theorem d_S_settleGate_115 : decode (sk_cc m_S_settleGate) 115 = .ok (.laload, 1) := by decide +kernel
theorem d_S_settleGate_116 : decode (sk_cc m_S_settleGate) 116 = .ok (.lstore 10, 2) := by decide +kernel
theorem d_S_settleGate_118 : decode (sk_cc m_S_settleGate) 118 = .ok (.iload 8, 2) := by decide +kernel
theorem d_S_settleGate_120 : decode (sk_cc m_S_settleGate) 120 = .ok (.aload_n 0, 1) := by decide +kernel
theorem d_S_settleGate_121 : decode (sk_cc m_S_settleGate) 121 = .ok (.getfield 24, 3) := by decide +kernel
theorem d_S_settleGate_124 : decode (sk_cc m_S_settleGate) 124 = .ok (.if_icmp .ne 14, 3) := by decide +kernel
theorem d_S_settleGate_127 : decode (sk_cc m_S_settleGate) 127 = .ok (.aload_n 0, 1) := by decide +kernel
theorem d_S_settleGate_128 : decode (sk_cc m_S_settleGate) 128 = .ok (.getfield 28, 3) := by decide +kernel
theorem d_S_settleGate_131 : decode (sk_cc m_S_settleGate) 131 = .ok (.ldc2_w 39, 3) := by decide +kernel
theorem d_S_settleGate_134 : decode (sk_cc m_S_settleGate) 134 = .ok (.lxor, 1) := by decide +kernel
theorem d_S_settleGate_135 : decode (sk_cc m_S_settleGate) 135 = .ok (.goto 10, 3) := by decide +kernel
theorem d_S_settleGate_138 : decode (sk_cc m_S_settleGate) 138 = .ok (.aload_n 0, 1) := by decide +kernel
theorem d_S_settleGate_139 : decode (sk_cc m_S_settleGate) 139 = .ok (.getfield 21, 3) := by decide +kernel
theorem d_S_settleGate_142 : decode (sk_cc m_S_settleGate) 142 = .ok (.iload 9, 2) := by decide +kernel
theorem d_S_settleGate_144 : decode (sk_cc m_S_settleGate) 144 = .ok (.laload, 1) := by decide +kernel
theorem d_S_settleGate_145 : decode (sk_cc m_S_settleGate) 145 = .ok (.lstore 12, 2) := by decide +kernel
theorem d_S_settleGate_147 : decode (sk_cc m_S_settleGate) 147 = .ok (.iload_n 2, 1) := by decide +kernel
theorem d_S_settleGate_148 : decode (sk_cc m_S_settleGate) 148 = .ok (.ifCond .ne 20, 3) := by decide +kernel
theorem d_S_settleGate_151 : decode (sk_cc m_S_settleGate) 151 = .ok (.lload 4, 2) := by decide +kernel
theorem d_S_settleGate_153 : decode (sk_cc m_S_settleGate) 153 = .ok (.lload 10, 2) := by decide +kernel
theorem d_S_settleGate_155 : decode (sk_cc m_S_settleGate) 155 = .ok (.land, 1) := by decide +kernel
theorem d_S_settleGate_156 : decode (sk_cc m_S_settleGate) 156 = .ok (.lstore 4, 2) := by decide +kernel
theorem d_S_settleGate_158 : decode (sk_cc m_S_settleGate) 158 = .ok (.lload 6, 2) := by decide +kernel
theorem d_S_settleGate_160 : decode (sk_cc m_S_settleGate) 160 = .ok (.lload 12, 2) := by decide +kernel
theorem d_S_settleGate_162 : decode (sk_cc m_S_settleGate) 162 = .ok (.lor, 1) := by decide +kernel
theorem d_S_settleGate_163 : decode (sk_cc m_S_settleGate) 163 = .ok (.lstore 6, 2) := by decide +kernel
theorem d_S_settleGate_165 : decode (sk_cc m_S_settleGate) 165 = .ok (.goto 55, 3) := by decide +kernel
theorem d_S_settleGate_168 : decode (sk_cc m_S_settleGate) 168 = .ok (.iload_n 2, 1) := by decide +kernel
theorem d_S_settleGate_169 : decode (sk_cc m_S_settleGate) 169 = .ok (.iconst 1, 1) := by decide +kernel
theorem d_S_settleGate_170 : decode (sk_cc m_S_settleGate) 170 = .ok (.if_icmp .ne 20, 3) := by decide +kernel
theorem d_S_settleGate_173 : decode (sk_cc m_S_settleGate) 173 = .ok (.lload 4, 2) := by decide +kernel
theorem d_S_settleGate_175 : decode (sk_cc m_S_settleGate) 175 = .ok (.lload 10, 2) := by decide +kernel
theorem d_S_settleGate_177 : decode (sk_cc m_S_settleGate) 177 = .ok (.lor, 1) := by decide +kernel
theorem d_S_settleGate_178 : decode (sk_cc m_S_settleGate) 178 = .ok (.lstore 4, 2) := by decide +kernel
theorem d_S_settleGate_180 : decode (sk_cc m_S_settleGate) 180 = .ok (.lload 6, 2) := by decide +kernel
theorem d_S_settleGate_182 : decode (sk_cc m_S_settleGate) 182 = .ok (.lload 12, 2) := by decide +kernel
theorem d_S_settleGate_184 : decode (sk_cc m_S_settleGate) 184 = .ok (.land, 1) := by decide +kernel
theorem d_S_settleGate_185 : decode (sk_cc m_S_settleGate) 185 = .ok (.lstore 6, 2) := by decide +kernel
theorem d_S_settleGate_187 : decode (sk_cc m_S_settleGate) 187 = .ok (.goto 33, 3) := by decide +kernel
theorem d_S_settleGate_190 : decode (sk_cc m_S_settleGate) 190 = .ok (.lload 4, 2) := by decide +kernel
theorem d_S_settleGate_192 : decode (sk_cc m_S_settleGate) 192 = .ok (.lload 12, 2) := by decide +kernel
theorem d_S_settleGate_194 : decode (sk_cc m_S_settleGate) 194 = .ok (.land, 1) := by decide +kernel
theorem d_S_settleGate_195 : decode (sk_cc m_S_settleGate) 195 = .ok (.lload 6, 2) := by decide +kernel
theorem d_S_settleGate_197 : decode (sk_cc m_S_settleGate) 197 = .ok (.lload 10, 2) := by decide +kernel
theorem d_S_settleGate_199 : decode (sk_cc m_S_settleGate) 199 = .ok (.land, 1) := by decide +kernel
theorem d_S_settleGate_200 : decode (sk_cc m_S_settleGate) 200 = .ok (.lor, 1) := by decide +kernel
theorem d_S_settleGate_201 : decode (sk_cc m_S_settleGate) 201 = .ok (.lstore 14, 2) := by decide +kernel
theorem d_S_settleGate_203 : decode (sk_cc m_S_settleGate) 203 = .ok (.lload 6, 2) := by decide +kernel
theorem d_S_settleGate_205 : decode (sk_cc m_S_settleGate) 205 = .ok (.lload 12, 2) := by decide +kernel
theorem d_S_settleGate_207 : decode (sk_cc m_S_settleGate) 207 = .ok (.land, 1) := by decide +kernel
theorem d_S_settleGate_208 : decode (sk_cc m_S_settleGate) 208 = .ok (.lload 4, 2) := by decide +kernel
theorem d_S_settleGate_210 : decode (sk_cc m_S_settleGate) 210 = .ok (.lload 10, 2) := by decide +kernel
theorem d_S_settleGate_212 : decode (sk_cc m_S_settleGate) 212 = .ok (.land, 1) := by decide +kernel
theorem d_S_settleGate_213 : decode (sk_cc m_S_settleGate) 213 = .ok (.lor, 1) := by decide +kernel
theorem d_S_settleGate_214 : decode (sk_cc m_S_settleGate) 214 = .ok (.lstore 6, 2) := by decide +kernel
theorem d_S_settleGate_216 : decode (sk_cc m_S_settleGate) 216 = .ok (.lload 14, 2) := by decide +kernel
theorem d_S_settleGate_218 : decode (sk_cc m_S_settleGate) 218 = .ok (.lstore 4, 2) := by decide +kernel
theorem d_S_settleGate_220 : decode (sk_cc m_S_settleGate) 220 = .ok (.iinc 8 1, 3) := by decide +kernel
theorem d_S_settleGate_223 : decode (sk_cc m_S_settleGate) 223 = .ok (.goto (-158), 3) := by decide +kernel
theorem d_S_settleGate_226 : decode (sk_cc m_S_settleGate) 226 = .ok (.aload_n 0, 1) := by decide +kernel
theorem d_S_settleGate_227 : decode (sk_cc m_S_settleGate) 227 = .ok (.getfield 18, 3) := by decide +kernel
theorem d_S_settleGate_230 : decode (sk_cc m_S_settleGate) 230 = .ok (.iload_n 1, 1) := by decide +kernel
theorem d_S_settleGate_231 : decode (sk_cc m_S_settleGate) 231 = .ok (.iload_n 3, 1) := by decide +kernel
theorem d_S_settleGate_232 : decode (sk_cc m_S_settleGate) 232 = .ok (.ifCond .eq 8, 3) := by decide +kernel
theorem d_S_settleGate_235 : decode (sk_cc m_S_settleGate) 235 = .ok (.lload 6, 2) := by decide +kernel
theorem d_S_settleGate_237 : decode (sk_cc m_S_settleGate) 237 = .ok (.goto 5, 3) := by decide +kernel
theorem d_S_settleGate_240 : decode (sk_cc m_S_settleGate) 240 = .ok (.lload 4, 2) := by decide +kernel
theorem d_S_settleGate_242 : decode (sk_cc m_S_settleGate) 242 = .ok (.lastore, 1) := by decide +kernel
theorem d_S_settleGate_243 : decode (sk_cc m_S_settleGate) 243 = .ok (.aload_n 0, 1) := by decide +kernel
theorem d_S_settleGate_244 : decode (sk_cc m_S_settleGate) 244 = .ok (.getfield 21, 3) := by decide +kernel
theorem d_S_settleGate_247 : decode (sk_cc m_S_settleGate) 247 = .ok (.iload_n 1, 1) := by decide +kernel
theorem d_S_settleGate_248 : decode (sk_cc m_S_settleGate) 248 = .ok (.iload_n 3, 1) := by decide +kernel
theorem d_S_settleGate_249 : decode (sk_cc m_S_settleGate) 249 = .ok (.ifCond .eq 8, 3) := by decide +kernel
theorem d_S_settleGate_252 : decode (sk_cc m_S_settleGate) 252 = .ok (.lload 4, 2) := by decide +kernel
theorem d_S_settleGate_254 : decode (sk_cc m_S_settleGate) 254 = .ok (.goto 5, 3) := by decide +kernel
theorem d_S_settleGate_257 : decode (sk_cc m_S_settleGate) 257 = .ok (.lload 6, 2) := by decide +kernel
theorem d_S_settleGate_259 : decode (sk_cc m_S_settleGate) 259 = .ok (.lastore, 1) := by decide +kernel
theorem d_S_settleGate_260 : decode (sk_cc m_S_settleGate) 260 = .ok (.return_, 1) := by decide +kernel
theorem d_S_onesOf_0 : decode (sk_cc m_S_onesOf) 0 = .ok (.aload_n 0, 1) := by decide +kernel
theorem d_S_onesOf_1 : decode (sk_cc m_S_onesOf) 1 = .ok (.getfield 18, 3) := by decide +kernel
theorem d_S_onesOf_4 : decode (sk_cc m_S_onesOf) 4 = .ok (.iload_n 1, 1) := by decide +kernel
theorem d_S_onesOf_5 : decode (sk_cc m_S_onesOf) 5 = .ok (.laload, 1) := by decide +kernel
theorem d_S_onesOf_6 : decode (sk_cc m_S_onesOf) 6 = .ok (.lreturn, 1) := by decide +kernel
theorem d_P_at_0 : decode (sk_cc m_P_at) 0 = .ok (.aload_n 0, 1) := by decide +kernel
theorem d_P_at_1 : decode (sk_cc m_P_at) 1 = .ok (.getfield 23, 3) := by decide +kernel
theorem d_P_at_4 : decode (sk_cc m_P_at) 4 = .ok (.aload_n 0, 1) := by decide +kernel
theorem d_P_at_5 : decode (sk_cc m_P_at) 5 = .ok (.getfield 26, 3) := by decide +kernel
theorem d_P_at_8 : decode (sk_cc m_P_at) 8 = .ok (.getfield 34, 3) := by decide +kernel
theorem d_P_at_11 : decode (sk_cc m_P_at) 11 = .ok (.if_icmp .eq 26, 3) := by decide +kernel
theorem d_P_at_14 : decode (sk_cc m_P_at) 14 = .ok (.aload_n 0, 1) := by decide +kernel
theorem d_P_at_15 : decode (sk_cc m_P_at) 15 = .ok (.invokevirtual 37, 3) := by decide +kernel
theorem d_P_at_18 : decode (sk_cc m_P_at) 18 = .ok (.aload_n 0, 1) := by decide +kernel
theorem d_P_at_19 : decode (sk_cc m_P_at) 19 = .ok (.invokevirtual 40, 3) := by decide +kernel
theorem d_P_at_22 : decode (sk_cc m_P_at) 22 = .ok (.aload_n 0, 1) := by decide +kernel
theorem d_P_at_23 : decode (sk_cc m_P_at) 23 = .ok (.invokevirtual 43, 3) := by decide +kernel
theorem d_P_at_26 : decode (sk_cc m_P_at) 26 = .ok (.aload_n 0, 1) := by decide +kernel
theorem d_P_at_27 : decode (sk_cc m_P_at) 27 = .ok (.aload_n 0, 1) := by decide +kernel
theorem d_P_at_28 : decode (sk_cc m_P_at) 28 = .ok (.getfield 26, 3) := by decide +kernel
theorem d_P_at_31 : decode (sk_cc m_P_at) 31 = .ok (.getfield 34, 3) := by decide +kernel
theorem d_P_at_34 : decode (sk_cc m_P_at) 34 = .ok (.putfield 23, 3) := by decide +kernel
theorem d_P_at_37 : decode (sk_cc m_P_at) 37 = .ok (.iload_n 1, 1) := by decide +kernel
theorem d_P_at_38 : decode (sk_cc m_P_at) 38 = .ok (.ifCond .lt 20, 3) := by decide +kernel
theorem d_P_at_41 : decode (sk_cc m_P_at) 41 = .ok (.iload_n 1, 1) := by decide +kernel
theorem d_P_at_42 : decode (sk_cc m_P_at) 42 = .ok (.aload_n 0, 1) := by decide +kernel
theorem d_P_at_43 : decode (sk_cc m_P_at) 43 = .ok (.getfield 15, 3) := by decide +kernel
theorem d_P_at_46 : decode (sk_cc m_P_at) 46 = .ok (.if_icmp .ge 12, 3) := by decide +kernel
theorem d_P_at_49 : decode (sk_cc m_P_at) 49 = .ok (.aload_n 0, 1) := by decide +kernel
theorem d_P_at_50 : decode (sk_cc m_P_at) 50 = .ok (.getfield 9, 3) := by decide +kernel
theorem d_P_at_53 : decode (sk_cc m_P_at) 53 = .ok (.iload_n 1, 1) := by decide +kernel
theorem d_P_at_54 : decode (sk_cc m_P_at) 54 = .ok (.iaload, 1) := by decide +kernel
theorem d_P_at_55 : decode (sk_cc m_P_at) 55 = .ok (.goto 4, 3) := by decide +kernel
theorem d_P_at_58 : decode (sk_cc m_P_at) 58 = .ok (.iconst (-1), 1) := by decide +kernel
theorem d_P_at_59 : decode (sk_cc m_P_at) 59 = .ok (.ireturn, 1) := by decide +kernel
theorem d_P_gather_0 : decode (sk_cc m_P_gather) 0 = .ok (.aload_n 0, 1) := by decide +kernel
theorem d_P_gather_1 : decode (sk_cc m_P_gather) 1 = .ok (.iconst 0, 1) := by decide +kernel
theorem d_P_gather_2 : decode (sk_cc m_P_gather) 2 = .ok (.putfield 15, 3) := by decide +kernel
theorem d_P_gather_5 : decode (sk_cc m_P_gather) 5 = .ok (.aload_n 0, 1) := by decide +kernel
theorem d_P_gather_6 : decode (sk_cc m_P_gather) 6 = .ok (.lconst 0, 1) := by decide +kernel
theorem d_P_gather_7 : decode (sk_cc m_P_gather) 7 = .ok (.putfield 19, 3) := by decide +kernel
theorem d_P_gather_10 : decode (sk_cc m_P_gather) 10 = .ok (.iconst 0, 1) := by decide +kernel
theorem d_P_gather_11 : decode (sk_cc m_P_gather) 11 = .ok (.istore_n 1, 1) := by decide +kernel
theorem d_P_gather_12 : decode (sk_cc m_P_gather) 12 = .ok (.iload_n 1, 1) := by decide +kernel
theorem d_P_gather_13 : decode (sk_cc m_P_gather) 13 = .ok (.aload_n 0, 1) := by decide +kernel
theorem d_P_gather_14 : decode (sk_cc m_P_gather) 14 = .ok (.getfield 26, 3) := by decide +kernel
theorem d_P_gather_17 : decode (sk_cc m_P_gather) 17 = .ok (.invokevirtual 46, 3) := by decide +kernel
theorem d_P_gather_20 : decode (sk_cc m_P_gather) 20 = .ok (.if_icmp .ge 73, 3) := by decide +kernel
theorem d_P_gather_23 : decode (sk_cc m_P_gather) 23 = .ok (.aload_n 0, 1) := by decide +kernel
theorem d_P_gather_24 : decode (sk_cc m_P_gather) 24 = .ok (.getfield 30, 3) := by decide +kernel
theorem d_P_gather_27 : decode (sk_cc m_P_gather) 27 = .ok (.iload_n 1, 1) := by decide +kernel
theorem d_P_gather_28 : decode (sk_cc m_P_gather) 28 = .ok (.invokevirtual 50, 3) := by decide +kernel
theorem d_P_gather_31 : decode (sk_cc m_P_gather) 31 = .ok (.istore_n 2, 1) := by decide +kernel
theorem d_P_gather_32 : decode (sk_cc m_P_gather) 32 = .ok (.iload_n 2, 1) := by decide +kernel
theorem d_P_gather_33 : decode (sk_cc m_P_gather) 33 = .ok (.iconst (-1), 1) := by decide +kernel
theorem d_P_gather_34 : decode (sk_cc m_P_gather) 34 = .ok (.if_icmp .eq 53, 3) := by decide +kernel
theorem d_P_gather_37 : decode (sk_cc m_P_gather) 37 = .ok (.aload_n 0, 1) := by decide +kernel
theorem d_P_gather_38 : decode (sk_cc m_P_gather) 38 = .ok (.getfield 30, 3) := by decide +kernel
theorem d_P_gather_41 : decode (sk_cc m_P_gather) 41 = .ok (.iload_n 1, 1) := by decide +kernel
theorem d_P_gather_42 : decode (sk_cc m_P_gather) 42 = .ok (.invokevirtual 56, 3) := by decide +kernel
theorem d_P_gather_45 : decode (sk_cc m_P_gather) 45 = .ok (.aload_n 0, 1) := by decide +kernel
theorem d_P_gather_46 : decode (sk_cc m_P_gather) 46 = .ok (.getfield 19, 3) := by decide +kernel
theorem d_P_gather_49 : decode (sk_cc m_P_gather) 49 = .ok (.land, 1) := by decide +kernel
theorem d_P_gather_50 : decode (sk_cc m_P_gather) 50 = .ok (.lconst 0, 1) := by decide +kernel
theorem d_P_gather_51 : decode (sk_cc m_P_gather) 51 = .ok (.lcmp, 1) := by decide +kernel
theorem d_P_gather_52 : decode (sk_cc m_P_gather) 52 = .ok (.ifCond .ne 35, 3) := by decide +kernel
theorem d_P_gather_55 : decode (sk_cc m_P_gather) 55 = .ok (.aload_n 0, 1) := by decide +kernel
theorem d_P_gather_56 : decode (sk_cc m_P_gather) 56 = .ok (.getfield 9, 3) := by decide +kernel
theorem d_P_gather_59 : decode (sk_cc m_P_gather) 59 = .ok (.aload_n 0, 1) := by decide +kernel
theorem d_P_gather_60 : decode (sk_cc m_P_gather) 60 = .ok (.getfield 15, 3) := by decide +kernel
theorem d_P_gather_63 : decode (sk_cc m_P_gather) 63 = .ok (.iload_n 2, 1) := by decide +kernel
theorem d_P_gather_64 : decode (sk_cc m_P_gather) 64 = .ok (.iastore, 1) := by decide +kernel
theorem d_P_gather_65 : decode (sk_cc m_P_gather) 65 = .ok (.aload_n 0, 1) := by decide +kernel
theorem d_P_gather_66 : decode (sk_cc m_P_gather) 66 = .ok (.dup, 1) := by decide +kernel
theorem d_P_gather_67 : decode (sk_cc m_P_gather) 67 = .ok (.getfield 15, 3) := by decide +kernel
theorem d_P_gather_70 : decode (sk_cc m_P_gather) 70 = .ok (.iconst 1, 1) := by decide +kernel
theorem d_P_gather_71 : decode (sk_cc m_P_gather) 71 = .ok (.iadd, 1) := by decide +kernel
theorem d_P_gather_72 : decode (sk_cc m_P_gather) 72 = .ok (.putfield 15, 3) := by decide +kernel
theorem d_P_gather_75 : decode (sk_cc m_P_gather) 75 = .ok (.aload_n 0, 1) := by decide +kernel
theorem d_P_gather_76 : decode (sk_cc m_P_gather) 76 = .ok (.dup, 1) := by decide +kernel
theorem d_P_gather_77 : decode (sk_cc m_P_gather) 77 = .ok (.getfield 19, 3) := by decide +kernel
theorem d_P_gather_80 : decode (sk_cc m_P_gather) 80 = .ok (.lconst 1, 1) := by decide +kernel
theorem d_P_gather_81 : decode (sk_cc m_P_gather) 81 = .ok (.iload_n 2, 1) := by decide +kernel
theorem d_P_gather_82 : decode (sk_cc m_P_gather) 82 = .ok (.lshl, 1) := by decide +kernel
theorem d_P_gather_83 : decode (sk_cc m_P_gather) 83 = .ok (.lor, 1) := by decide +kernel
theorem d_P_gather_84 : decode (sk_cc m_P_gather) 84 = .ok (.putfield 19, 3) := by decide +kernel
theorem d_P_gather_87 : decode (sk_cc m_P_gather) 87 = .ok (.iinc 1 1, 3) := by decide +kernel
theorem d_P_gather_90 : decode (sk_cc m_P_gather) 90 = .ok (.goto (-78), 3) := by decide +kernel
theorem d_P_gather_93 : decode (sk_cc m_P_gather) 93 = .ok (.return_, 1) := by decide +kernel
theorem d_R_firstShowing_0 : decode (sk_cc m_R_firstShowing) 0 = .ok (.aload_n 0, 1) := by decide +kernel
theorem d_R_firstShowing_1 : decode (sk_cc m_R_firstShowing) 1 = .ok (.iload_n 1, 1) := by decide +kernel
theorem d_R_firstShowing_2 : decode (sk_cc m_R_firstShowing) 2 = .ok (.invokevirtual 67, 3) := by decide +kernel
theorem d_R_firstShowing_5 : decode (sk_cc m_R_firstShowing) 5 = .ok (.lstore_n 2, 1) := by decide +kernel
theorem d_R_firstShowing_6 : decode (sk_cc m_R_firstShowing) 6 = .ok (.iconst 0, 1) := by decide +kernel
theorem d_R_firstShowing_7 : decode (sk_cc m_R_firstShowing) 7 = .ok (.istore 4, 2) := by decide +kernel
end
section
/-! decode rows -/
theorem d_R_firstShowing_9 : decode (sk_cc m_R_firstShowing) 9 = .ok (.iload 4, 2) := by decide +kernel
theorem d_R_firstShowing_11 : decode (sk_cc m_R_firstShowing) 11 = .ok (.bipush 64, 2) := by decide +kernel
theorem d_R_firstShowing_13 : decode (sk_cc m_R_firstShowing) 13 = .ok (.if_icmp .ge 23, 3) := by decide +kernel
theorem d_R_firstShowing_16 : decode (sk_cc m_R_firstShowing) 16 = .ok (.lload_n 2, 1) := by decide +kernel
theorem d_R_firstShowing_17 : decode (sk_cc m_R_firstShowing) 17 = .ok (.iload 4, 2) := by decide +kernel
theorem d_R_firstShowing_19 : decode (sk_cc m_R_firstShowing) 19 = .ok (.lushr, 1) := by decide +kernel
theorem d_R_firstShowing_20 : decode (sk_cc m_R_firstShowing) 20 = .ok (.lconst 1, 1) := by decide +kernel
theorem d_R_firstShowing_21 : decode (sk_cc m_R_firstShowing) 21 = .ok (.land, 1) := by decide +kernel
theorem d_R_firstShowing_22 : decode (sk_cc m_R_firstShowing) 22 = .ok (.lconst 1, 1) := by decide +kernel
theorem d_R_firstShowing_23 : decode (sk_cc m_R_firstShowing) 23 = .ok (.lcmp, 1) := by decide +kernel
theorem d_R_firstShowing_24 : decode (sk_cc m_R_firstShowing) 24 = .ok (.ifCond .ne 6, 3) := by decide +kernel
theorem d_R_firstShowing_27 : decode (sk_cc m_R_firstShowing) 27 = .ok (.iload 4, 2) := by decide +kernel
theorem d_R_firstShowing_29 : decode (sk_cc m_R_firstShowing) 29 = .ok (.ireturn, 1) := by decide +kernel
theorem d_R_firstShowing_30 : decode (sk_cc m_R_firstShowing) 30 = .ok (.iinc 4 1, 3) := by decide +kernel
theorem d_R_firstShowing_33 : decode (sk_cc m_R_firstShowing) 33 = .ok (.goto (-24), 3) := by decide +kernel
theorem d_R_firstShowing_36 : decode (sk_cc m_R_firstShowing) 36 = .ok (.iconst (-1), 1) := by decide +kernel
theorem d_R_firstShowing_37 : decode (sk_cc m_R_firstShowing) 37 = .ok (.ireturn, 1) := by decide +kernel
theorem d_R_vectorsShowing_0 : decode (sk_cc m_R_vectorsShowing) 0 = .ok (.aload_n 0, 1) := by decide +kernel
theorem d_R_vectorsShowing_1 : decode (sk_cc m_R_vectorsShowing) 1 = .ok (.getfield 15, 3) := by decide +kernel
theorem d_R_vectorsShowing_4 : decode (sk_cc m_R_vectorsShowing) 4 = .ok (.iload_n 1, 1) := by decide +kernel
theorem d_R_vectorsShowing_5 : decode (sk_cc m_R_vectorsShowing) 5 = .ok (.iconst 1, 1) := by decide +kernel
theorem d_R_vectorsShowing_6 : decode (sk_cc m_R_vectorsShowing) 6 = .ok (.iadd, 1) := by decide +kernel
theorem d_R_vectorsShowing_7 : decode (sk_cc m_R_vectorsShowing) 7 = .ok (.laload, 1) := by decide +kernel
theorem d_R_vectorsShowing_8 : decode (sk_cc m_R_vectorsShowing) 8 = .ok (.lreturn, 1) := by decide +kernel
theorem d_P_thinOut_0 : decode (sk_cc m_P_thinOut) 0 = .ok (.aload_n 0, 1) := by decide +kernel
theorem d_P_thinOut_1 : decode (sk_cc m_P_thinOut) 1 = .ok (.getfield 15, 3) := by decide +kernel
theorem d_P_thinOut_4 : decode (sk_cc m_P_thinOut) 4 = .ok (.iconst 1, 1) := by decide +kernel
theorem d_P_thinOut_5 : decode (sk_cc m_P_thinOut) 5 = .ok (.isub, 1) := by decide +kernel
theorem d_P_thinOut_6 : decode (sk_cc m_P_thinOut) 6 = .ok (.istore_n 1, 1) := by decide +kernel
theorem d_P_thinOut_7 : decode (sk_cc m_P_thinOut) 7 = .ok (.iload_n 1, 1) := by decide +kernel
theorem d_P_thinOut_8 : decode (sk_cc m_P_thinOut) 8 = .ok (.ifCond .lt 40, 3) := by decide +kernel
theorem d_P_thinOut_11 : decode (sk_cc m_P_thinOut) 11 = .ok (.aload_n 0, 1) := by decide +kernel
theorem d_P_thinOut_12 : decode (sk_cc m_P_thinOut) 12 = .ok (.getfield 19, 3) := by decide +kernel
theorem d_P_thinOut_15 : decode (sk_cc m_P_thinOut) 15 = .ok (.lconst 1, 1) := by decide +kernel
theorem d_P_thinOut_16 : decode (sk_cc m_P_thinOut) 16 = .ok (.aload_n 0, 1) := by decide +kernel
theorem d_P_thinOut_17 : decode (sk_cc m_P_thinOut) 17 = .ok (.getfield 9, 3) := by decide +kernel
theorem d_P_thinOut_20 : decode (sk_cc m_P_thinOut) 20 = .ok (.iload_n 1, 1) := by decide +kernel
theorem d_P_thinOut_21 : decode (sk_cc m_P_thinOut) 21 = .ok (.iaload, 1) := by decide +kernel
theorem d_P_thinOut_22 : decode (sk_cc m_P_thinOut) 22 = .ok (.lshl, 1) := by decide +kernel
theorem d_P_thinOut_23 : decode (sk_cc m_P_thinOut) 23 = .ok (.ldc2_w 60, 3) := by decide +kernel
theorem d_P_thinOut_26 : decode (sk_cc m_P_thinOut) 26 = .ok (.lxor, 1) := by decide +kernel
theorem d_P_thinOut_27 : decode (sk_cc m_P_thinOut) 27 = .ok (.land, 1) := by decide +kernel
theorem d_P_thinOut_28 : decode (sk_cc m_P_thinOut) 28 = .ok (.lstore_n 2, 1) := by decide +kernel
theorem d_P_thinOut_29 : decode (sk_cc m_P_thinOut) 29 = .ok (.aload_n 0, 1) := by decide +kernel
theorem d_P_thinOut_30 : decode (sk_cc m_P_thinOut) 30 = .ok (.lload_n 2, 1) := by decide +kernel
theorem d_P_thinOut_31 : decode (sk_cc m_P_thinOut) 31 = .ok (.invokevirtual 62, 3) := by decide +kernel
theorem d_P_thinOut_34 : decode (sk_cc m_P_thinOut) 34 = .ok (.ifCond .eq 8, 3) := by decide +kernel
theorem d_P_thinOut_37 : decode (sk_cc m_P_thinOut) 37 = .ok (.aload_n 0, 1) := by decide +kernel
theorem d_P_thinOut_38 : decode (sk_cc m_P_thinOut) 38 = .ok (.lload_n 2, 1) := by decide +kernel
theorem d_P_thinOut_39 : decode (sk_cc m_P_thinOut) 39 = .ok (.putfield 19, 3) := by decide +kernel
theorem d_P_thinOut_42 : decode (sk_cc m_P_thinOut) 42 = .ok (.iinc 1 (-1), 3) := by decide +kernel
theorem d_P_thinOut_45 : decode (sk_cc m_P_thinOut) 45 = .ok (.goto (-38), 3) := by decide +kernel
theorem d_P_thinOut_48 : decode (sk_cc m_P_thinOut) 48 = .ok (.return_, 1) := by decide +kernel
theorem d_P_showAll_0 : decode (sk_cc m_P_showAll) 0 = .ok (.iconst 0, 1) := by decide +kernel
theorem d_P_showAll_1 : decode (sk_cc m_P_showAll) 1 = .ok (.istore_n 3, 1) := by decide +kernel
theorem d_P_showAll_2 : decode (sk_cc m_P_showAll) 2 = .ok (.iload_n 3, 1) := by decide +kernel
theorem d_P_showAll_3 : decode (sk_cc m_P_showAll) 3 = .ok (.aload_n 0, 1) := by decide +kernel
theorem d_P_showAll_4 : decode (sk_cc m_P_showAll) 4 = .ok (.getfield 26, 3) := by decide +kernel
theorem d_P_showAll_7 : decode (sk_cc m_P_showAll) 7 = .ok (.invokevirtual 46, 3) := by decide +kernel
theorem d_P_showAll_10 : decode (sk_cc m_P_showAll) 10 = .ok (.if_icmp .ge 37, 3) := by decide +kernel
theorem d_P_showAll_13 : decode (sk_cc m_P_showAll) 13 = .ok (.aload_n 0, 1) := by decide +kernel
theorem d_P_showAll_14 : decode (sk_cc m_P_showAll) 14 = .ok (.getfield 30, 3) := by decide +kernel
theorem d_P_showAll_17 : decode (sk_cc m_P_showAll) 17 = .ok (.iload_n 3, 1) := by decide +kernel
theorem d_P_showAll_18 : decode (sk_cc m_P_showAll) 18 = .ok (.invokevirtual 56, 3) := by decide +kernel
theorem d_P_showAll_21 : decode (sk_cc m_P_showAll) 21 = .ok (.lstore 4, 2) := by decide +kernel
theorem d_P_showAll_23 : decode (sk_cc m_P_showAll) 23 = .ok (.lload 4, 2) := by decide +kernel
theorem d_P_showAll_25 : decode (sk_cc m_P_showAll) 25 = .ok (.lconst 0, 1) := by decide +kernel
theorem d_P_showAll_26 : decode (sk_cc m_P_showAll) 26 = .ok (.lcmp, 1) := by decide +kernel
theorem d_P_showAll_27 : decode (sk_cc m_P_showAll) 27 = .ok (.ifCond .eq 14, 3) := by decide +kernel
theorem d_P_showAll_30 : decode (sk_cc m_P_showAll) 30 = .ok (.lload 4, 2) := by decide +kernel
theorem d_P_showAll_32 : decode (sk_cc m_P_showAll) 32 = .ok (.lload_n 1, 1) := by decide +kernel
theorem d_P_showAll_33 : decode (sk_cc m_P_showAll) 33 = .ok (.land, 1) := by decide +kernel
theorem d_P_showAll_34 : decode (sk_cc m_P_showAll) 34 = .ok (.lconst 0, 1) := by decide +kernel
theorem d_P_showAll_35 : decode (sk_cc m_P_showAll) 35 = .ok (.lcmp, 1) := by decide +kernel
theorem d_P_showAll_36 : decode (sk_cc m_P_showAll) 36 = .ok (.ifCond .ne 5, 3) := by decide +kernel
theorem d_P_showAll_39 : decode (sk_cc m_P_showAll) 39 = .ok (.iconst 0, 1) := by decide +kernel
theorem d_P_showAll_40 : decode (sk_cc m_P_showAll) 40 = .ok (.ireturn, 1) := by decide +kernel
theorem d_P_showAll_41 : decode (sk_cc m_P_showAll) 41 = .ok (.iinc 3 1, 3) := by decide +kernel
theorem d_P_showAll_44 : decode (sk_cc m_P_showAll) 44 = .ok (.goto (-42), 3) := by decide +kernel
theorem d_P_showAll_47 : decode (sk_cc m_P_showAll) 47 = .ok (.iconst 1, 1) := by decide +kernel
theorem d_P_showAll_48 : decode (sk_cc m_P_showAll) 48 = .ok (.ireturn, 1) := by decide +kernel
theorem d_P_dropTheLeftOut_0 : decode (sk_cc m_P_dropTheLeftOut) 0 = .ok (.iconst 0, 1) := by decide +kernel
theorem d_P_dropTheLeftOut_1 : decode (sk_cc m_P_dropTheLeftOut) 1 = .ok (.istore_n 1, 1) := by decide +kernel
theorem d_P_dropTheLeftOut_2 : decode (sk_cc m_P_dropTheLeftOut) 2 = .ok (.iconst 0, 1) := by decide +kernel
theorem d_P_dropTheLeftOut_3 : decode (sk_cc m_P_dropTheLeftOut) 3 = .ok (.istore_n 2, 1) := by decide +kernel
theorem d_P_dropTheLeftOut_4 : decode (sk_cc m_P_dropTheLeftOut) 4 = .ok (.iload_n 2, 1) := by decide +kernel
theorem d_P_dropTheLeftOut_5 : decode (sk_cc m_P_dropTheLeftOut) 5 = .ok (.aload_n 0, 1) := by decide +kernel
theorem d_P_dropTheLeftOut_6 : decode (sk_cc m_P_dropTheLeftOut) 6 = .ok (.getfield 15, 3) := by decide +kernel
theorem d_P_dropTheLeftOut_9 : decode (sk_cc m_P_dropTheLeftOut) 9 = .ok (.if_icmp .ge 42, 3) := by decide +kernel
theorem d_P_dropTheLeftOut_12 : decode (sk_cc m_P_dropTheLeftOut) 12 = .ok (.aload_n 0, 1) := by decide +kernel
theorem d_P_dropTheLeftOut_13 : decode (sk_cc m_P_dropTheLeftOut) 13 = .ok (.getfield 19, 3) := by decide +kernel
theorem d_P_dropTheLeftOut_16 : decode (sk_cc m_P_dropTheLeftOut) 16 = .ok (.aload_n 0, 1) := by decide +kernel
theorem d_P_dropTheLeftOut_17 : decode (sk_cc m_P_dropTheLeftOut) 17 = .ok (.getfield 9, 3) := by decide +kernel
theorem d_P_dropTheLeftOut_20 : decode (sk_cc m_P_dropTheLeftOut) 20 = .ok (.iload_n 2, 1) := by decide +kernel
theorem d_P_dropTheLeftOut_21 : decode (sk_cc m_P_dropTheLeftOut) 21 = .ok (.iaload, 1) := by decide +kernel
theorem d_P_dropTheLeftOut_22 : decode (sk_cc m_P_dropTheLeftOut) 22 = .ok (.lushr, 1) := by decide +kernel
theorem d_P_dropTheLeftOut_23 : decode (sk_cc m_P_dropTheLeftOut) 23 = .ok (.lconst 1, 1) := by decide +kernel
theorem d_P_dropTheLeftOut_24 : decode (sk_cc m_P_dropTheLeftOut) 24 = .ok (.land, 1) := by decide +kernel
theorem d_P_dropTheLeftOut_25 : decode (sk_cc m_P_dropTheLeftOut) 25 = .ok (.lconst 1, 1) := by decide +kernel
theorem d_P_dropTheLeftOut_26 : decode (sk_cc m_P_dropTheLeftOut) 26 = .ok (.lcmp, 1) := by decide +kernel
theorem d_P_dropTheLeftOut_27 : decode (sk_cc m_P_dropTheLeftOut) 27 = .ok (.ifCond .ne 18, 3) := by decide +kernel
theorem d_P_dropTheLeftOut_30 : decode (sk_cc m_P_dropTheLeftOut) 30 = .ok (.aload_n 0, 1) := by decide +kernel
theorem d_P_dropTheLeftOut_31 : decode (sk_cc m_P_dropTheLeftOut) 31 = .ok (.getfield 9, 3) := by decide +kernel
theorem d_P_dropTheLeftOut_34 : decode (sk_cc m_P_dropTheLeftOut) 34 = .ok (.iload_n 1, 1) := by decide +kernel
theorem d_P_dropTheLeftOut_35 : decode (sk_cc m_P_dropTheLeftOut) 35 = .ok (.aload_n 0, 1) := by decide +kernel
theorem d_P_dropTheLeftOut_36 : decode (sk_cc m_P_dropTheLeftOut) 36 = .ok (.getfield 9, 3) := by decide +kernel
theorem d_P_dropTheLeftOut_39 : decode (sk_cc m_P_dropTheLeftOut) 39 = .ok (.iload_n 2, 1) := by decide +kernel
theorem d_P_dropTheLeftOut_40 : decode (sk_cc m_P_dropTheLeftOut) 40 = .ok (.iaload, 1) := by decide +kernel
theorem d_P_dropTheLeftOut_41 : decode (sk_cc m_P_dropTheLeftOut) 41 = .ok (.iastore, 1) := by decide +kernel
theorem d_P_dropTheLeftOut_42 : decode (sk_cc m_P_dropTheLeftOut) 42 = .ok (.iinc 1 1, 3) := by decide +kernel
theorem d_P_dropTheLeftOut_45 : decode (sk_cc m_P_dropTheLeftOut) 45 = .ok (.iinc 2 1, 3) := by decide +kernel
theorem d_P_dropTheLeftOut_48 : decode (sk_cc m_P_dropTheLeftOut) 48 = .ok (.goto (-44), 3) := by decide +kernel
theorem d_P_dropTheLeftOut_51 : decode (sk_cc m_P_dropTheLeftOut) 51 = .ok (.aload_n 0, 1) := by decide +kernel
theorem d_P_dropTheLeftOut_52 : decode (sk_cc m_P_dropTheLeftOut) 52 = .ok (.iload_n 1, 1) := by decide +kernel
theorem d_P_dropTheLeftOut_53 : decode (sk_cc m_P_dropTheLeftOut) 53 = .ok (.putfield 15, 3) := by decide +kernel
theorem d_P_dropTheLeftOut_56 : decode (sk_cc m_P_dropTheLeftOut) 56 = .ok (.return_, 1) := by decide +kernel
theorem d_X_forget_0 : decode (sk_cc m_X_forget) 0 = .ok (.aload_n 0, 1) := by decide +kernel
theorem d_X_forget_1 : decode (sk_cc m_X_forget) 1 = .ok (.getfield 53, 3) := by decide +kernel
theorem d_X_forget_4 : decode (sk_cc m_X_forget) 4 = .ok (.getfield 212, 3) := by decide +kernel
theorem d_X_forget_7 : decode (sk_cc m_X_forget) 7 = .ok (.istore_n 1, 1) := by decide +kernel
theorem d_X_forget_8 : decode (sk_cc m_X_forget) 8 = .ok (.aload_n 0, 1) := by decide +kernel
theorem d_X_forget_9 : decode (sk_cc m_X_forget) 9 = .ok (.getfield 53, 3) := by decide +kernel
theorem d_X_forget_12 : decode (sk_cc m_X_forget) 12 = .ok (.invokevirtual 60, 3) := by decide +kernel
theorem d_X_forget_15 : decode (sk_cc m_X_forget) 15 = .ok (.iload_n 1, 1) := by decide +kernel
theorem d_X_forget_16 : decode (sk_cc m_X_forget) 16 = .ok (.ireturn, 1) := by decide +kernel
theorem d_X_explains_0 : decode (sk_cc m_X_explains) 0 = .ok (.iload_n 1, 1) := by decide +kernel
theorem d_X_explains_1 : decode (sk_cc m_X_explains) 1 = .ok (.iconst (-1), 1) := by decide +kernel
theorem d_X_explains_2 : decode (sk_cc m_X_explains) 2 = .ok (.if_icmp .ne 28, 3) := by decide +kernel
theorem d_X_explains_5 : decode (sk_cc m_X_explains) 5 = .ok (.aload_n 0, 1) := by decide +kernel
theorem d_X_explains_6 : decode (sk_cc m_X_explains) 6 = .ok (.getfield 28, 3) := by decide +kernel
theorem d_X_explains_9 : decode (sk_cc m_X_explains) 9 = .ok (.iconst (-1), 1) := by decide +kernel
theorem d_X_explains_10 : decode (sk_cc m_X_explains) 10 = .ok (.invokevirtual 153, 3) := by decide +kernel
theorem d_X_explains_13 : decode (sk_cc m_X_explains) 13 = .ok (.aload_n 0, 1) := by decide +kernel
theorem d_X_explains_14 : decode (sk_cc m_X_explains) 14 = .ok (.getfield 53, 3) := by decide +kernel
theorem d_X_explains_17 : decode (sk_cc m_X_explains) 17 = .ok (.iconst (-1), 1) := by decide +kernel
theorem d_X_explains_18 : decode (sk_cc m_X_explains) 18 = .ok (.invokevirtual 220, 3) := by decide +kernel
theorem d_X_explains_21 : decode (sk_cc m_X_explains) 21 = .ok (.ifCond .eq 7, 3) := by decide +kernel
theorem d_X_explains_24 : decode (sk_cc m_X_explains) 24 = .ok (.iconst 1, 1) := by decide +kernel
theorem d_X_explains_25 : decode (sk_cc m_X_explains) 25 = .ok (.goto 4, 3) := by decide +kernel
theorem d_X_explains_28 : decode (sk_cc m_X_explains) 28 = .ok (.iconst 0, 1) := by decide +kernel
theorem d_X_explains_29 : decode (sk_cc m_X_explains) 29 = .ok (.ireturn, 1) := by decide +kernel
theorem d_X_explains_30 : decode (sk_cc m_X_explains) 30 = .ok (.aload_n 0, 1) := by decide +kernel
theorem d_X_explains_31 : decode (sk_cc m_X_explains) 31 = .ok (.getfield 28, 3) := by decide +kernel
theorem d_X_explains_34 : decode (sk_cc m_X_explains) 34 = .ok (.invokevirtual 129, 3) := by decide +kernel
theorem d_X_explains_37 : decode (sk_cc m_X_explains) 37 = .ok (.iconst 0, 1) := by decide +kernel
theorem d_X_explains_38 : decode (sk_cc m_X_explains) 38 = .ok (.istore_n 2, 1) := by decide +kernel
theorem d_X_explains_39 : decode (sk_cc m_X_explains) 39 = .ok (.iconst 0, 1) := by decide +kernel
theorem d_X_explains_40 : decode (sk_cc m_X_explains) 40 = .ok (.istore_n 3, 1) := by decide +kernel
theorem d_X_explains_41 : decode (sk_cc m_X_explains) 41 = .ok (.iload_n 3, 1) := by decide +kernel
theorem d_X_explains_42 : decode (sk_cc m_X_explains) 42 = .ok (.aload_n 0, 1) := by decide +kernel
theorem d_X_explains_43 : decode (sk_cc m_X_explains) 43 = .ok (.getfield 12, 3) := by decide +kernel
theorem d_X_explains_46 : decode (sk_cc m_X_explains) 46 = .ok (.invokevirtual 125, 3) := by decide +kernel
theorem d_X_explains_49 : decode (sk_cc m_X_explains) 49 = .ok (.if_icmp .ge 30, 3) := by decide +kernel
theorem d_X_explains_52 : decode (sk_cc m_X_explains) 52 = .ok (.aload_n 0, 1) := by decide +kernel
theorem d_X_explains_53 : decode (sk_cc m_X_explains) 53 = .ok (.getfield 53, 3) := by decide +kernel
theorem d_X_explains_56 : decode (sk_cc m_X_explains) 56 = .ok (.iload_n 3, 1) := by decide +kernel
theorem d_X_explains_57 : decode (sk_cc m_X_explains) 57 = .ok (.invokevirtual 220, 3) := by decide +kernel
theorem d_X_explains_60 : decode (sk_cc m_X_explains) 60 = .ok (.ifCond .eq 13, 3) := by decide +kernel
theorem d_X_explains_63 : decode (sk_cc m_X_explains) 63 = .ok (.iload_n 2, 1) := by decide +kernel
theorem d_X_explains_64 : decode (sk_cc m_X_explains) 64 = .ok (.iload_n 1, 1) := by decide +kernel
theorem d_X_explains_65 : decode (sk_cc m_X_explains) 65 = .ok (.if_icmp .ne 5, 3) := by decide +kernel
theorem d_X_explains_68 : decode (sk_cc m_X_explains) 68 = .ok (.iload_n 3, 1) := by decide +kernel
theorem d_X_explains_69 : decode (sk_cc m_X_explains) 69 = .ok (.ireturn, 1) := by decide +kernel
theorem d_X_explains_70 : decode (sk_cc m_X_explains) 70 = .ok (.iinc 2 1, 3) := by decide +kernel
theorem d_X_explains_73 : decode (sk_cc m_X_explains) 73 = .ok (.iinc 3 1, 3) := by decide +kernel
theorem d_X_explains_76 : decode (sk_cc m_X_explains) 76 = .ok (.goto (-35), 3) := by decide +kernel
theorem d_X_explains_79 : decode (sk_cc m_X_explains) 79 = .ok (.iconst (-1), 1) := by decide +kernel
theorem d_X_explains_80 : decode (sk_cc m_X_explains) 80 = .ok (.ireturn, 1) := by decide +kernel
theorem d_R_prepare_0 : decode (sk_cc m_R_prepare) 0 = .ok (.aload_n 0, 1) := by decide +kernel
theorem d_R_prepare_1 : decode (sk_cc m_R_prepare) 1 = .ok (.iconst (-1), 1) := by decide +kernel
theorem d_R_prepare_2 : decode (sk_cc m_R_prepare) 2 = .ok (.invokevirtual 41, 3) := by decide +kernel
theorem d_R_prepare_5 : decode (sk_cc m_R_prepare) 5 = .ok (.aload_n 0, 1) := by decide +kernel
theorem d_R_prepare_6 : decode (sk_cc m_R_prepare) 6 = .ok (.iload_n 1, 1) := by decide +kernel
theorem d_R_prepare_7 : decode (sk_cc m_R_prepare) 7 = .ok (.invokevirtual 41, 3) := by decide +kernel
theorem d_R_prepare_10 : decode (sk_cc m_R_prepare) 10 = .ok (.return_, 1) := by decide +kernel
theorem d_G_isExplainedBy_0 : decode (sk_cc m_G_isExplainedBy) 0 = .ok (.iconst 0, 1) := by decide +kernel
theorem d_G_isExplainedBy_1 : decode (sk_cc m_G_isExplainedBy) 1 = .ok (.istore_n 2, 1) := by decide +kernel
theorem d_G_isExplainedBy_2 : decode (sk_cc m_G_isExplainedBy) 2 = .ok (.iload_n 2, 1) := by decide +kernel
theorem d_G_isExplainedBy_3 : decode (sk_cc m_G_isExplainedBy) 3 = .ok (.aload_n 0, 1) := by decide +kernel
theorem d_G_isExplainedBy_4 : decode (sk_cc m_G_isExplainedBy) 4 = .ok (.getfield 18, 3) := by decide +kernel
theorem d_G_isExplainedBy_7 : decode (sk_cc m_G_isExplainedBy) 7 = .ok (.if_icmp .ge 34, 3) := by decide +kernel
theorem d_G_isExplainedBy_10 : decode (sk_cc m_G_isExplainedBy) 10 = .ok (.aload_n 0, 1) := by decide +kernel
theorem d_G_isExplainedBy_11 : decode (sk_cc m_G_isExplainedBy) 11 = .ok (.getfield 22, 3) := by decide +kernel
theorem d_G_isExplainedBy_14 : decode (sk_cc m_G_isExplainedBy) 14 = .ok (.aload_n 0, 1) := by decide +kernel
theorem d_G_isExplainedBy_15 : decode (sk_cc m_G_isExplainedBy) 15 = .ok (.getfield 9, 3) := by decide +kernel
theorem d_G_isExplainedBy_18 : decode (sk_cc m_G_isExplainedBy) 18 = .ok (.iload_n 2, 1) := by decide +kernel
theorem d_G_isExplainedBy_19 : decode (sk_cc m_G_isExplainedBy) 19 = .ok (.iaload, 1) := by decide +kernel
theorem d_G_isExplainedBy_20 : decode (sk_cc m_G_isExplainedBy) 20 = .ok (.iload_n 1, 1) := by decide +kernel
theorem d_G_isExplainedBy_21 : decode (sk_cc m_G_isExplainedBy) 21 = .ok (.invokevirtual 26, 3) := by decide +kernel
theorem d_G_isExplainedBy_24 : decode (sk_cc m_G_isExplainedBy) 24 = .ok (.aload_n 0, 1) := by decide +kernel
theorem d_G_isExplainedBy_25 : decode (sk_cc m_G_isExplainedBy) 25 = .ok (.getfield 15, 3) := by decide +kernel
theorem d_G_isExplainedBy_28 : decode (sk_cc m_G_isExplainedBy) 28 = .ok (.iload_n 2, 1) := by decide +kernel
theorem d_G_isExplainedBy_29 : decode (sk_cc m_G_isExplainedBy) 29 = .ok (.iaload, 1) := by decide +kernel
theorem d_G_isExplainedBy_30 : decode (sk_cc m_G_isExplainedBy) 30 = .ok (.if_icmp .eq 5, 3) := by decide +kernel
theorem d_G_isExplainedBy_33 : decode (sk_cc m_G_isExplainedBy) 33 = .ok (.iconst 0, 1) := by decide +kernel
theorem d_G_isExplainedBy_34 : decode (sk_cc m_G_isExplainedBy) 34 = .ok (.ireturn, 1) := by decide +kernel
theorem d_G_isExplainedBy_35 : decode (sk_cc m_G_isExplainedBy) 35 = .ok (.iinc 2 1, 3) := by decide +kernel
theorem d_G_isExplainedBy_38 : decode (sk_cc m_G_isExplainedBy) 38 = .ok (.goto (-36), 3) := by decide +kernel
theorem d_G_isExplainedBy_41 : decode (sk_cc m_G_isExplainedBy) 41 = .ok (.iconst 1, 1) := by decide +kernel
theorem d_G_isExplainedBy_42 : decode (sk_cc m_G_isExplainedBy) 42 = .ok (.ireturn, 1) := by decide +kernel
theorem d_R_to_0 : decode (sk_cc m_R_to) 0 = .ok (.iload_n 2, 1) := by decide +kernel
theorem d_R_to_1 : decode (sk_cc m_R_to) 1 = .ok (.iconst 1, 1) := by decide +kernel
theorem d_R_to_2 : decode (sk_cc m_R_to) 2 = .ok (.iadd, 1) := by decide +kernel
theorem d_R_to_3 : decode (sk_cc m_R_to) 3 = .ok (.bipush 12, 2) := by decide +kernel
theorem d_R_to_5 : decode (sk_cc m_R_to) 5 = .ok (.imul, 1) := by decide +kernel
theorem d_R_to_6 : decode (sk_cc m_R_to) 6 = .ok (.istore_n 3, 1) := by decide +kernel
theorem d_R_to_7 : decode (sk_cc m_R_to) 7 = .ok (.iconst 0, 1) := by decide +kernel
theorem d_R_to_8 : decode (sk_cc m_R_to) 8 = .ok (.istore 4, 2) := by decide +kernel
theorem d_R_to_10 : decode (sk_cc m_R_to) 10 = .ok (.iconst 0, 1) := by decide +kernel
theorem d_R_to_11 : decode (sk_cc m_R_to) 11 = .ok (.istore 5, 2) := by decide +kernel
theorem d_R_to_13 : decode (sk_cc m_R_to) 13 = .ok (.iload 5, 2) := by decide +kernel
theorem d_R_to_15 : decode (sk_cc m_R_to) 15 = .ok (.aload_n 0, 1) := by decide +kernel
theorem d_R_to_16 : decode (sk_cc m_R_to) 16 = .ok (.getfield 22, 3) := by decide +kernel
theorem d_R_to_19 : decode (sk_cc m_R_to) 19 = .ok (.getfield 57, 3) := by decide +kernel
theorem d_R_to_22 : decode (sk_cc m_R_to) 22 = .ok (.if_icmp .ge 31, 3) := by decide +kernel
theorem d_R_to_25 : decode (sk_cc m_R_to) 25 = .ok (.iload 4, 2) := by decide +kernel
theorem d_R_to_27 : decode (sk_cc m_R_to) 27 = .ok (.aload_n 0, 1) := by decide +kernel
theorem d_R_to_28 : decode (sk_cc m_R_to) 28 = .ok (.getfield 9, 3) := by decide +kernel
theorem d_R_to_31 : decode (sk_cc m_R_to) 31 = .ok (.iload_n 3, 1) := by decide +kernel
theorem d_R_to_32 : decode (sk_cc m_R_to) 32 = .ok (.iload 5, 2) := by decide +kernel
theorem d_R_to_34 : decode (sk_cc m_R_to) 34 = .ok (.iadd, 1) := by decide +kernel
theorem d_R_to_35 : decode (sk_cc m_R_to) 35 = .ok (.laload, 1) := by decide +kernel
theorem d_R_to_36 : decode (sk_cc m_R_to) 36 = .ok (.iload_n 1, 1) := by decide +kernel
theorem d_R_to_37 : decode (sk_cc m_R_to) 37 = .ok (.lushr, 1) := by decide +kernel
theorem d_R_to_38 : decode (sk_cc m_R_to) 38 = .ok (.lconst 1, 1) := by decide +kernel
theorem d_R_to_39 : decode (sk_cc m_R_to) 39 = .ok (.land, 1) := by decide +kernel
theorem d_R_to_40 : decode (sk_cc m_R_to) 40 = .ok (.l2i, 1) := by decide +kernel
theorem d_R_to_41 : decode (sk_cc m_R_to) 41 = .ok (.iload 5, 2) := by decide +kernel
theorem d_R_to_43 : decode (sk_cc m_R_to) 43 = .ok (.ishl, 1) := by decide +kernel
theorem d_R_to_44 : decode (sk_cc m_R_to) 44 = .ok (.ior, 1) := by decide +kernel
theorem d_R_to_45 : decode (sk_cc m_R_to) 45 = .ok (.istore 4, 2) := by decide +kernel
theorem d_R_to_47 : decode (sk_cc m_R_to) 47 = .ok (.iinc 5 1, 3) := by decide +kernel
theorem d_R_to_50 : decode (sk_cc m_R_to) 50 = .ok (.goto (-37), 3) := by decide +kernel
theorem d_R_to_53 : decode (sk_cc m_R_to) 53 = .ok (.iload 4, 2) := by decide +kernel
theorem d_R_to_55 : decode (sk_cc m_R_to) 55 = .ok (.ireturn, 1) := by decide +kernel
theorem d_L_source_0 : decode (sk_cc m_L_source) 0 = .ok (.aload_n 2, 1) := by decide +kernel
theorem d_L_source_1 : decode (sk_cc m_L_source) 1 = .ok (.iconst 0, 1) := by decide +kernel
theorem d_L_source_2 : decode (sk_cc m_L_source) 2 = .ok (.aload_n 0, 1) := by decide +kernel
theorem d_L_source_3 : decode (sk_cc m_L_source) 3 = .ok (.iload_n 1, 1) := by decide +kernel
theorem d_L_source_4 : decode (sk_cc m_L_source) 4 = .ok (.invokevirtual 7, 3) := by decide +kernel
theorem d_L_source_7 : decode (sk_cc m_L_source) 7 = .ok (.i2l, 1) := by decide +kernel
theorem d_L_source_8 : decode (sk_cc m_L_source) 8 = .ok (.lastore, 1) := by decide +kernel
theorem d_L_source_9 : decode (sk_cc m_L_source) 9 = .ok (.goto 6, 3) := by decide +kernel
theorem d_L_source_12 : decode (sk_cc m_L_source) 12 = .ok (.astore_n 3, 1) := by decide +kernel
theorem d_L_source_13 : decode (sk_cc m_L_source) 13 = .ok (.iconst 1, 1) := by decide +kernel
theorem d_L_source_14 : decode (sk_cc m_L_source) 14 = .ok (.ireturn, 1) := by decide +kernel
theorem d_L_source_15 : decode (sk_cc m_L_source) 15 = .ok (.iconst 0, 1) := by decide +kernel
theorem d_L_source_16 : decode (sk_cc m_L_source) 16 = .ok (.ireturn, 1) := by decide +kernel
theorem d_X_source_0 : decode (sk_cc m_X_source) 0 = .ok (.aload_n 0, 1) := by decide +kernel
theorem d_X_source_1 : decode (sk_cc m_X_source) 1 = .ok (.getfield 12, 3) := by decide +kernel
theorem d_X_source_4 : decode (sk_cc m_X_source) 4 = .ok (.getfield 61, 3) := by decide +kernel
theorem d_X_source_7 : decode (sk_cc m_X_source) 7 = .ok (.bipush 6, 2) := by decide +kernel
theorem d_X_source_9 : decode (sk_cc m_X_source) 9 = .ok (.if_icmp .ge 15, 3) := by decide +kernel
theorem d_X_source_12 : decode (sk_cc m_X_source) 12 = .ok (.aload_n 0, 1) := by decide +kernel
theorem d_X_source_13 : decode (sk_cc m_X_source) 13 = .ok (.getfield 12, 3) := by decide +kernel
theorem d_X_source_16 : decode (sk_cc m_X_source) 16 = .ok (.getfield 65, 3) := by decide +kernel
theorem d_X_source_19 : decode (sk_cc m_X_source) 19 = .ok (.bipush 26, 2) := by decide +kernel
theorem d_X_source_21 : decode (sk_cc m_X_source) 21 = .ok (.if_icmp .lt 13, 3) := by decide +kernel
theorem d_X_source_24 : decode (sk_cc m_X_source) 24 = .ok (.new 68, 3) := by decide +kernel
theorem d_X_source_27 : decode (sk_cc m_X_source) 27 = .ok (.dup, 1) := by decide +kernel
theorem d_X_source_28 : decode (sk_cc m_X_source) 28 = .ok (.ldc 70, 2) := by decide +kernel
theorem d_X_source_30 : decode (sk_cc m_X_source) 30 = .ok (.invokespecial 72, 3) := by decide +kernel
theorem d_X_source_33 : decode (sk_cc m_X_source) 33 = .ok (.athrow, 1) := by decide +kernel
theorem d_X_source_34 : decode (sk_cc m_X_source) 34 = .ok (.aload_n 0, 1) := by decide +kernel
theorem d_X_source_35 : decode (sk_cc m_X_source) 35 = .ok (.getfield 53, 3) := by decide +kernel
theorem d_X_source_38 : decode (sk_cc m_X_source) 38 = .ok (.invokevirtual 60, 3) := by decide +kernel
theorem d_X_source_41 : decode (sk_cc m_X_source) 41 = .ok (.aload_n 0, 1) := by decide +kernel
theorem d_X_source_42 : decode (sk_cc m_X_source) 42 = .ok (.getfield 12, 3) := by decide +kernel
theorem d_X_source_45 : decode (sk_cc m_X_source) 45 = .ok (.iload_n 1, 1) := by decide +kernel
theorem d_X_source_46 : decode (sk_cc m_X_source) 46 = .ok (.invokevirtual 75, 3) := by decide +kernel
theorem d_X_source_49 : decode (sk_cc m_X_source) 49 = .ok (.ireturn, 1) := by decide +kernel
theorem d_C_addSource_0 : decode (sk_cc m_C_addSource) 0 = .ok (.aload_n 0, 1) := by decide +kernel
theorem d_C_addSource_1 : decode (sk_cc m_C_addSource) 1 = .ok (.iconst (-1), 1) := by decide +kernel
theorem d_C_addSource_2 : decode (sk_cc m_C_addSource) 2 = .ok (.invokevirtual 59, 3) := by decide +kernel
theorem d_C_addSource_5 : decode (sk_cc m_C_addSource) 5 = .ok (.istore_n 2, 1) := by decide +kernel
theorem d_C_addSource_6 : decode (sk_cc m_C_addSource) 6 = .ok (.aload_n 0, 1) := by decide +kernel
theorem d_C_addSource_7 : decode (sk_cc m_C_addSource) 7 = .ok (.getfield 37, 3) := by decide +kernel
theorem d_C_addSource_10 : decode (sk_cc m_C_addSource) 10 = .ok (.iload_n 2, 1) := by decide +kernel
theorem d_C_addSource_11 : decode (sk_cc m_C_addSource) 11 = .ok (.iload_n 1, 1) := by decide +kernel
theorem d_C_addSource_12 : decode (sk_cc m_C_addSource) 12 = .ok (.bastore, 1) := by decide +kernel
theorem d_C_addSource_13 : decode (sk_cc m_C_addSource) 13 = .ok (.aload_n 0, 1) := by decide +kernel
theorem d_C_addSource_14 : decode (sk_cc m_C_addSource) 14 = .ok (.getfield 34, 3) := by decide +kernel
theorem d_C_addSource_17 : decode (sk_cc m_C_addSource) 17 = .ok (.iload_n 2, 1) := by decide +kernel
theorem d_C_addSource_18 : decode (sk_cc m_C_addSource) 18 = .ok (.aload_n 0, 1) := by decide +kernel
theorem d_C_addSource_19 : decode (sk_cc m_C_addSource) 19 = .ok (.getfield 18, 3) := by decide +kernel
theorem d_C_addSource_22 : decode (sk_cc m_C_addSource) 22 = .ok (.iastore, 1) := by decide +kernel
theorem d_C_addSource_23 : decode (sk_cc m_C_addSource) 23 = .ok (.aload_n 0, 1) := by decide +kernel
theorem d_C_addSource_24 : decode (sk_cc m_C_addSource) 24 = .ok (.dup, 1) := by decide +kernel
theorem d_C_addSource_25 : decode (sk_cc m_C_addSource) 25 = .ok (.getfield 18, 3) := by decide +kernel
theorem d_C_addSource_28 : decode (sk_cc m_C_addSource) 28 = .ok (.iconst 1, 1) := by decide +kernel
theorem d_C_addSource_29 : decode (sk_cc m_C_addSource) 29 = .ok (.iadd, 1) := by decide +kernel
theorem d_C_addSource_30 : decode (sk_cc m_C_addSource) 30 = .ok (.putfield 18, 3) := by decide +kernel
theorem d_C_addSource_33 : decode (sk_cc m_C_addSource) 33 = .ok (.iload_n 2, 1) := by decide +kernel
theorem d_C_addSource_34 : decode (sk_cc m_C_addSource) 34 = .ok (.ireturn, 1) := by decide +kernel
theorem d_C_addLine_0 : decode (sk_cc m_C_addLine) 0 = .ok (.aload_n 0, 1) := by decide +kernel
theorem d_C_addLine_1 : decode (sk_cc m_C_addLine) 1 = .ok (.getfield 15, 3) := by decide +kernel
theorem d_C_addLine_4 : decode (sk_cc m_C_addLine) 4 = .ok (.istore_n 2, 1) := by decide +kernel
theorem d_C_addLine_5 : decode (sk_cc m_C_addLine) 5 = .ok (.aload_n 0, 1) := by decide +kernel
theorem d_C_addLine_6 : decode (sk_cc m_C_addLine) 6 = .ok (.getfield 30, 3) := by decide +kernel
theorem d_C_addLine_9 : decode (sk_cc m_C_addLine) 9 = .ok (.iload_n 2, 1) := by decide +kernel
theorem d_C_addLine_10 : decode (sk_cc m_C_addLine) 10 = .ok (.iload_n 1, 1) := by decide +kernel
theorem d_C_addLine_11 : decode (sk_cc m_C_addLine) 11 = .ok (.iastore, 1) := by decide +kernel
theorem d_C_addLine_12 : decode (sk_cc m_C_addLine) 12 = .ok (.aload_n 0, 1) := by decide +kernel
theorem d_C_addLine_13 : decode (sk_cc m_C_addLine) 13 = .ok (.getfield 37, 3) := by decide +kernel
theorem d_C_addLine_16 : decode (sk_cc m_C_addLine) 16 = .ok (.iload_n 2, 1) := by decide +kernel
theorem d_C_addLine_17 : decode (sk_cc m_C_addLine) 17 = .ok (.iconst 0, 1) := by decide +kernel
theorem d_C_addLine_18 : decode (sk_cc m_C_addLine) 18 = .ok (.bastore, 1) := by decide +kernel
theorem d_C_addLine_19 : decode (sk_cc m_C_addLine) 19 = .ok (.aload_n 0, 1) := by decide +kernel
theorem d_C_addLine_20 : decode (sk_cc m_C_addLine) 20 = .ok (.getfield 34, 3) := by decide +kernel
theorem d_C_addLine_23 : decode (sk_cc m_C_addLine) 23 = .ok (.iload_n 2, 1) := by decide +kernel
theorem d_C_addLine_24 : decode (sk_cc m_C_addLine) 24 = .ok (.iconst (-1), 1) := by decide +kernel
theorem d_C_addLine_25 : decode (sk_cc m_C_addLine) 25 = .ok (.iastore, 1) := by decide +kernel
theorem d_C_addLine_26 : decode (sk_cc m_C_addLine) 26 = .ok (.aload_n 0, 1) := by decide +kernel
theorem d_C_addLine_27 : decode (sk_cc m_C_addLine) 27 = .ok (.getfield 53, 3) := by decide +kernel
theorem d_C_addLine_30 : decode (sk_cc m_C_addLine) 30 = .ok (.iload_n 2, 1) := by decide +kernel
theorem d_C_addLine_31 : decode (sk_cc m_C_addLine) 31 = .ok (.iconst (-1), 1) := by decide +kernel
theorem d_C_addLine_32 : decode (sk_cc m_C_addLine) 32 = .ok (.iastore, 1) := by decide +kernel
theorem d_C_addLine_33 : decode (sk_cc m_C_addLine) 33 = .ok (.aload_n 0, 1) := by decide +kernel
theorem d_C_addLine_34 : decode (sk_cc m_C_addLine) 34 = .ok (.getfield 41, 3) := by decide +kernel
theorem d_C_addLine_37 : decode (sk_cc m_C_addLine) 37 = .ok (.iload_n 2, 1) := by decide +kernel
theorem d_C_addLine_38 : decode (sk_cc m_C_addLine) 38 = .ok (.iconst 1, 1) := by decide +kernel
theorem d_C_addLine_39 : decode (sk_cc m_C_addLine) 39 = .ok (.iadd, 1) := by decide +kernel
theorem d_C_addLine_40 : decode (sk_cc m_C_addLine) 40 = .ok (.aload_n 0, 1) := by decide +kernel
theorem d_C_addLine_41 : decode (sk_cc m_C_addLine) 41 = .ok (.getfield 27, 3) := by decide +kernel
theorem d_C_addLine_44 : decode (sk_cc m_C_addLine) 44 = .ok (.iastore, 1) := by decide +kernel
theorem d_C_addLine_45 : decode (sk_cc m_C_addLine) 45 = .ok (.aload_n 0, 1) := by decide +kernel
theorem d_C_addLine_46 : decode (sk_cc m_C_addLine) 46 = .ok (.dup, 1) := by decide +kernel
theorem d_C_addLine_47 : decode (sk_cc m_C_addLine) 47 = .ok (.getfield 15, 3) := by decide +kernel
theorem d_C_addLine_50 : decode (sk_cc m_C_addLine) 50 = .ok (.iconst 1, 1) := by decide +kernel
theorem d_C_addLine_51 : decode (sk_cc m_C_addLine) 51 = .ok (.iadd, 1) := by decide +kernel
theorem d_C_addLine_52 : decode (sk_cc m_C_addLine) 52 = .ok (.putfield 15, 3) := by decide +kernel
theorem d_C_addLine_55 : decode (sk_cc m_C_addLine) 55 = .ok (.aload_n 0, 1) := by decide +kernel
theorem d_C_addLine_56 : decode (sk_cc m_C_addLine) 56 = .ok (.dup, 1) := by decide +kernel
theorem d_C_addLine_57 : decode (sk_cc m_C_addLine) 57 = .ok (.getfield 9, 3) := by decide +kernel
theorem d_C_addLine_60 : decode (sk_cc m_C_addLine) 60 = .ok (.iconst 1, 1) := by decide +kernel
theorem d_C_addLine_61 : decode (sk_cc m_C_addLine) 61 = .ok (.iadd, 1) := by decide +kernel
theorem d_C_addLine_62 : decode (sk_cc m_C_addLine) 62 = .ok (.putfield 9, 3) := by decide +kernel
theorem d_C_addLine_65 : decode (sk_cc m_C_addLine) 65 = .ok (.iload_n 2, 1) := by decide +kernel
theorem d_C_addLine_66 : decode (sk_cc m_C_addLine) 66 = .ok (.ireturn, 1) := by decide +kernel
theorem d_L_gate_0 : decode (sk_cc m_L_gate) 0 = .ok (.aload 5, 2) := by decide +kernel
theorem d_L_gate_2 : decode (sk_cc m_L_gate) 2 = .ok (.iconst 0, 1) := by decide +kernel
theorem d_L_gate_3 : decode (sk_cc m_L_gate) 3 = .ok (.aload_n 0, 1) := by decide +kernel
theorem d_L_gate_4 : decode (sk_cc m_L_gate) 4 = .ok (.iload_n 1, 1) := by decide +kernel
theorem d_L_gate_5 : decode (sk_cc m_L_gate) 5 = .ok (.iload_n 2, 1) := by decide +kernel
theorem d_L_gate_6 : decode (sk_cc m_L_gate) 6 = .ok (.iload_n 3, 1) := by decide +kernel
theorem d_L_gate_7 : decode (sk_cc m_L_gate) 7 = .ok (.iload 4, 2) := by decide +kernel
theorem d_L_gate_9 : decode (sk_cc m_L_gate) 9 = .ok (.invokevirtual 15, 3) := by decide +kernel
theorem d_L_gate_12 : decode (sk_cc m_L_gate) 12 = .ok (.i2l, 1) := by decide +kernel
theorem d_L_gate_13 : decode (sk_cc m_L_gate) 13 = .ok (.lastore, 1) := by decide +kernel
theorem d_L_gate_14 : decode (sk_cc m_L_gate) 14 = .ok (.goto 15, 3) := by decide +kernel
theorem d_L_gate_17 : decode (sk_cc m_L_gate) 17 = .ok (.astore 6, 2) := by decide +kernel
theorem d_L_gate_19 : decode (sk_cc m_L_gate) 19 = .ok (.iconst 1, 1) := by decide +kernel
theorem d_L_gate_20 : decode (sk_cc m_L_gate) 20 = .ok (.ireturn, 1) := by decide +kernel
theorem d_L_gate_21 : decode (sk_cc m_L_gate) 21 = .ok (.astore 6, 2) := by decide +kernel
theorem d_L_gate_23 : decode (sk_cc m_L_gate) 23 = .ok (.iconst 2, 1) := by decide +kernel
theorem d_L_gate_24 : decode (sk_cc m_L_gate) 24 = .ok (.ireturn, 1) := by decide +kernel
theorem d_L_gate_25 : decode (sk_cc m_L_gate) 25 = .ok (.astore 6, 2) := by decide +kernel
theorem d_L_gate_27 : decode (sk_cc m_L_gate) 27 = .ok (.iconst 3, 1) := by decide +kernel
theorem d_L_gate_28 : decode (sk_cc m_L_gate) 28 = .ok (.ireturn, 1) := by decide +kernel
theorem d_L_gate_29 : decode (sk_cc m_L_gate) 29 = .ok (.iconst 0, 1) := by decide +kernel
theorem d_L_gate_30 : decode (sk_cc m_L_gate) 30 = .ok (.ireturn, 1) := by decide +kernel
theorem d_X_gate_0 : decode (sk_cc m_X_gate) 0 = .ok (.iload_n 1, 1) := by decide +kernel
theorem d_X_gate_1 : decode (sk_cc m_X_gate) 1 = .ok (.ifCond .lt 9, 3) := by decide +kernel
theorem d_X_gate_4 : decode (sk_cc m_X_gate) 4 = .ok (.iload_n 1, 1) := by decide +kernel
theorem d_X_gate_5 : decode (sk_cc m_X_gate) 5 = .ok (.bipush 6, 2) := by decide +kernel
theorem d_X_gate_7 : decode (sk_cc m_X_gate) 7 = .ok (.if_icmp .lt 13, 3) := by decide +kernel
theorem d_X_gate_10 : decode (sk_cc m_X_gate) 10 = .ok (.new 79, 3) := by decide +kernel
theorem d_X_gate_13 : decode (sk_cc m_X_gate) 13 = .ok (.dup, 1) := by decide +kernel
theorem d_X_gate_14 : decode (sk_cc m_X_gate) 14 = .ok (.ldc 81, 2) := by decide +kernel
theorem d_X_gate_16 : decode (sk_cc m_X_gate) 16 = .ok (.invokespecial 83, 3) := by decide +kernel
theorem d_X_gate_19 : decode (sk_cc m_X_gate) 19 = .ok (.athrow, 1) := by decide +kernel
theorem d_X_gate_20 : decode (sk_cc m_X_gate) 20 = .ok (.iload_n 2, 1) := by decide +kernel
theorem d_X_gate_21 : decode (sk_cc m_X_gate) 21 = .ok (.iconst (-1), 1) := by decide +kernel
theorem d_X_gate_22 : decode (sk_cc m_X_gate) 22 = .ok (.if_icmp .eq 14, 3) := by decide +kernel
theorem d_X_gate_25 : decode (sk_cc m_X_gate) 25 = .ok (.iload_n 3, 1) := by decide +kernel
theorem d_X_gate_26 : decode (sk_cc m_X_gate) 26 = .ok (.iconst (-1), 1) := by decide +kernel
theorem d_X_gate_27 : decode (sk_cc m_X_gate) 27 = .ok (.if_icmp .ne 19, 3) := by decide +kernel
theorem d_X_gate_30 : decode (sk_cc m_X_gate) 30 = .ok (.iload 4, 2) := by decide +kernel
theorem d_X_gate_32 : decode (sk_cc m_X_gate) 32 = .ok (.iconst (-1), 1) := by decide +kernel
theorem d_X_gate_33 : decode (sk_cc m_X_gate) 33 = .ok (.if_icmp .eq 13, 3) := by decide +kernel
theorem d_X_gate_36 : decode (sk_cc m_X_gate) 36 = .ok (.new 79, 3) := by decide +kernel
theorem d_X_gate_39 : decode (sk_cc m_X_gate) 39 = .ok (.dup, 1) := by decide +kernel
theorem d_X_gate_40 : decode (sk_cc m_X_gate) 40 = .ok (.ldc 84, 2) := by decide +kernel
theorem d_X_gate_42 : decode (sk_cc m_X_gate) 42 = .ok (.invokespecial 83, 3) := by decide +kernel
theorem d_X_gate_45 : decode (sk_cc m_X_gate) 45 = .ok (.athrow, 1) := by decide +kernel
theorem d_X_gate_46 : decode (sk_cc m_X_gate) 46 = .ok (.aload_n 0, 1) := by decide +kernel
theorem d_X_gate_47 : decode (sk_cc m_X_gate) 47 = .ok (.iload_n 2, 1) := by decide +kernel
theorem d_X_gate_48 : decode (sk_cc m_X_gate) 48 = .ok (.invokevirtual 86, 3) := by decide +kernel
theorem d_X_gate_51 : decode (sk_cc m_X_gate) 51 = .ok (.aload_n 0, 1) := by decide +kernel
theorem d_X_gate_52 : decode (sk_cc m_X_gate) 52 = .ok (.iload_n 3, 1) := by decide +kernel
theorem d_X_gate_53 : decode (sk_cc m_X_gate) 53 = .ok (.invokevirtual 90, 3) := by decide +kernel
theorem d_X_gate_56 : decode (sk_cc m_X_gate) 56 = .ok (.aload_n 0, 1) := by decide +kernel
theorem d_X_gate_57 : decode (sk_cc m_X_gate) 57 = .ok (.iload 4, 2) := by decide +kernel
theorem d_X_gate_59 : decode (sk_cc m_X_gate) 59 = .ok (.invokevirtual 90, 3) := by decide +kernel
theorem d_X_gate_62 : decode (sk_cc m_X_gate) 62 = .ok (.aload_n 0, 1) := by decide +kernel
theorem d_X_gate_63 : decode (sk_cc m_X_gate) 63 = .ok (.getfield 12, 3) := by decide +kernel
theorem d_X_gate_66 : decode (sk_cc m_X_gate) 66 = .ok (.getfield 65, 3) := by decide +kernel
theorem d_X_gate_69 : decode (sk_cc m_X_gate) 69 = .ok (.bipush 26, 2) := by decide +kernel
theorem d_X_gate_71 : decode (sk_cc m_X_gate) 71 = .ok (.if_icmp .lt 13, 3) := by decide +kernel
theorem d_X_gate_74 : decode (sk_cc m_X_gate) 74 = .ok (.new 68, 3) := by decide +kernel
theorem d_X_gate_77 : decode (sk_cc m_X_gate) 77 = .ok (.dup, 1) := by decide +kernel
theorem d_X_gate_78 : decode (sk_cc m_X_gate) 78 = .ok (.ldc 93, 2) := by decide +kernel
theorem d_X_gate_80 : decode (sk_cc m_X_gate) 80 = .ok (.invokespecial 72, 3) := by decide +kernel
theorem d_X_gate_83 : decode (sk_cc m_X_gate) 83 = .ok (.athrow, 1) := by decide +kernel
theorem d_X_gate_84 : decode (sk_cc m_X_gate) 84 = .ok (.aload_n 0, 1) := by decide +kernel
theorem d_X_gate_85 : decode (sk_cc m_X_gate) 85 = .ok (.getfield 53, 3) := by decide +kernel
theorem d_X_gate_88 : decode (sk_cc m_X_gate) 88 = .ok (.invokevirtual 60, 3) := by decide +kernel
theorem d_X_gate_91 : decode (sk_cc m_X_gate) 91 = .ok (.aload_n 0, 1) := by decide +kernel
theorem d_X_gate_92 : decode (sk_cc m_X_gate) 92 = .ok (.getfield 12, 3) := by decide +kernel
theorem d_X_gate_95 : decode (sk_cc m_X_gate) 95 = .ok (.iload_n 1, 1) := by decide +kernel
theorem d_X_gate_96 : decode (sk_cc m_X_gate) 96 = .ok (.iload_n 2, 1) := by decide +kernel
theorem d_X_gate_97 : decode (sk_cc m_X_gate) 97 = .ok (.iload_n 3, 1) := by decide +kernel
theorem d_X_gate_98 : decode (sk_cc m_X_gate) 98 = .ok (.iload 4, 2) := by decide +kernel
theorem d_X_gate_100 : decode (sk_cc m_X_gate) 100 = .ok (.invokevirtual 95, 3) := by decide +kernel
theorem d_X_gate_103 : decode (sk_cc m_X_gate) 103 = .ok (.ireturn, 1) := by decide +kernel
theorem d_X_requireLine_0 : decode (sk_cc m_X_requireLine) 0 = .ok (.aload_n 0, 1) := by decide +kernel
theorem d_X_requireLine_1 : decode (sk_cc m_X_requireLine) 1 = .ok (.getfield 12, 3) := by decide +kernel
theorem d_X_requireLine_4 : decode (sk_cc m_X_requireLine) 4 = .ok (.iload_n 1, 1) := by decide +kernel
theorem d_X_requireLine_5 : decode (sk_cc m_X_requireLine) 5 = .ok (.invokevirtual 159, 3) := by decide +kernel
theorem d_X_requireLine_8 : decode (sk_cc m_X_requireLine) 8 = .ok (.ifCond .ne 13, 3) := by decide +kernel
theorem d_X_requireLine_11 : decode (sk_cc m_X_requireLine) 11 = .ok (.new 223, 3) := by decide +kernel
theorem d_X_requireLine_14 : decode (sk_cc m_X_requireLine) 14 = .ok (.dup, 1) := by decide +kernel
theorem d_X_requireLine_15 : decode (sk_cc m_X_requireLine) 15 = .ok (.ldc 225, 2) := by decide +kernel
theorem d_X_requireLine_17 : decode (sk_cc m_X_requireLine) 17 = .ok (.invokespecial 227, 3) := by decide +kernel
theorem d_X_requireLine_20 : decode (sk_cc m_X_requireLine) 20 = .ok (.athrow, 1) := by decide +kernel
theorem d_X_requireLine_21 : decode (sk_cc m_X_requireLine) 21 = .ok (.return_, 1) := by decide +kernel
theorem d_X_requireLineOrNone_0 : decode (sk_cc m_X_requireLineOrNone) 0 = .ok (.iload_n 1, 1) := by decide +kernel
theorem d_X_requireLineOrNone_1 : decode (sk_cc m_X_requireLineOrNone) 1 = .ok (.iconst (-1), 1) := by decide +kernel
theorem d_X_requireLineOrNone_2 : decode (sk_cc m_X_requireLineOrNone) 2 = .ok (.if_icmp .eq 8, 3) := by decide +kernel
theorem d_X_requireLineOrNone_5 : decode (sk_cc m_X_requireLineOrNone) 5 = .ok (.aload_n 0, 1) := by decide +kernel
theorem d_X_requireLineOrNone_6 : decode (sk_cc m_X_requireLineOrNone) 6 = .ok (.iload_n 1, 1) := by decide +kernel
theorem d_X_requireLineOrNone_7 : decode (sk_cc m_X_requireLineOrNone) 7 = .ok (.invokevirtual 86, 3) := by decide +kernel
theorem d_X_requireLineOrNone_10 : decode (sk_cc m_X_requireLineOrNone) 10 = .ok (.return_, 1) := by decide +kernel
theorem d_C_addGate_0 : decode (sk_cc m_C_addGate) 0 = .ok (.aload_n 0, 1) := by decide +kernel
theorem d_C_addGate_1 : decode (sk_cc m_C_addGate) 1 = .ok (.iload_n 1, 1) := by decide +kernel
theorem d_C_addGate_2 : decode (sk_cc m_C_addGate) 2 = .ok (.invokevirtual 59, 3) := by decide +kernel
theorem d_C_addGate_5 : decode (sk_cc m_C_addGate) 5 = .ok (.istore 5, 2) := by decide +kernel
theorem d_C_addGate_7 : decode (sk_cc m_C_addGate) 7 = .ok (.aload_n 0, 1) := by decide +kernel
theorem d_C_addGate_8 : decode (sk_cc m_C_addGate) 8 = .ok (.iload 5, 2) := by decide +kernel
theorem d_C_addGate_10 : decode (sk_cc m_C_addGate) 10 = .ok (.iload_n 2, 1) := by decide +kernel
theorem d_C_addGate_11 : decode (sk_cc m_C_addGate) 11 = .ok (.invokevirtual 63, 3) := by decide +kernel
theorem d_C_addGate_14 : decode (sk_cc m_C_addGate) 14 = .ok (.aload_n 0, 1) := by decide +kernel
theorem d_C_addGate_15 : decode (sk_cc m_C_addGate) 15 = .ok (.iload 5, 2) := by decide +kernel
theorem d_C_addGate_17 : decode (sk_cc m_C_addGate) 17 = .ok (.iload_n 3, 1) := by decide +kernel
theorem d_C_addGate_18 : decode (sk_cc m_C_addGate) 18 = .ok (.invokevirtual 63, 3) := by decide +kernel
theorem d_C_addGate_21 : decode (sk_cc m_C_addGate) 21 = .ok (.aload_n 0, 1) := by decide +kernel
theorem d_C_addGate_22 : decode (sk_cc m_C_addGate) 22 = .ok (.iload 5, 2) := by decide +kernel
theorem d_C_addGate_24 : decode (sk_cc m_C_addGate) 24 = .ok (.iload 4, 2) := by decide +kernel
theorem d_C_addGate_26 : decode (sk_cc m_C_addGate) 26 = .ok (.invokevirtual 63, 3) := by decide +kernel
theorem d_C_addGate_29 : decode (sk_cc m_C_addGate) 29 = .ok (.iload 5, 2) := by decide +kernel
theorem d_C_addGate_31 : decode (sk_cc m_C_addGate) 31 = .ok (.ireturn, 1) := by decide +kernel
theorem d_C_addPin_0 : decode (sk_cc m_C_addPin) 0 = .ok (.iload_n 2, 1) := by decide +kernel
theorem d_C_addPin_1 : decode (sk_cc m_C_addPin) 1 = .ok (.iconst (-1), 1) := by decide +kernel
theorem d_C_addPin_2 : decode (sk_cc m_C_addPin) 2 = .ok (.if_icmp .ne 4, 3) := by decide +kernel
theorem d_C_addPin_5 : decode (sk_cc m_C_addPin) 5 = .ok (.return_, 1) := by decide +kernel
theorem d_C_addPin_6 : decode (sk_cc m_C_addPin) 6 = .ok (.aload_n 0, 1) := by decide +kernel
theorem d_C_addPin_7 : decode (sk_cc m_C_addPin) 7 = .ok (.getfield 44, 3) := by decide +kernel
theorem d_C_addPin_10 : decode (sk_cc m_C_addPin) 10 = .ok (.aload_n 0, 1) := by decide +kernel
theorem d_C_addPin_11 : decode (sk_cc m_C_addPin) 11 = .ok (.getfield 27, 3) := by decide +kernel
theorem d_C_addPin_14 : decode (sk_cc m_C_addPin) 14 = .ok (.iload_n 2, 1) := by decide +kernel
theorem d_C_addPin_15 : decode (sk_cc m_C_addPin) 15 = .ok (.iastore, 1) := by decide +kernel
theorem d_C_addPin_16 : decode (sk_cc m_C_addPin) 16 = .ok (.aload_n 0, 1) := by decide +kernel
theorem d_C_addPin_17 : decode (sk_cc m_C_addPin) 17 = .ok (.getfield 47, 3) := by decide +kernel
theorem d_C_addPin_20 : decode (sk_cc m_C_addPin) 20 = .ok (.aload_n 0, 1) := by decide +kernel
theorem d_C_addPin_21 : decode (sk_cc m_C_addPin) 21 = .ok (.getfield 27, 3) := by decide +kernel
theorem d_C_addPin_24 : decode (sk_cc m_C_addPin) 24 = .ok (.iload_n 1, 1) := by decide +kernel
theorem d_C_addPin_25 : decode (sk_cc m_C_addPin) 25 = .ok (.iastore, 1) := by decide +kernel
theorem d_C_addPin_26 : decode (sk_cc m_C_addPin) 26 = .ok (.aload_n 0, 1) := by decide +kernel
theorem d_C_addPin_27 : decode (sk_cc m_C_addPin) 27 = .ok (.dup, 1) := by decide +kernel
theorem d_C_addPin_28 : decode (sk_cc m_C_addPin) 28 = .ok (.getfield 27, 3) := by decide +kernel
theorem d_C_addPin_31 : decode (sk_cc m_C_addPin) 31 = .ok (.iconst 1, 1) := by decide +kernel
theorem d_C_addPin_32 : decode (sk_cc m_C_addPin) 32 = .ok (.iadd, 1) := by decide +kernel
theorem d_C_addPin_33 : decode (sk_cc m_C_addPin) 33 = .ok (.putfield 27, 3) := by decide +kernel
theorem d_C_addPin_36 : decode (sk_cc m_C_addPin) 36 = .ok (.aload_n 0, 1) := by decide +kernel
theorem d_C_addPin_37 : decode (sk_cc m_C_addPin) 37 = .ok (.getfield 41, 3) := by decide +kernel
theorem d_C_addPin_40 : decode (sk_cc m_C_addPin) 40 = .ok (.iload_n 1, 1) := by decide +kernel
theorem d_C_addPin_41 : decode (sk_cc m_C_addPin) 41 = .ok (.iconst 1, 1) := by decide +kernel
theorem d_C_addPin_42 : decode (sk_cc m_C_addPin) 42 = .ok (.iadd, 1) := by decide +kernel
theorem d_C_addPin_43 : decode (sk_cc m_C_addPin) 43 = .ok (.aload_n 0, 1) := by decide +kernel
theorem d_C_addPin_44 : decode (sk_cc m_C_addPin) 44 = .ok (.getfield 27, 3) := by decide +kernel
theorem d_C_addPin_47 : decode (sk_cc m_C_addPin) 47 = .ok (.iastore, 1) := by decide +kernel
theorem d_C_addPin_48 : decode (sk_cc m_C_addPin) 48 = .ok (.return_, 1) := by decide +kernel
theorem d_L_output_0 : decode (sk_cc m_L_output) 0 = .ok (.aload_n 2, 1) := by decide +kernel
theorem d_L_output_1 : decode (sk_cc m_L_output) 1 = .ok (.iconst 0, 1) := by decide +kernel
theorem d_L_output_2 : decode (sk_cc m_L_output) 2 = .ok (.aload_n 0, 1) := by decide +kernel
theorem d_L_output_3 : decode (sk_cc m_L_output) 3 = .ok (.iload_n 1, 1) := by decide +kernel
theorem d_L_output_4 : decode (sk_cc m_L_output) 4 = .ok (.invokevirtual 23, 3) := by decide +kernel
theorem d_L_output_7 : decode (sk_cc m_L_output) 7 = .ok (.i2l, 1) := by decide +kernel
theorem d_L_output_8 : decode (sk_cc m_L_output) 8 = .ok (.lastore, 1) := by decide +kernel
theorem d_L_output_9 : decode (sk_cc m_L_output) 9 = .ok (.goto 9, 3) := by decide +kernel
theorem d_L_output_12 : decode (sk_cc m_L_output) 12 = .ok (.astore_n 3, 1) := by decide +kernel
theorem d_L_output_13 : decode (sk_cc m_L_output) 13 = .ok (.iconst 1, 1) := by decide +kernel
theorem d_L_output_14 : decode (sk_cc m_L_output) 14 = .ok (.ireturn, 1) := by decide +kernel
theorem d_L_output_15 : decode (sk_cc m_L_output) 15 = .ok (.astore_n 3, 1) := by decide +kernel
theorem d_L_output_16 : decode (sk_cc m_L_output) 16 = .ok (.iconst 2, 1) := by decide +kernel
theorem d_L_output_17 : decode (sk_cc m_L_output) 17 = .ok (.ireturn, 1) := by decide +kernel
theorem d_L_output_18 : decode (sk_cc m_L_output) 18 = .ok (.iconst 0, 1) := by decide +kernel
theorem d_L_output_19 : decode (sk_cc m_L_output) 19 = .ok (.ireturn, 1) := by decide +kernel
theorem d_X_output_0 : decode (sk_cc m_X_output) 0 = .ok (.aload_n 0, 1) := by decide +kernel
theorem d_X_output_1 : decode (sk_cc m_X_output) 1 = .ok (.iload_n 1, 1) := by decide +kernel
theorem d_X_output_2 : decode (sk_cc m_X_output) 2 = .ok (.invokevirtual 86, 3) := by decide +kernel
theorem d_X_output_5 : decode (sk_cc m_X_output) 5 = .ok (.aload_n 0, 1) := by decide +kernel
theorem d_X_output_6 : decode (sk_cc m_X_output) 6 = .ok (.getfield 12, 3) := by decide +kernel
theorem d_X_output_9 : decode (sk_cc m_X_output) 9 = .ok (.iload_n 1, 1) := by decide +kernel
theorem d_X_output_10 : decode (sk_cc m_X_output) 10 = .ok (.invokevirtual 99, 3) := by decide +kernel
theorem d_X_output_13 : decode (sk_cc m_X_output) 13 = .ok (.ifCond .ne 15, 3) := by decide +kernel
theorem d_X_output_16 : decode (sk_cc m_X_output) 16 = .ok (.aload_n 0, 1) := by decide +kernel
theorem d_X_output_17 : decode (sk_cc m_X_output) 17 = .ok (.getfield 12, 3) := by decide +kernel
theorem d_X_output_20 : decode (sk_cc m_X_output) 20 = .ok (.getfield 103, 3) := by decide +kernel
theorem d_X_output_23 : decode (sk_cc m_X_output) 23 = .ok (.bipush 6, 2) := by decide +kernel
theorem d_X_output_25 : decode (sk_cc m_X_output) 25 = .ok (.if_icmp .lt 13, 3) := by decide +kernel
theorem d_X_output_28 : decode (sk_cc m_X_output) 28 = .ok (.new 68, 3) := by decide +kernel
theorem d_X_output_31 : decode (sk_cc m_X_output) 31 = .ok (.dup, 1) := by decide +kernel
theorem d_X_output_32 : decode (sk_cc m_X_output) 32 = .ok (.ldc 106, 2) := by decide +kernel
theorem d_X_output_34 : decode (sk_cc m_X_output) 34 = .ok (.invokespecial 72, 3) := by decide +kernel
theorem d_X_output_37 : decode (sk_cc m_X_output) 37 = .ok (.athrow, 1) := by decide +kernel
theorem d_X_output_38 : decode (sk_cc m_X_output) 38 = .ok (.aload_n 0, 1) := by decide +kernel
theorem d_X_output_39 : decode (sk_cc m_X_output) 39 = .ok (.getfield 53, 3) := by decide +kernel
theorem d_X_output_42 : decode (sk_cc m_X_output) 42 = .ok (.invokevirtual 60, 3) := by decide +kernel
theorem d_X_output_45 : decode (sk_cc m_X_output) 45 = .ok (.aload_n 0, 1) := by decide +kernel
theorem d_X_output_46 : decode (sk_cc m_X_output) 46 = .ok (.getfield 12, 3) := by decide +kernel
theorem d_X_output_49 : decode (sk_cc m_X_output) 49 = .ok (.iload_n 1, 1) := by decide +kernel
theorem d_X_output_50 : decode (sk_cc m_X_output) 50 = .ok (.invokevirtual 108, 3) := by decide +kernel
theorem d_X_output_53 : decode (sk_cc m_X_output) 53 = .ok (.ireturn, 1) := by decide +kernel
theorem d_C_isOutput_0 : decode (sk_cc m_C_isOutput) 0 = .ok (.iconst 0, 1) := by decide +kernel
theorem d_C_isOutput_1 : decode (sk_cc m_C_isOutput) 1 = .ok (.istore_n 2, 1) := by decide +kernel
theorem d_C_isOutput_2 : decode (sk_cc m_C_isOutput) 2 = .ok (.iload_n 2, 1) := by decide +kernel
theorem d_C_isOutput_3 : decode (sk_cc m_C_isOutput) 3 = .ok (.aload_n 0, 1) := by decide +kernel
theorem d_C_isOutput_4 : decode (sk_cc m_C_isOutput) 4 = .ok (.getfield 21, 3) := by decide +kernel
theorem d_C_isOutput_7 : decode (sk_cc m_C_isOutput) 7 = .ok (.if_icmp .ge 21, 3) := by decide +kernel
theorem d_C_isOutput_10 : decode (sk_cc m_C_isOutput) 10 = .ok (.aload_n 0, 1) := by decide +kernel
theorem d_C_isOutput_11 : decode (sk_cc m_C_isOutput) 11 = .ok (.getfield 56, 3) := by decide +kernel
theorem d_C_isOutput_14 : decode (sk_cc m_C_isOutput) 14 = .ok (.iload_n 2, 1) := by decide +kernel
theorem d_C_isOutput_15 : decode (sk_cc m_C_isOutput) 15 = .ok (.iaload, 1) := by decide +kernel
theorem d_C_isOutput_16 : decode (sk_cc m_C_isOutput) 16 = .ok (.iload_n 1, 1) := by decide +kernel
theorem d_C_isOutput_17 : decode (sk_cc m_C_isOutput) 17 = .ok (.if_icmp .ne 5, 3) := by decide +kernel
theorem d_C_isOutput_20 : decode (sk_cc m_C_isOutput) 20 = .ok (.iconst 1, 1) := by decide +kernel
theorem d_C_isOutput_21 : decode (sk_cc m_C_isOutput) 21 = .ok (.ireturn, 1) := by decide +kernel
theorem d_C_isOutput_22 : decode (sk_cc m_C_isOutput) 22 = .ok (.iinc 2 1, 3) := by decide +kernel
theorem d_C_isOutput_25 : decode (sk_cc m_C_isOutput) 25 = .ok (.goto (-23), 3) := by decide +kernel
theorem d_C_isOutput_28 : decode (sk_cc m_C_isOutput) 28 = .ok (.iconst 0, 1) := by decide +kernel
theorem d_C_isOutput_29 : decode (sk_cc m_C_isOutput) 29 = .ok (.ireturn, 1) := by decide +kernel
theorem d_C_addOutput_0 : decode (sk_cc m_C_addOutput) 0 = .ok (.aload_n 0, 1) := by decide +kernel
theorem d_C_addOutput_1 : decode (sk_cc m_C_addOutput) 1 = .ok (.getfield 56, 3) := by decide +kernel
theorem d_C_addOutput_4 : decode (sk_cc m_C_addOutput) 4 = .ok (.aload_n 0, 1) := by decide +kernel
theorem d_C_addOutput_5 : decode (sk_cc m_C_addOutput) 5 = .ok (.getfield 21, 3) := by decide +kernel
theorem d_C_addOutput_8 : decode (sk_cc m_C_addOutput) 8 = .ok (.iload_n 1, 1) := by decide +kernel
theorem d_C_addOutput_9 : decode (sk_cc m_C_addOutput) 9 = .ok (.iastore, 1) := by decide +kernel
theorem d_C_addOutput_10 : decode (sk_cc m_C_addOutput) 10 = .ok (.aload_n 0, 1) := by decide +kernel
theorem d_C_addOutput_11 : decode (sk_cc m_C_addOutput) 11 = .ok (.dup, 1) := by decide +kernel
theorem d_C_addOutput_12 : decode (sk_cc m_C_addOutput) 12 = .ok (.getfield 21, 3) := by decide +kernel
theorem d_C_addOutput_15 : decode (sk_cc m_C_addOutput) 15 = .ok (.iconst 1, 1) := by decide +kernel
theorem d_C_addOutput_16 : decode (sk_cc m_C_addOutput) 16 = .ok (.iadd, 1) := by decide +kernel
theorem d_C_addOutput_17 : decode (sk_cc m_C_addOutput) 17 = .ok (.putfield 21, 3) := by decide +kernel
theorem d_C_addOutput_20 : decode (sk_cc m_C_addOutput) 20 = .ok (.aload_n 0, 1) := by decide +kernel
theorem d_C_addOutput_21 : decode (sk_cc m_C_addOutput) 21 = .ok (.invokevirtual 67, 3) := by decide +kernel
theorem d_C_addOutput_24 : decode (sk_cc m_C_addOutput) 24 = .ok (.aload_n 0, 1) := by decide +kernel
theorem d_C_addOutput_25 : decode (sk_cc m_C_addOutput) 25 = .ok (.getfield 21, 3) := by decide +kernel
theorem d_C_addOutput_28 : decode (sk_cc m_C_addOutput) 28 = .ok (.ireturn, 1) := by decide +kernel
theorem d_C_gatherObserved_0 : decode (sk_cc m_C_gatherObserved) 0 = .ok (.aload_n 0, 1) := by decide +kernel
theorem d_C_gatherObserved_1 : decode (sk_cc m_C_gatherObserved) 1 = .ok (.iconst 0, 1) := by decide +kernel
theorem d_C_gatherObserved_2 : decode (sk_cc m_C_gatherObserved) 2 = .ok (.putfield 24, 3) := by decide +kernel
theorem d_C_gatherObserved_5 : decode (sk_cc m_C_gatherObserved) 5 = .ok (.iconst 0, 1) := by decide +kernel
theorem d_C_gatherObserved_6 : decode (sk_cc m_C_gatherObserved) 6 = .ok (.istore_n 1, 1) := by decide +kernel
theorem d_C_gatherObserved_7 : decode (sk_cc m_C_gatherObserved) 7 = .ok (.iload_n 1, 1) := by decide +kernel
theorem d_C_gatherObserved_8 : decode (sk_cc m_C_gatherObserved) 8 = .ok (.aload_n 0, 1) := by decide +kernel
theorem d_C_gatherObserved_9 : decode (sk_cc m_C_gatherObserved) 9 = .ok (.getfield 21, 3) := by decide +kernel
theorem d_C_gatherObserved_12 : decode (sk_cc m_C_gatherObserved) 12 = .ok (.if_icmp .ge 19, 3) := by decide +kernel
theorem d_C_gatherObserved_15 : decode (sk_cc m_C_gatherObserved) 15 = .ok (.aload_n 0, 1) := by decide +kernel
theorem d_C_gatherObserved_16 : decode (sk_cc m_C_gatherObserved) 16 = .ok (.aload_n 0, 1) := by decide +kernel
theorem d_C_gatherObserved_17 : decode (sk_cc m_C_gatherObserved) 17 = .ok (.getfield 56, 3) := by decide +kernel
theorem d_C_gatherObserved_20 : decode (sk_cc m_C_gatherObserved) 20 = .ok (.iload_n 1, 1) := by decide +kernel
theorem d_C_gatherObserved_21 : decode (sk_cc m_C_gatherObserved) 21 = .ok (.iaload, 1) := by decide +kernel
theorem d_C_gatherObserved_22 : decode (sk_cc m_C_gatherObserved) 22 = .ok (.invokevirtual 70, 3) := by decide +kernel
theorem d_C_gatherObserved_25 : decode (sk_cc m_C_gatherObserved) 25 = .ok (.iinc 1 1, 3) := by decide +kernel
theorem d_C_gatherObserved_28 : decode (sk_cc m_C_gatherObserved) 28 = .ok (.goto (-21), 3) := by decide +kernel
theorem d_C_gatherObserved_31 : decode (sk_cc m_C_gatherObserved) 31 = .ok (.iconst 0, 1) := by decide +kernel
theorem d_C_gatherObserved_32 : decode (sk_cc m_C_gatherObserved) 32 = .ok (.istore_n 1, 1) := by decide +kernel
theorem d_C_gatherObserved_33 : decode (sk_cc m_C_gatherObserved) 33 = .ok (.iload_n 1, 1) := by decide +kernel
theorem d_C_gatherObserved_34 : decode (sk_cc m_C_gatherObserved) 34 = .ok (.aload_n 0, 1) := by decide +kernel
theorem d_C_gatherObserved_35 : decode (sk_cc m_C_gatherObserved) 35 = .ok (.getfield 15, 3) := by decide +kernel
theorem d_C_gatherObserved_38 : decode (sk_cc m_C_gatherObserved) 38 = .ok (.if_icmp .ge 19, 3) := by decide +kernel
theorem d_C_gatherObserved_41 : decode (sk_cc m_C_gatherObserved) 41 = .ok (.aload_n 0, 1) := by decide +kernel
theorem d_C_gatherObserved_42 : decode (sk_cc m_C_gatherObserved) 42 = .ok (.aload_n 0, 1) := by decide +kernel
theorem d_C_gatherObserved_43 : decode (sk_cc m_C_gatherObserved) 43 = .ok (.getfield 53, 3) := by decide +kernel
theorem d_C_gatherObserved_46 : decode (sk_cc m_C_gatherObserved) 46 = .ok (.iload_n 1, 1) := by decide +kernel
theorem d_C_gatherObserved_47 : decode (sk_cc m_C_gatherObserved) 47 = .ok (.iaload, 1) := by decide +kernel
theorem d_C_gatherObserved_48 : decode (sk_cc m_C_gatherObserved) 48 = .ok (.invokevirtual 70, 3) := by decide +kernel
theorem d_C_gatherObserved_51 : decode (sk_cc m_C_gatherObserved) 51 = .ok (.iinc 1 1, 3) := by decide +kernel
theorem d_C_gatherObserved_54 : decode (sk_cc m_C_gatherObserved) 54 = .ok (.goto (-21), 3) := by decide +kernel
theorem d_C_gatherObserved_57 : decode (sk_cc m_C_gatherObserved) 57 = .ok (.aload_n 0, 1) := by decide +kernel
theorem d_C_gatherObserved_58 : decode (sk_cc m_C_gatherObserved) 58 = .ok (.dup, 1) := by decide +kernel
theorem d_C_gatherObserved_59 : decode (sk_cc m_C_gatherObserved) 59 = .ok (.getfield 9, 3) := by decide +kernel
theorem d_C_gatherObserved_62 : decode (sk_cc m_C_gatherObserved) 62 = .ok (.iconst 1, 1) := by decide +kernel
theorem d_C_gatherObserved_63 : decode (sk_cc m_C_gatherObserved) 63 = .ok (.iadd, 1) := by decide +kernel
theorem d_C_gatherObserved_64 : decode (sk_cc m_C_gatherObserved) 64 = .ok (.putfield 9, 3) := by decide +kernel
theorem d_C_gatherObserved_67 : decode (sk_cc m_C_gatherObserved) 67 = .ok (.return_, 1) := by decide +kernel
theorem d_C_observe_0 : decode (sk_cc m_C_observe) 0 = .ok (.iload_n 1, 1) := by decide +kernel
theorem d_C_observe_1 : decode (sk_cc m_C_observe) 1 = .ok (.iconst (-1), 1) := by decide +kernel
theorem d_C_observe_2 : decode (sk_cc m_C_observe) 2 = .ok (.if_icmp .eq 23, 3) := by decide +kernel
theorem d_C_observe_5 : decode (sk_cc m_C_observe) 5 = .ok (.aload_n 0, 1) := by decide +kernel
theorem d_C_observe_6 : decode (sk_cc m_C_observe) 6 = .ok (.getfield 50, 3) := by decide +kernel
theorem d_C_observe_9 : decode (sk_cc m_C_observe) 9 = .ok (.aload_n 0, 1) := by decide +kernel
theorem d_C_observe_10 : decode (sk_cc m_C_observe) 10 = .ok (.getfield 24, 3) := by decide +kernel
theorem d_C_observe_13 : decode (sk_cc m_C_observe) 13 = .ok (.iload_n 1, 1) := by decide +kernel
theorem d_C_observe_14 : decode (sk_cc m_C_observe) 14 = .ok (.iastore, 1) := by decide +kernel
theorem d_C_observe_15 : decode (sk_cc m_C_observe) 15 = .ok (.aload_n 0, 1) := by decide +kernel
theorem d_C_observe_16 : decode (sk_cc m_C_observe) 16 = .ok (.dup, 1) := by decide +kernel
theorem d_C_observe_17 : decode (sk_cc m_C_observe) 17 = .ok (.getfield 24, 3) := by decide +kernel
theorem d_C_observe_20 : decode (sk_cc m_C_observe) 20 = .ok (.iconst 1, 1) := by decide +kernel
theorem d_C_observe_21 : decode (sk_cc m_C_observe) 21 = .ok (.iadd, 1) := by decide +kernel
theorem d_C_observe_22 : decode (sk_cc m_C_observe) 22 = .ok (.putfield 24, 3) := by decide +kernel
theorem d_C_observe_25 : decode (sk_cc m_C_observe) 25 = .ok (.return_, 1) := by decide +kernel
theorem d_L_data_0 : decode (sk_cc m_L_data) 0 = .ok (.aload_n 0, 1) := by decide +kernel
theorem d_L_data_1 : decode (sk_cc m_L_data) 1 = .ok (.iload_n 1, 1) := by decide +kernel
theorem d_L_data_2 : decode (sk_cc m_L_data) 2 = .ok (.iload_n 2, 1) := by decide +kernel
theorem d_L_data_3 : decode (sk_cc m_L_data) 3 = .ok (.invokevirtual 27, 3) := by decide +kernel
theorem d_L_data_6 : decode (sk_cc m_L_data) 6 = .ok (.goto 9, 3) := by decide +kernel
theorem d_L_data_9 : decode (sk_cc m_L_data) 9 = .ok (.astore_n 3, 1) := by decide +kernel
theorem d_L_data_10 : decode (sk_cc m_L_data) 10 = .ok (.iconst 1, 1) := by decide +kernel
theorem d_L_data_11 : decode (sk_cc m_L_data) 11 = .ok (.ireturn, 1) := by decide +kernel
theorem d_L_data_12 : decode (sk_cc m_L_data) 12 = .ok (.astore_n 3, 1) := by decide +kernel
theorem d_L_data_13 : decode (sk_cc m_L_data) 13 = .ok (.iconst 2, 1) := by decide +kernel
theorem d_L_data_14 : decode (sk_cc m_L_data) 14 = .ok (.ireturn, 1) := by decide +kernel
theorem d_L_data_15 : decode (sk_cc m_L_data) 15 = .ok (.iconst 0, 1) := by decide +kernel
theorem d_L_data_16 : decode (sk_cc m_L_data) 16 = .ok (.ireturn, 1) := by decide +kernel
theorem d_X_data_0 : decode (sk_cc m_X_data) 0 = .ok (.aload_n 0, 1) := by decide +kernel
theorem d_X_data_1 : decode (sk_cc m_X_data) 1 = .ok (.iload_n 1, 1) := by decide +kernel
theorem d_X_data_2 : decode (sk_cc m_X_data) 2 = .ok (.invokevirtual 86, 3) := by decide +kernel
theorem d_X_data_5 : decode (sk_cc m_X_data) 5 = .ok (.aload_n 0, 1) := by decide +kernel
theorem d_X_data_6 : decode (sk_cc m_X_data) 6 = .ok (.iload_n 2, 1) := by decide +kernel
theorem d_X_data_7 : decode (sk_cc m_X_data) 7 = .ok (.invokevirtual 86, 3) := by decide +kernel
theorem d_X_data_10 : decode (sk_cc m_X_data) 10 = .ok (.aload_n 0, 1) := by decide +kernel
theorem d_X_data_11 : decode (sk_cc m_X_data) 11 = .ok (.getfield 12, 3) := by decide +kernel
theorem d_X_data_14 : decode (sk_cc m_X_data) 14 = .ok (.getfield 112, 3) := by decide +kernel
theorem d_X_data_17 : decode (sk_cc m_X_data) 17 = .ok (.iload_n 1, 1) := by decide +kernel
theorem d_X_data_18 : decode (sk_cc m_X_data) 18 = .ok (.baload, 1) := by decide +kernel
theorem d_X_data_19 : decode (sk_cc m_X_data) 19 = .ok (.ifCond .ne 13, 3) := by decide +kernel
theorem d_X_data_22 : decode (sk_cc m_X_data) 22 = .ok (.new 79, 3) := by decide +kernel
theorem d_X_data_25 : decode (sk_cc m_X_data) 25 = .ok (.dup, 1) := by decide +kernel
theorem d_X_data_26 : decode (sk_cc m_X_data) 26 = .ok (.ldc 116, 2) := by decide +kernel
theorem d_X_data_28 : decode (sk_cc m_X_data) 28 = .ok (.invokespecial 83, 3) := by decide +kernel
theorem d_X_data_31 : decode (sk_cc m_X_data) 31 = .ok (.athrow, 1) := by decide +kernel
theorem d_X_data_32 : decode (sk_cc m_X_data) 32 = .ok (.aload_n 0, 1) := by decide +kernel
theorem d_X_data_33 : decode (sk_cc m_X_data) 33 = .ok (.getfield 53, 3) := by decide +kernel
theorem d_X_data_36 : decode (sk_cc m_X_data) 36 = .ok (.invokevirtual 60, 3) := by decide +kernel
theorem d_X_data_39 : decode (sk_cc m_X_data) 39 = .ok (.aload_n 0, 1) := by decide +kernel
theorem d_X_data_40 : decode (sk_cc m_X_data) 40 = .ok (.getfield 12, 3) := by decide +kernel
theorem d_X_data_43 : decode (sk_cc m_X_data) 43 = .ok (.iload_n 1, 1) := by decide +kernel
theorem d_X_data_44 : decode (sk_cc m_X_data) 44 = .ok (.iload_n 2, 1) := by decide +kernel
theorem d_X_data_45 : decode (sk_cc m_X_data) 45 = .ok (.invokevirtual 118, 3) := by decide +kernel
theorem d_X_data_48 : decode (sk_cc m_X_data) 48 = .ok (.return_, 1) := by decide +kernel
theorem d_C_connectData_0 : decode (sk_cc m_C_connectData) 0 = .ok (.aload_n 0, 1) := by decide +kernel
theorem d_C_connectData_1 : decode (sk_cc m_C_connectData) 1 = .ok (.getfield 53, 3) := by decide +kernel
theorem d_C_connectData_4 : decode (sk_cc m_C_connectData) 4 = .ok (.iload_n 1, 1) := by decide +kernel
theorem d_C_connectData_5 : decode (sk_cc m_C_connectData) 5 = .ok (.iload_n 2, 1) := by decide +kernel
theorem d_C_connectData_6 : decode (sk_cc m_C_connectData) 6 = .ok (.iastore, 1) := by decide +kernel
theorem d_C_connectData_7 : decode (sk_cc m_C_connectData) 7 = .ok (.aload_n 0, 1) := by decide +kernel
theorem d_C_connectData_8 : decode (sk_cc m_C_connectData) 8 = .ok (.invokevirtual 67, 3) := by decide +kernel
theorem d_C_connectData_11 : decode (sk_cc m_C_connectData) 11 = .ok (.return_, 1) := by decide +kernel
theorem d_L_count_0 : decode (sk_cc m_L_count) 0 = .ok (.aload_n 2, 1) := by decide +kernel
theorem d_L_count_1 : decode (sk_cc m_L_count) 1 = .ok (.iconst 0, 1) := by decide +kernel
theorem d_L_count_2 : decode (sk_cc m_L_count) 2 = .ok (.aload_n 0, 1) := by decide +kernel
theorem d_L_count_3 : decode (sk_cc m_L_count) 3 = .ok (.iload_n 1, 1) := by decide +kernel
theorem d_L_count_4 : decode (sk_cc m_L_count) 4 = .ok (.invokevirtual 31, 3) := by decide +kernel
theorem d_L_count_7 : decode (sk_cc m_L_count) 7 = .ok (.i2l, 1) := by decide +kernel
theorem d_L_count_8 : decode (sk_cc m_L_count) 8 = .ok (.lastore, 1) := by decide +kernel
theorem d_L_count_9 : decode (sk_cc m_L_count) 9 = .ok (.goto 6, 3) := by decide +kernel
theorem d_L_count_12 : decode (sk_cc m_L_count) 12 = .ok (.astore_n 3, 1) := by decide +kernel
theorem d_L_count_13 : decode (sk_cc m_L_count) 13 = .ok (.iconst 1, 1) := by decide +kernel
theorem d_L_count_14 : decode (sk_cc m_L_count) 14 = .ok (.ireturn, 1) := by decide +kernel
theorem d_L_count_15 : decode (sk_cc m_L_count) 15 = .ok (.iconst 0, 1) := by decide +kernel
theorem d_L_count_16 : decode (sk_cc m_L_count) 16 = .ok (.ireturn, 1) := by decide +kernel
theorem d_X_count_0 : decode (sk_cc m_X_count) 0 = .ok (.iload_n 1, 1) := by decide +kernel
theorem d_X_count_1 : decode (sk_cc m_X_count) 1 = .ok (.tableswitch 101 0 5 #[39, 47, 55, 63, 71, 86], 39) := by decide +kernel
theorem d_X_count_40 : decode (sk_cc m_X_count) 40 = .ok (.aload_n 0, 1) := by decide +kernel
theorem d_X_count_41 : decode (sk_cc m_X_count) 41 = .ok (.getfield 12, 3) := by decide +kernel
theorem d_X_count_44 : decode (sk_cc m_X_count) 44 = .ok (.getfield 65, 3) := by decide +kernel
theorem d_X_count_47 : decode (sk_cc m_X_count) 47 = .ok (.ireturn, 1) := by decide +kernel
theorem d_X_count_48 : decode (sk_cc m_X_count) 48 = .ok (.aload_n 0, 1) := by decide +kernel
theorem d_X_count_49 : decode (sk_cc m_X_count) 49 = .ok (.getfield 12, 3) := by decide +kernel
theorem d_X_count_52 : decode (sk_cc m_X_count) 52 = .ok (.getfield 61, 3) := by decide +kernel
theorem d_X_count_55 : decode (sk_cc m_X_count) 55 = .ok (.ireturn, 1) := by decide +kernel
theorem d_X_count_56 : decode (sk_cc m_X_count) 56 = .ok (.aload_n 0, 1) := by decide +kernel
theorem d_X_count_57 : decode (sk_cc m_X_count) 57 = .ok (.getfield 12, 3) := by decide +kernel
theorem d_X_count_60 : decode (sk_cc m_X_count) 60 = .ok (.getfield 122, 3) := by decide +kernel
theorem d_X_count_63 : decode (sk_cc m_X_count) 63 = .ok (.ireturn, 1) := by decide +kernel
theorem d_X_count_64 : decode (sk_cc m_X_count) 64 = .ok (.aload_n 0, 1) := by decide +kernel
theorem d_X_count_65 : decode (sk_cc m_X_count) 65 = .ok (.getfield 12, 3) := by decide +kernel
theorem d_X_count_68 : decode (sk_cc m_X_count) 68 = .ok (.invokevirtual 125, 3) := by decide +kernel
theorem d_X_count_71 : decode (sk_cc m_X_count) 71 = .ok (.ireturn, 1) := by decide +kernel
theorem d_X_count_72 : decode (sk_cc m_X_count) 72 = .ok (.aload_n 0, 1) := by decide +kernel
theorem d_X_count_73 : decode (sk_cc m_X_count) 73 = .ok (.getfield 28, 3) := by decide +kernel
theorem d_X_count_76 : decode (sk_cc m_X_count) 76 = .ok (.invokevirtual 129, 3) := by decide +kernel
theorem d_X_count_79 : decode (sk_cc m_X_count) 79 = .ok (.aload_n 0, 1) := by decide +kernel
theorem d_X_count_80 : decode (sk_cc m_X_count) 80 = .ok (.getfield 28, 3) := by decide +kernel
theorem d_X_count_83 : decode (sk_cc m_X_count) 83 = .ok (.invokevirtual 132, 3) := by decide +kernel
theorem d_X_count_86 : decode (sk_cc m_X_count) 86 = .ok (.ireturn, 1) := by decide +kernel
theorem d_X_count_87 : decode (sk_cc m_X_count) 87 = .ok (.aload_n 0, 1) := by decide +kernel
theorem d_X_count_88 : decode (sk_cc m_X_count) 88 = .ok (.getfield 28, 3) := by decide +kernel
theorem d_X_count_91 : decode (sk_cc m_X_count) 91 = .ok (.invokevirtual 129, 3) := by decide +kernel
theorem d_X_count_94 : decode (sk_cc m_X_count) 94 = .ok (.aload_n 0, 1) := by decide +kernel
theorem d_X_count_95 : decode (sk_cc m_X_count) 95 = .ok (.getfield 28, 3) := by decide +kernel
theorem d_X_count_98 : decode (sk_cc m_X_count) 98 = .ok (.invokevirtual 135, 3) := by decide +kernel
theorem d_X_count_101 : decode (sk_cc m_X_count) 101 = .ok (.ireturn, 1) := by decide +kernel
theorem d_X_count_102 : decode (sk_cc m_X_count) 102 = .ok (.new 79, 3) := by decide +kernel
theorem d_X_count_105 : decode (sk_cc m_X_count) 105 = .ok (.dup, 1) := by decide +kernel
theorem d_X_count_106 : decode (sk_cc m_X_count) 106 = .ok (.ldc 138, 2) := by decide +kernel
theorem d_X_count_108 : decode (sk_cc m_X_count) 108 = .ok (.invokespecial 83, 3) := by decide +kernel
theorem d_X_count_111 : decode (sk_cc m_X_count) 111 = .ok (.athrow, 1) := by decide +kernel
theorem d_R_shownFaults_0 : decode (sk_cc m_R_shownFaults) 0 = .ok (.iconst 0, 1) := by decide +kernel
theorem d_R_shownFaults_1 : decode (sk_cc m_R_shownFaults) 1 = .ok (.istore_n 1, 1) := by decide +kernel
theorem d_R_shownFaults_2 : decode (sk_cc m_R_shownFaults) 2 = .ok (.iconst 0, 1) := by decide +kernel
theorem d_R_shownFaults_3 : decode (sk_cc m_R_shownFaults) 3 = .ok (.istore_n 2, 1) := by decide +kernel
theorem d_R_shownFaults_4 : decode (sk_cc m_R_shownFaults) 4 = .ok (.iload_n 2, 1) := by decide +kernel
theorem d_R_shownFaults_5 : decode (sk_cc m_R_shownFaults) 5 = .ok (.aload_n 0, 1) := by decide +kernel
theorem d_R_shownFaults_6 : decode (sk_cc m_R_shownFaults) 6 = .ok (.getfield 22, 3) := by decide +kernel
theorem d_R_shownFaults_9 : decode (sk_cc m_R_shownFaults) 9 = .ok (.invokevirtual 35, 3) := by decide +kernel
theorem d_R_shownFaults_12 : decode (sk_cc m_R_shownFaults) 12 = .ok (.if_icmp .ge 22, 3) := by decide +kernel
theorem d_R_shownFaults_15 : decode (sk_cc m_R_shownFaults) 15 = .ok (.aload_n 0, 1) := by decide +kernel
theorem d_R_shownFaults_16 : decode (sk_cc m_R_shownFaults) 16 = .ok (.iload_n 2, 1) := by decide +kernel
theorem d_R_shownFaults_17 : decode (sk_cc m_R_shownFaults) 17 = .ok (.invokevirtual 67, 3) := by decide +kernel
theorem d_R_shownFaults_20 : decode (sk_cc m_R_shownFaults) 20 = .ok (.lconst 0, 1) := by decide +kernel
theorem d_R_shownFaults_21 : decode (sk_cc m_R_shownFaults) 21 = .ok (.lcmp, 1) := by decide +kernel
theorem d_R_shownFaults_22 : decode (sk_cc m_R_shownFaults) 22 = .ok (.ifCond .eq 6, 3) := by decide +kernel
theorem d_R_shownFaults_25 : decode (sk_cc m_R_shownFaults) 25 = .ok (.iinc 1 1, 3) := by decide +kernel
theorem d_R_shownFaults_28 : decode (sk_cc m_R_shownFaults) 28 = .ok (.iinc 2 1, 3) := by decide +kernel
theorem d_R_shownFaults_31 : decode (sk_cc m_R_shownFaults) 31 = .ok (.goto (-27), 3) := by decide +kernel
theorem d_R_shownFaults_34 : decode (sk_cc m_R_shownFaults) 34 = .ok (.iload_n 1, 1) := by decide +kernel
theorem d_R_shownFaults_35 : decode (sk_cc m_R_shownFaults) 35 = .ok (.ireturn, 1) := by decide +kernel
theorem d_R_classesOfAlike_0 : decode (sk_cc m_R_classesOfAlike) 0 = .ok (.iconst 0, 1) := by decide +kernel
theorem d_R_classesOfAlike_1 : decode (sk_cc m_R_classesOfAlike) 1 = .ok (.istore_n 1, 1) := by decide +kernel
theorem d_R_classesOfAlike_2 : decode (sk_cc m_R_classesOfAlike) 2 = .ok (.iconst 0, 1) := by decide +kernel
theorem d_R_classesOfAlike_3 : decode (sk_cc m_R_classesOfAlike) 3 = .ok (.istore_n 2, 1) := by decide +kernel
theorem d_R_classesOfAlike_4 : decode (sk_cc m_R_classesOfAlike) 4 = .ok (.iload_n 2, 1) := by decide +kernel
theorem d_R_classesOfAlike_5 : decode (sk_cc m_R_classesOfAlike) 5 = .ok (.aload_n 0, 1) := by decide +kernel
theorem d_R_classesOfAlike_6 : decode (sk_cc m_R_classesOfAlike) 6 = .ok (.getfield 22, 3) := by decide +kernel
theorem d_R_classesOfAlike_9 : decode (sk_cc m_R_classesOfAlike) 9 = .ok (.invokevirtual 35, 3) := by decide +kernel
theorem d_R_classesOfAlike_12 : decode (sk_cc m_R_classesOfAlike) 12 = .ok (.if_icmp .ge 21, 3) := by decide +kernel
theorem d_R_classesOfAlike_15 : decode (sk_cc m_R_classesOfAlike) 15 = .ok (.aload_n 0, 1) := by decide +kernel
theorem d_R_classesOfAlike_16 : decode (sk_cc m_R_classesOfAlike) 16 = .ok (.iload_n 2, 1) := by decide +kernel
theorem d_R_classesOfAlike_17 : decode (sk_cc m_R_classesOfAlike) 17 = .ok (.invokevirtual 74, 3) := by decide +kernel
theorem d_R_classesOfAlike_20 : decode (sk_cc m_R_classesOfAlike) 20 = .ok (.iload_n 2, 1) := by decide +kernel
theorem d_R_classesOfAlike_21 : decode (sk_cc m_R_classesOfAlike) 21 = .ok (.if_icmp .ne 6, 3) := by decide +kernel
theorem d_R_classesOfAlike_24 : decode (sk_cc m_R_classesOfAlike) 24 = .ok (.iinc 1 1, 3) := by decide +kernel
theorem d_R_classesOfAlike_27 : decode (sk_cc m_R_classesOfAlike) 27 = .ok (.iinc 2 1, 3) := by decide +kernel
theorem d_R_classesOfAlike_30 : decode (sk_cc m_R_classesOfAlike) 30 = .ok (.goto (-26), 3) := by decide +kernel
theorem d_R_classesOfAlike_33 : decode (sk_cc m_R_classesOfAlike) 33 = .ok (.iload_n 1, 1) := by decide +kernel
theorem d_R_classesOfAlike_34 : decode (sk_cc m_R_classesOfAlike) 34 = .ok (.ireturn, 1) := by decide +kernel
theorem d_R_firstAlike_0 : decode (sk_cc m_R_firstAlike) 0 = .ok (.iconst 0, 1) := by decide +kernel
theorem d_R_firstAlike_1 : decode (sk_cc m_R_firstAlike) 1 = .ok (.istore_n 2, 1) := by decide +kernel
theorem d_R_firstAlike_2 : decode (sk_cc m_R_firstAlike) 2 = .ok (.iload_n 2, 1) := by decide +kernel
theorem d_R_firstAlike_3 : decode (sk_cc m_R_firstAlike) 3 = .ok (.iload_n 1, 1) := by decide +kernel
theorem d_R_firstAlike_4 : decode (sk_cc m_R_firstAlike) 4 = .ok (.if_icmp .ge 20, 3) := by decide +kernel
theorem d_R_firstAlike_7 : decode (sk_cc m_R_firstAlike) 7 = .ok (.aload_n 0, 1) := by decide +kernel
theorem d_R_firstAlike_8 : decode (sk_cc m_R_firstAlike) 8 = .ok (.iload_n 2, 1) := by decide +kernel
theorem d_R_firstAlike_9 : decode (sk_cc m_R_firstAlike) 9 = .ok (.iload_n 1, 1) := by decide +kernel
theorem d_R_firstAlike_10 : decode (sk_cc m_R_firstAlike) 10 = .ok (.invokevirtual 70, 3) := by decide +kernel
theorem d_R_firstAlike_13 : decode (sk_cc m_R_firstAlike) 13 = .ok (.ifCond .eq 5, 3) := by decide +kernel
theorem d_R_firstAlike_16 : decode (sk_cc m_R_firstAlike) 16 = .ok (.iload_n 2, 1) := by decide +kernel
theorem d_R_firstAlike_17 : decode (sk_cc m_R_firstAlike) 17 = .ok (.ireturn, 1) := by decide +kernel
theorem d_R_firstAlike_18 : decode (sk_cc m_R_firstAlike) 18 = .ok (.iinc 2 1, 3) := by decide +kernel
theorem d_R_firstAlike_21 : decode (sk_cc m_R_firstAlike) 21 = .ok (.goto (-19), 3) := by decide +kernel
theorem d_R_firstAlike_24 : decode (sk_cc m_R_firstAlike) 24 = .ok (.iload_n 1, 1) := by decide +kernel
theorem d_R_firstAlike_25 : decode (sk_cc m_R_firstAlike) 25 = .ok (.ireturn, 1) := by decide +kernel
theorem d_R_areAlike_0 : decode (sk_cc m_R_areAlike) 0 = .ok (.aload_n 0, 1) := by decide +kernel
theorem d_R_areAlike_1 : decode (sk_cc m_R_areAlike) 1 = .ok (.iload_n 1, 1) := by decide +kernel
theorem d_R_areAlike_2 : decode (sk_cc m_R_areAlike) 2 = .ok (.invokevirtual 67, 3) := by decide +kernel
theorem d_R_areAlike_5 : decode (sk_cc m_R_areAlike) 5 = .ok (.aload_n 0, 1) := by decide +kernel
theorem d_R_areAlike_6 : decode (sk_cc m_R_areAlike) 6 = .ok (.iload_n 2, 1) := by decide +kernel
theorem d_R_areAlike_7 : decode (sk_cc m_R_areAlike) 7 = .ok (.invokevirtual 67, 3) := by decide +kernel
theorem d_R_areAlike_10 : decode (sk_cc m_R_areAlike) 10 = .ok (.lcmp, 1) := by decide +kernel
theorem d_R_areAlike_11 : decode (sk_cc m_R_areAlike) 11 = .ok (.ifCond .eq 5, 3) := by decide +kernel
theorem d_R_areAlike_14 : decode (sk_cc m_R_areAlike) 14 = .ok (.iconst 0, 1) := by decide +kernel
theorem d_R_areAlike_15 : decode (sk_cc m_R_areAlike) 15 = .ok (.ireturn, 1) := by decide +kernel
theorem d_R_areAlike_16 : decode (sk_cc m_R_areAlike) 16 = .ok (.iload_n 1, 1) := by decide +kernel
theorem d_R_areAlike_17 : decode (sk_cc m_R_areAlike) 17 = .ok (.iconst 1, 1) := by decide +kernel
theorem d_R_areAlike_18 : decode (sk_cc m_R_areAlike) 18 = .ok (.iadd, 1) := by decide +kernel
theorem d_R_areAlike_19 : decode (sk_cc m_R_areAlike) 19 = .ok (.bipush 12, 2) := by decide +kernel
theorem d_R_areAlike_21 : decode (sk_cc m_R_areAlike) 21 = .ok (.imul, 1) := by decide +kernel
theorem d_R_areAlike_22 : decode (sk_cc m_R_areAlike) 22 = .ok (.istore_n 3, 1) := by decide +kernel
theorem d_R_areAlike_23 : decode (sk_cc m_R_areAlike) 23 = .ok (.iload_n 2, 1) := by decide +kernel
theorem d_R_areAlike_24 : decode (sk_cc m_R_areAlike) 24 = .ok (.iconst 1, 1) := by decide +kernel
theorem d_R_areAlike_25 : decode (sk_cc m_R_areAlike) 25 = .ok (.iadd, 1) := by decide +kernel
theorem d_R_areAlike_26 : decode (sk_cc m_R_areAlike) 26 = .ok (.bipush 12, 2) := by decide +kernel
theorem d_R_areAlike_28 : decode (sk_cc m_R_areAlike) 28 = .ok (.imul, 1) := by decide +kernel
theorem d_R_areAlike_29 : decode (sk_cc m_R_areAlike) 29 = .ok (.istore 4, 2) := by decide +kernel
theorem d_R_areAlike_31 : decode (sk_cc m_R_areAlike) 31 = .ok (.iconst 0, 1) := by decide +kernel
theorem d_R_areAlike_32 : decode (sk_cc m_R_areAlike) 32 = .ok (.istore 5, 2) := by decide +kernel
theorem d_R_areAlike_34 : decode (sk_cc m_R_areAlike) 34 = .ok (.iload 5, 2) := by decide +kernel
theorem d_R_areAlike_36 : decode (sk_cc m_R_areAlike) 36 = .ok (.aload_n 0, 1) := by decide +kernel
theorem d_R_areAlike_37 : decode (sk_cc m_R_areAlike) 37 = .ok (.getfield 22, 3) := by decide +kernel
theorem d_R_areAlike_40 : decode (sk_cc m_R_areAlike) 40 = .ok (.getfield 57, 3) := by decide +kernel
theorem d_R_areAlike_43 : decode (sk_cc m_R_areAlike) 43 = .ok (.if_icmp .ge 34, 3) := by decide +kernel
theorem d_R_areAlike_46 : decode (sk_cc m_R_areAlike) 46 = .ok (.aload_n 0, 1) := by decide +kernel
theorem d_R_areAlike_47 : decode (sk_cc m_R_areAlike) 47 = .ok (.getfield 9, 3) := by decide +kernel
theorem d_R_areAlike_50 : decode (sk_cc m_R_areAlike) 50 = .ok (.iload_n 3, 1) := by decide +kernel
theorem d_R_areAlike_51 : decode (sk_cc m_R_areAlike) 51 = .ok (.iload 5, 2) := by decide +kernel
theorem d_R_areAlike_53 : decode (sk_cc m_R_areAlike) 53 = .ok (.iadd, 1) := by decide +kernel
theorem d_R_areAlike_54 : decode (sk_cc m_R_areAlike) 54 = .ok (.laload, 1) := by decide +kernel
end
section
/-! decode rows -/
theorem d_R_areAlike_55 : decode (sk_cc m_R_areAlike) 55 = .ok (.aload_n 0, 1) := by decide +kernel
theorem d_R_areAlike_56 : decode (sk_cc m_R_areAlike) 56 = .ok (.getfield 9, 3) := by decide +kernel
theorem d_R_areAlike_59 : decode (sk_cc m_R_areAlike) 59 = .ok (.iload 4, 2) := by decide +kernel
theorem d_R_areAlike_61 : decode (sk_cc m_R_areAlike) 61 = .ok (.iload 5, 2) := by decide +kernel
theorem d_R_areAlike_63 : decode (sk_cc m_R_areAlike) 63 = .ok (.iadd, 1) := by decide +kernel
theorem d_R_areAlike_64 : decode (sk_cc m_R_areAlike) 64 = .ok (.laload, 1) := by decide +kernel
theorem d_R_areAlike_65 : decode (sk_cc m_R_areAlike) 65 = .ok (.lcmp, 1) := by decide +kernel
theorem d_R_areAlike_66 : decode (sk_cc m_R_areAlike) 66 = .ok (.ifCond .eq 5, 3) := by decide +kernel
theorem d_R_areAlike_69 : decode (sk_cc m_R_areAlike) 69 = .ok (.iconst 0, 1) := by decide +kernel
theorem d_R_areAlike_70 : decode (sk_cc m_R_areAlike) 70 = .ok (.ireturn, 1) := by decide +kernel
theorem d_R_areAlike_71 : decode (sk_cc m_R_areAlike) 71 = .ok (.iinc 5 1, 3) := by decide +kernel
theorem d_R_areAlike_74 : decode (sk_cc m_R_areAlike) 74 = .ok (.goto (-40), 3) := by decide +kernel
theorem d_R_areAlike_77 : decode (sk_cc m_R_areAlike) 77 = .ok (.iconst 1, 1) := by decide +kernel
theorem d_R_areAlike_78 : decode (sk_cc m_R_areAlike) 78 = .ok (.ireturn, 1) := by decide +kernel
theorem d_L_value_0 : decode (sk_cc m_L_value) 0 = .ok (.aload 4, 2) := by decide +kernel
theorem d_L_value_2 : decode (sk_cc m_L_value) 2 = .ok (.iconst 0, 1) := by decide +kernel
theorem d_L_value_3 : decode (sk_cc m_L_value) 3 = .ok (.aload_n 0, 1) := by decide +kernel
theorem d_L_value_4 : decode (sk_cc m_L_value) 4 = .ok (.iload_n 1, 1) := by decide +kernel
theorem d_L_value_5 : decode (sk_cc m_L_value) 5 = .ok (.iload_n 2, 1) := by decide +kernel
theorem d_L_value_6 : decode (sk_cc m_L_value) 6 = .ok (.iload_n 3, 1) := by decide +kernel
theorem d_L_value_7 : decode (sk_cc m_L_value) 7 = .ok (.invokevirtual 34, 3) := by decide +kernel
theorem d_L_value_10 : decode (sk_cc m_L_value) 10 = .ok (.i2l, 1) := by decide +kernel
theorem d_L_value_11 : decode (sk_cc m_L_value) 11 = .ok (.lastore, 1) := by decide +kernel
theorem d_L_value_12 : decode (sk_cc m_L_value) 12 = .ok (.goto 7, 3) := by decide +kernel
theorem d_L_value_15 : decode (sk_cc m_L_value) 15 = .ok (.astore 5, 2) := by decide +kernel
theorem d_L_value_17 : decode (sk_cc m_L_value) 17 = .ok (.iconst 1, 1) := by decide +kernel
theorem d_L_value_18 : decode (sk_cc m_L_value) 18 = .ok (.ireturn, 1) := by decide +kernel
theorem d_L_value_19 : decode (sk_cc m_L_value) 19 = .ok (.iconst 0, 1) := by decide +kernel
theorem d_L_value_20 : decode (sk_cc m_L_value) 20 = .ok (.ireturn, 1) := by decide +kernel
theorem d_X_value_0 : decode (sk_cc m_X_value) 0 = .ok (.aload_n 0, 1) := by decide +kernel
theorem d_X_value_1 : decode (sk_cc m_X_value) 1 = .ok (.iload_n 2, 1) := by decide +kernel
theorem d_X_value_2 : decode (sk_cc m_X_value) 2 = .ok (.invokevirtual 86, 3) := by decide +kernel
theorem d_X_value_5 : decode (sk_cc m_X_value) 5 = .ok (.aload_n 0, 1) := by decide +kernel
theorem d_X_value_6 : decode (sk_cc m_X_value) 6 = .ok (.iload_n 1, 1) := by decide +kernel
theorem d_X_value_7 : decode (sk_cc m_X_value) 7 = .ok (.invokevirtual 140, 3) := by decide +kernel
theorem d_X_value_10 : decode (sk_cc m_X_value) 10 = .ok (.aload_n 0, 1) := by decide +kernel
theorem d_X_value_11 : decode (sk_cc m_X_value) 11 = .ok (.iload_n 3, 1) := by decide +kernel
theorem d_X_value_12 : decode (sk_cc m_X_value) 12 = .ok (.invokevirtual 143, 3) := by decide +kernel
theorem d_X_value_15 : decode (sk_cc m_X_value) 15 = .ok (.aload_n 0, 1) := by decide +kernel
theorem d_X_value_16 : decode (sk_cc m_X_value) 16 = .ok (.getfield 21, 3) := by decide +kernel
theorem d_X_value_19 : decode (sk_cc m_X_value) 19 = .ok (.iload_n 3, 1) := by decide +kernel
theorem d_X_value_20 : decode (sk_cc m_X_value) 20 = .ok (.invokevirtual 146, 3) := by decide +kernel
theorem d_X_value_23 : decode (sk_cc m_X_value) 23 = .ok (.aload_n 0, 1) := by decide +kernel
theorem d_X_value_24 : decode (sk_cc m_X_value) 24 = .ok (.getfield 21, 3) := by decide +kernel
theorem d_X_value_27 : decode (sk_cc m_X_value) 27 = .ok (.iload_n 2, 1) := by decide +kernel
theorem d_X_value_28 : decode (sk_cc m_X_value) 28 = .ok (.iload_n 1, 1) := by decide +kernel
theorem d_X_value_29 : decode (sk_cc m_X_value) 29 = .ok (.invokevirtual 149, 3) := by decide +kernel
theorem d_X_value_32 : decode (sk_cc m_X_value) 32 = .ok (.ireturn, 1) := by decide +kernel
theorem d_X_requireVector_0 : decode (sk_cc m_X_requireVector) 0 = .ok (.iload_n 1, 1) := by decide +kernel
theorem d_X_requireVector_1 : decode (sk_cc m_X_requireVector) 1 = .ok (.ifCond .lt 14, 3) := by decide +kernel
theorem d_X_requireVector_4 : decode (sk_cc m_X_requireVector) 4 = .ok (.iload_n 1, 1) := by decide +kernel
theorem d_X_requireVector_5 : decode (sk_cc m_X_requireVector) 5 = .ok (.aload_n 0, 1) := by decide +kernel
theorem d_X_requireVector_6 : decode (sk_cc m_X_requireVector) 6 = .ok (.getfield 12, 3) := by decide +kernel
theorem d_X_requireVector_9 : decode (sk_cc m_X_requireVector) 9 = .ok (.invokevirtual 228, 3) := by decide +kernel
theorem d_X_requireVector_12 : decode (sk_cc m_X_requireVector) 12 = .ok (.if_icmp .lt 13, 3) := by decide +kernel
theorem d_X_requireVector_15 : decode (sk_cc m_X_requireVector) 15 = .ok (.new 223, 3) := by decide +kernel
theorem d_X_requireVector_18 : decode (sk_cc m_X_requireVector) 18 = .ok (.dup, 1) := by decide +kernel
theorem d_X_requireVector_19 : decode (sk_cc m_X_requireVector) 19 = .ok (.ldc 231, 2) := by decide +kernel
theorem d_X_requireVector_21 : decode (sk_cc m_X_requireVector) 21 = .ok (.invokespecial 227, 3) := by decide +kernel
theorem d_X_requireVector_24 : decode (sk_cc m_X_requireVector) 24 = .ok (.athrow, 1) := by decide +kernel
theorem d_X_requireVector_25 : decode (sk_cc m_X_requireVector) 25 = .ok (.return_, 1) := by decide +kernel
theorem d_X_requireFaultOrNone_0 : decode (sk_cc m_X_requireFaultOrNone) 0 = .ok (.iload_n 1, 1) := by decide +kernel
theorem d_X_requireFaultOrNone_1 : decode (sk_cc m_X_requireFaultOrNone) 1 = .ok (.iconst (-1), 1) := by decide +kernel
theorem d_X_requireFaultOrNone_2 : decode (sk_cc m_X_requireFaultOrNone) 2 = .ok (.if_icmp .eq 8, 3) := by decide +kernel
theorem d_X_requireFaultOrNone_5 : decode (sk_cc m_X_requireFaultOrNone) 5 = .ok (.aload_n 0, 1) := by decide +kernel
theorem d_X_requireFaultOrNone_6 : decode (sk_cc m_X_requireFaultOrNone) 6 = .ok (.iload_n 1, 1) := by decide +kernel
theorem d_X_requireFaultOrNone_7 : decode (sk_cc m_X_requireFaultOrNone) 7 = .ok (.invokevirtual 169, 3) := by decide +kernel
theorem d_X_requireFaultOrNone_10 : decode (sk_cc m_X_requireFaultOrNone) 10 = .ok (.return_, 1) := by decide +kernel
theorem d_X_requireFault_0 : decode (sk_cc m_X_requireFault) 0 = .ok (.iload_n 1, 1) := by decide +kernel
theorem d_X_requireFault_1 : decode (sk_cc m_X_requireFault) 1 = .ok (.ifCond .lt 14, 3) := by decide +kernel
theorem d_X_requireFault_4 : decode (sk_cc m_X_requireFault) 4 = .ok (.iload_n 1, 1) := by decide +kernel
theorem d_X_requireFault_5 : decode (sk_cc m_X_requireFault) 5 = .ok (.aload_n 0, 1) := by decide +kernel
theorem d_X_requireFault_6 : decode (sk_cc m_X_requireFault) 6 = .ok (.getfield 12, 3) := by decide +kernel
theorem d_X_requireFault_9 : decode (sk_cc m_X_requireFault) 9 = .ok (.invokevirtual 125, 3) := by decide +kernel
theorem d_X_requireFault_12 : decode (sk_cc m_X_requireFault) 12 = .ok (.if_icmp .lt 13, 3) := by decide +kernel
theorem d_X_requireFault_15 : decode (sk_cc m_X_requireFault) 15 = .ok (.new 223, 3) := by decide +kernel
theorem d_X_requireFault_18 : decode (sk_cc m_X_requireFault) 18 = .ok (.dup, 1) := by decide +kernel
theorem d_X_requireFault_19 : decode (sk_cc m_X_requireFault) 19 = .ok (.ldc 233, 2) := by decide +kernel
theorem d_X_requireFault_21 : decode (sk_cc m_X_requireFault) 21 = .ok (.invokespecial 227, 3) := by decide +kernel
theorem d_X_requireFault_24 : decode (sk_cc m_X_requireFault) 24 = .ok (.athrow, 1) := by decide +kernel
theorem d_X_requireFault_25 : decode (sk_cc m_X_requireFault) 25 = .ok (.return_, 1) := by decide +kernel
theorem d_S_stateOf_0 : decode (sk_cc m_S_stateOf) 0 = .ok (.aload_n 0, 1) := by decide +kernel
theorem d_S_stateOf_1 : decode (sk_cc m_S_stateOf) 1 = .ok (.getfield 18, 3) := by decide +kernel
theorem d_S_stateOf_4 : decode (sk_cc m_S_stateOf) 4 = .ok (.iload_n 1, 1) := by decide +kernel
theorem d_S_stateOf_5 : decode (sk_cc m_S_stateOf) 5 = .ok (.laload, 1) := by decide +kernel
theorem d_S_stateOf_6 : decode (sk_cc m_S_stateOf) 6 = .ok (.iload_n 2, 1) := by decide +kernel
theorem d_S_stateOf_7 : decode (sk_cc m_S_stateOf) 7 = .ok (.lushr, 1) := by decide +kernel
theorem d_S_stateOf_8 : decode (sk_cc m_S_stateOf) 8 = .ok (.lconst 1, 1) := by decide +kernel
theorem d_S_stateOf_9 : decode (sk_cc m_S_stateOf) 9 = .ok (.land, 1) := by decide +kernel
theorem d_S_stateOf_10 : decode (sk_cc m_S_stateOf) 10 = .ok (.lconst 1, 1) := by decide +kernel
theorem d_S_stateOf_11 : decode (sk_cc m_S_stateOf) 11 = .ok (.lcmp, 1) := by decide +kernel
theorem d_S_stateOf_12 : decode (sk_cc m_S_stateOf) 12 = .ok (.ifCond .ne 5, 3) := by decide +kernel
theorem d_S_stateOf_15 : decode (sk_cc m_S_stateOf) 15 = .ok (.iconst 1, 1) := by decide +kernel
theorem d_S_stateOf_16 : decode (sk_cc m_S_stateOf) 16 = .ok (.ireturn, 1) := by decide +kernel
theorem d_S_stateOf_17 : decode (sk_cc m_S_stateOf) 17 = .ok (.aload_n 0, 1) := by decide +kernel
theorem d_S_stateOf_18 : decode (sk_cc m_S_stateOf) 18 = .ok (.getfield 21, 3) := by decide +kernel
theorem d_S_stateOf_21 : decode (sk_cc m_S_stateOf) 21 = .ok (.iload_n 1, 1) := by decide +kernel
theorem d_S_stateOf_22 : decode (sk_cc m_S_stateOf) 22 = .ok (.laload, 1) := by decide +kernel
theorem d_S_stateOf_23 : decode (sk_cc m_S_stateOf) 23 = .ok (.iload_n 2, 1) := by decide +kernel
theorem d_S_stateOf_24 : decode (sk_cc m_S_stateOf) 24 = .ok (.lushr, 1) := by decide +kernel
theorem d_S_stateOf_25 : decode (sk_cc m_S_stateOf) 25 = .ok (.lconst 1, 1) := by decide +kernel
theorem d_S_stateOf_26 : decode (sk_cc m_S_stateOf) 26 = .ok (.land, 1) := by decide +kernel
theorem d_S_stateOf_27 : decode (sk_cc m_S_stateOf) 27 = .ok (.lconst 1, 1) := by decide +kernel
theorem d_S_stateOf_28 : decode (sk_cc m_S_stateOf) 28 = .ok (.lcmp, 1) := by decide +kernel
theorem d_S_stateOf_29 : decode (sk_cc m_S_stateOf) 29 = .ok (.ifCond .ne 7, 3) := by decide +kernel
theorem d_S_stateOf_32 : decode (sk_cc m_S_stateOf) 32 = .ok (.iconst 0, 1) := by decide +kernel
theorem d_S_stateOf_33 : decode (sk_cc m_S_stateOf) 33 = .ok (.goto 4, 3) := by decide +kernel
theorem d_S_stateOf_36 : decode (sk_cc m_S_stateOf) 36 = .ok (.iconst 2, 1) := by decide +kernel
theorem d_S_stateOf_37 : decode (sk_cc m_S_stateOf) 37 = .ok (.ireturn, 1) := by decide +kernel
theorem d_L_response_0 : decode (sk_cc m_L_response) 0 = .ok (.aload_n 3, 1) := by decide +kernel
theorem d_L_response_1 : decode (sk_cc m_L_response) 1 = .ok (.iconst 0, 1) := by decide +kernel
theorem d_L_response_2 : decode (sk_cc m_L_response) 2 = .ok (.aload_n 0, 1) := by decide +kernel
theorem d_L_response_3 : decode (sk_cc m_L_response) 3 = .ok (.iload_n 1, 1) := by decide +kernel
theorem d_L_response_4 : decode (sk_cc m_L_response) 4 = .ok (.iload_n 2, 1) := by decide +kernel
theorem d_L_response_5 : decode (sk_cc m_L_response) 5 = .ok (.invokevirtual 38, 3) := by decide +kernel
theorem d_L_response_8 : decode (sk_cc m_L_response) 8 = .ok (.i2l, 1) := by decide +kernel
theorem d_L_response_9 : decode (sk_cc m_L_response) 9 = .ok (.lastore, 1) := by decide +kernel
theorem d_L_response_10 : decode (sk_cc m_L_response) 10 = .ok (.goto 7, 3) := by decide +kernel
theorem d_L_response_13 : decode (sk_cc m_L_response) 13 = .ok (.astore 4, 2) := by decide +kernel
theorem d_L_response_15 : decode (sk_cc m_L_response) 15 = .ok (.iconst 1, 1) := by decide +kernel
theorem d_L_response_16 : decode (sk_cc m_L_response) 16 = .ok (.ireturn, 1) := by decide +kernel
theorem d_L_response_17 : decode (sk_cc m_L_response) 17 = .ok (.iconst 0, 1) := by decide +kernel
theorem d_L_response_18 : decode (sk_cc m_L_response) 18 = .ok (.ireturn, 1) := by decide +kernel
theorem d_X_response_0 : decode (sk_cc m_X_response) 0 = .ok (.aload_n 0, 1) := by decide +kernel
theorem d_X_response_1 : decode (sk_cc m_X_response) 1 = .ok (.iload_n 1, 1) := by decide +kernel
theorem d_X_response_2 : decode (sk_cc m_X_response) 2 = .ok (.invokevirtual 140, 3) := by decide +kernel
theorem d_X_response_5 : decode (sk_cc m_X_response) 5 = .ok (.aload_n 0, 1) := by decide +kernel
theorem d_X_response_6 : decode (sk_cc m_X_response) 6 = .ok (.iload_n 2, 1) := by decide +kernel
theorem d_X_response_7 : decode (sk_cc m_X_response) 7 = .ok (.invokevirtual 143, 3) := by decide +kernel
theorem d_X_response_10 : decode (sk_cc m_X_response) 10 = .ok (.aload_n 0, 1) := by decide +kernel
theorem d_X_response_11 : decode (sk_cc m_X_response) 11 = .ok (.getfield 28, 3) := by decide +kernel
theorem d_X_response_14 : decode (sk_cc m_X_response) 14 = .ok (.iload_n 2, 1) := by decide +kernel
theorem d_X_response_15 : decode (sk_cc m_X_response) 15 = .ok (.invokevirtual 153, 3) := by decide +kernel
theorem d_X_response_18 : decode (sk_cc m_X_response) 18 = .ok (.aload_n 0, 1) := by decide +kernel
theorem d_X_response_19 : decode (sk_cc m_X_response) 19 = .ok (.getfield 28, 3) := by decide +kernel
theorem d_X_response_22 : decode (sk_cc m_X_response) 22 = .ok (.iload_n 1, 1) := by decide +kernel
theorem d_X_response_23 : decode (sk_cc m_X_response) 23 = .ok (.iload_n 2, 1) := by decide +kernel
theorem d_X_response_24 : decode (sk_cc m_X_response) 24 = .ok (.invokevirtual 156, 3) := by decide +kernel
theorem d_X_response_27 : decode (sk_cc m_X_response) 27 = .ok (.ireturn, 1) := by decide +kernel
theorem d_L_faultAt_0 : decode (sk_cc m_L_faultAt) 0 = .ok (.aload_n 3, 1) := by decide +kernel
theorem d_L_faultAt_1 : decode (sk_cc m_L_faultAt) 1 = .ok (.iconst 0, 1) := by decide +kernel
theorem d_L_faultAt_2 : decode (sk_cc m_L_faultAt) 2 = .ok (.aload_n 0, 1) := by decide +kernel
theorem d_L_faultAt_3 : decode (sk_cc m_L_faultAt) 3 = .ok (.iload_n 1, 1) := by decide +kernel
theorem d_L_faultAt_4 : decode (sk_cc m_L_faultAt) 4 = .ok (.iload_n 2, 1) := by decide +kernel
theorem d_L_faultAt_5 : decode (sk_cc m_L_faultAt) 5 = .ok (.invokevirtual 42, 3) := by decide +kernel
theorem d_L_faultAt_8 : decode (sk_cc m_L_faultAt) 8 = .ok (.i2l, 1) := by decide +kernel
theorem d_L_faultAt_9 : decode (sk_cc m_L_faultAt) 9 = .ok (.lastore, 1) := by decide +kernel
theorem d_L_faultAt_10 : decode (sk_cc m_L_faultAt) 10 = .ok (.goto 11, 3) := by decide +kernel
theorem d_L_faultAt_13 : decode (sk_cc m_L_faultAt) 13 = .ok (.astore 4, 2) := by decide +kernel
theorem d_L_faultAt_15 : decode (sk_cc m_L_faultAt) 15 = .ok (.iconst 1, 1) := by decide +kernel
theorem d_L_faultAt_16 : decode (sk_cc m_L_faultAt) 16 = .ok (.ireturn, 1) := by decide +kernel
theorem d_L_faultAt_17 : decode (sk_cc m_L_faultAt) 17 = .ok (.astore 4, 2) := by decide +kernel
theorem d_L_faultAt_19 : decode (sk_cc m_L_faultAt) 19 = .ok (.iconst 2, 1) := by decide +kernel
theorem d_L_faultAt_20 : decode (sk_cc m_L_faultAt) 20 = .ok (.ireturn, 1) := by decide +kernel
theorem d_L_faultAt_21 : decode (sk_cc m_L_faultAt) 21 = .ok (.iconst 0, 1) := by decide +kernel
theorem d_L_faultAt_22 : decode (sk_cc m_L_faultAt) 22 = .ok (.ireturn, 1) := by decide +kernel
theorem d_X_faultAt_0 : decode (sk_cc m_X_faultAt) 0 = .ok (.aload_n 0, 1) := by decide +kernel
theorem d_X_faultAt_1 : decode (sk_cc m_X_faultAt) 1 = .ok (.iload_n 1, 1) := by decide +kernel
theorem d_X_faultAt_2 : decode (sk_cc m_X_faultAt) 2 = .ok (.invokevirtual 169, 3) := by decide +kernel
theorem d_X_faultAt_5 : decode (sk_cc m_X_faultAt) 5 = .ok (.aload_n 0, 1) := by decide +kernel
theorem d_X_faultAt_6 : decode (sk_cc m_X_faultAt) 6 = .ok (.getfield 12, 3) := by decide +kernel
theorem d_X_faultAt_9 : decode (sk_cc m_X_faultAt) 9 = .ok (.iload_n 1, 1) := by decide +kernel
theorem d_X_faultAt_10 : decode (sk_cc m_X_faultAt) 10 = .ok (.invokevirtual 172, 3) := by decide +kernel
theorem d_X_faultAt_13 : decode (sk_cc m_X_faultAt) 13 = .ok (.istore_n 3, 1) := by decide +kernel
theorem d_X_faultAt_14 : decode (sk_cc m_X_faultAt) 14 = .ok (.aload_n 0, 1) := by decide +kernel
theorem d_X_faultAt_15 : decode (sk_cc m_X_faultAt) 15 = .ok (.getfield 12, 3) := by decide +kernel
theorem d_X_faultAt_18 : decode (sk_cc m_X_faultAt) 18 = .ok (.iload_n 1, 1) := by decide +kernel
theorem d_X_faultAt_19 : decode (sk_cc m_X_faultAt) 19 = .ok (.invokevirtual 175, 3) := by decide +kernel
theorem d_X_faultAt_22 : decode (sk_cc m_X_faultAt) 22 = .ok (.istore 4, 2) := by decide +kernel
theorem d_X_faultAt_24 : decode (sk_cc m_X_faultAt) 24 = .ok (.iload_n 2, 1) := by decide +kernel
theorem d_X_faultAt_25 : decode (sk_cc m_X_faultAt) 25 = .ok (.tableswitch 84 0 2 #[27, 48, 80], 27) := by decide +kernel
theorem d_X_faultAt_52 : decode (sk_cc m_X_faultAt) 52 = .ok (.iload 4, 2) := by decide +kernel
theorem d_X_faultAt_54 : decode (sk_cc m_X_faultAt) 54 = .ok (.iconst (-1), 1) := by decide +kernel
theorem d_X_faultAt_55 : decode (sk_cc m_X_faultAt) 55 = .ok (.if_icmp .ne 7, 3) := by decide +kernel
theorem d_X_faultAt_58 : decode (sk_cc m_X_faultAt) 58 = .ok (.iload_n 3, 1) := by decide +kernel
theorem d_X_faultAt_59 : decode (sk_cc m_X_faultAt) 59 = .ok (.goto 13, 3) := by decide +kernel
theorem d_X_faultAt_62 : decode (sk_cc m_X_faultAt) 62 = .ok (.aload_n 0, 1) := by decide +kernel
theorem d_X_faultAt_63 : decode (sk_cc m_X_faultAt) 63 = .ok (.getfield 12, 3) := by decide +kernel
theorem d_X_faultAt_66 : decode (sk_cc m_X_faultAt) 66 = .ok (.getfield 178, 3) := by decide +kernel
theorem d_X_faultAt_69 : decode (sk_cc m_X_faultAt) 69 = .ok (.iload 4, 2) := by decide +kernel
theorem d_X_faultAt_71 : decode (sk_cc m_X_faultAt) 71 = .ok (.iaload, 1) := by decide +kernel
theorem d_X_faultAt_72 : decode (sk_cc m_X_faultAt) 72 = .ok (.ireturn, 1) := by decide +kernel
theorem d_X_faultAt_73 : decode (sk_cc m_X_faultAt) 73 = .ok (.iload 4, 2) := by decide +kernel
theorem d_X_faultAt_75 : decode (sk_cc m_X_faultAt) 75 = .ok (.iconst (-1), 1) := by decide +kernel
theorem d_X_faultAt_76 : decode (sk_cc m_X_faultAt) 76 = .ok (.if_icmp .ne 7, 3) := by decide +kernel
theorem d_X_faultAt_79 : decode (sk_cc m_X_faultAt) 79 = .ok (.iconst (-1), 1) := by decide +kernel
theorem d_X_faultAt_80 : decode (sk_cc m_X_faultAt) 80 = .ok (.goto 24, 3) := by decide +kernel
theorem d_X_faultAt_83 : decode (sk_cc m_X_faultAt) 83 = .ok (.iload 4, 2) := by decide +kernel
theorem d_X_faultAt_85 : decode (sk_cc m_X_faultAt) 85 = .ok (.aload_n 0, 1) := by decide +kernel
theorem d_X_faultAt_86 : decode (sk_cc m_X_faultAt) 86 = .ok (.getfield 12, 3) := by decide +kernel
theorem d_X_faultAt_89 : decode (sk_cc m_X_faultAt) 89 = .ok (.getfield 165, 3) := by decide +kernel
theorem d_X_faultAt_92 : decode (sk_cc m_X_faultAt) 92 = .ok (.aload_n 0, 1) := by decide +kernel
theorem d_X_faultAt_93 : decode (sk_cc m_X_faultAt) 93 = .ok (.getfield 12, 3) := by decide +kernel
theorem d_X_faultAt_96 : decode (sk_cc m_X_faultAt) 96 = .ok (.getfield 178, 3) := by decide +kernel
theorem d_X_faultAt_99 : decode (sk_cc m_X_faultAt) 99 = .ok (.iload 4, 2) := by decide +kernel
theorem d_X_faultAt_101 : decode (sk_cc m_X_faultAt) 101 = .ok (.iaload, 1) := by decide +kernel
theorem d_X_faultAt_102 : decode (sk_cc m_X_faultAt) 102 = .ok (.iaload, 1) := by decide +kernel
theorem d_X_faultAt_103 : decode (sk_cc m_X_faultAt) 103 = .ok (.isub, 1) := by decide +kernel
theorem d_X_faultAt_104 : decode (sk_cc m_X_faultAt) 104 = .ok (.ireturn, 1) := by decide +kernel
theorem d_X_faultAt_105 : decode (sk_cc m_X_faultAt) 105 = .ok (.iload_n 1, 1) := by decide +kernel
theorem d_X_faultAt_106 : decode (sk_cc m_X_faultAt) 106 = .ok (.iconst 1, 1) := by decide +kernel
theorem d_X_faultAt_107 : decode (sk_cc m_X_faultAt) 107 = .ok (.iand, 1) := by decide +kernel
theorem d_X_faultAt_108 : decode (sk_cc m_X_faultAt) 108 = .ok (.ireturn, 1) := by decide +kernel
theorem d_X_faultAt_109 : decode (sk_cc m_X_faultAt) 109 = .ok (.new 79, 3) := by decide +kernel
theorem d_X_faultAt_112 : decode (sk_cc m_X_faultAt) 112 = .ok (.dup, 1) := by decide +kernel
theorem d_X_faultAt_113 : decode (sk_cc m_X_faultAt) 113 = .ok (.ldc 181, 2) := by decide +kernel
theorem d_X_faultAt_115 : decode (sk_cc m_X_faultAt) 115 = .ok (.invokespecial 83, 3) := by decide +kernel
theorem d_X_faultAt_118 : decode (sk_cc m_X_faultAt) 118 = .ok (.athrow, 1) := by decide +kernel
theorem d_L_least_0 : decode (sk_cc m_L_least) 0 = .ok (.aload_n 2, 1) := by decide +kernel
theorem d_L_least_1 : decode (sk_cc m_L_least) 1 = .ok (.iconst 0, 1) := by decide +kernel
theorem d_L_least_2 : decode (sk_cc m_L_least) 2 = .ok (.aload_n 0, 1) := by decide +kernel
theorem d_L_least_3 : decode (sk_cc m_L_least) 3 = .ok (.iload_n 1, 1) := by decide +kernel
theorem d_L_least_4 : decode (sk_cc m_L_least) 4 = .ok (.invokevirtual 45, 3) := by decide +kernel
theorem d_L_least_7 : decode (sk_cc m_L_least) 7 = .ok (.i2l, 1) := by decide +kernel
theorem d_L_least_8 : decode (sk_cc m_L_least) 8 = .ok (.lastore, 1) := by decide +kernel
theorem d_L_least_9 : decode (sk_cc m_L_least) 9 = .ok (.goto 6, 3) := by decide +kernel
theorem d_L_least_12 : decode (sk_cc m_L_least) 12 = .ok (.astore_n 3, 1) := by decide +kernel
theorem d_L_least_13 : decode (sk_cc m_L_least) 13 = .ok (.iconst 1, 1) := by decide +kernel
theorem d_L_least_14 : decode (sk_cc m_L_least) 14 = .ok (.ireturn, 1) := by decide +kernel
theorem d_L_least_15 : decode (sk_cc m_L_least) 15 = .ok (.iconst 0, 1) := by decide +kernel
theorem d_L_least_16 : decode (sk_cc m_L_least) 16 = .ok (.ireturn, 1) := by decide +kernel
theorem d_X_least_0 : decode (sk_cc m_X_least) 0 = .ok (.aload_n 0, 1) := by decide +kernel
theorem d_X_least_1 : decode (sk_cc m_X_least) 1 = .ok (.iload_n 1, 1) := by decide +kernel
theorem d_X_least_2 : decode (sk_cc m_X_least) 2 = .ok (.invokevirtual 169, 3) := by decide +kernel
theorem d_X_least_5 : decode (sk_cc m_X_least) 5 = .ok (.aload_n 0, 1) := by decide +kernel
theorem d_X_least_6 : decode (sk_cc m_X_least) 6 = .ok (.getfield 28, 3) := by decide +kernel
theorem d_X_least_9 : decode (sk_cc m_X_least) 9 = .ok (.iload_n 1, 1) := by decide +kernel
theorem d_X_least_10 : decode (sk_cc m_X_least) 10 = .ok (.invokevirtual 153, 3) := by decide +kernel
theorem d_X_least_13 : decode (sk_cc m_X_least) 13 = .ok (.aload_n 0, 1) := by decide +kernel
theorem d_X_least_14 : decode (sk_cc m_X_least) 14 = .ok (.getfield 28, 3) := by decide +kernel
theorem d_X_least_17 : decode (sk_cc m_X_least) 17 = .ok (.iload_n 1, 1) := by decide +kernel
theorem d_X_least_18 : decode (sk_cc m_X_least) 18 = .ok (.invokevirtual 183, 3) := by decide +kernel
theorem d_X_least_21 : decode (sk_cc m_X_least) 21 = .ok (.ireturn, 1) := by decide +kernel
theorem d_L_showing_0 : decode (sk_cc m_L_showing) 0 = .ok (.aload_n 2, 1) := by decide +kernel
theorem d_L_showing_1 : decode (sk_cc m_L_showing) 1 = .ok (.iconst 0, 1) := by decide +kernel
theorem d_L_showing_2 : decode (sk_cc m_L_showing) 2 = .ok (.aload_n 0, 1) := by decide +kernel
theorem d_L_showing_3 : decode (sk_cc m_L_showing) 3 = .ok (.iload_n 1, 1) := by decide +kernel
theorem d_L_showing_4 : decode (sk_cc m_L_showing) 4 = .ok (.invokevirtual 48, 3) := by decide +kernel
theorem d_L_showing_7 : decode (sk_cc m_L_showing) 7 = .ok (.lastore, 1) := by decide +kernel
theorem d_L_showing_8 : decode (sk_cc m_L_showing) 8 = .ok (.goto 6, 3) := by decide +kernel
theorem d_L_showing_11 : decode (sk_cc m_L_showing) 11 = .ok (.astore_n 3, 1) := by decide +kernel
theorem d_L_showing_12 : decode (sk_cc m_L_showing) 12 = .ok (.iconst 1, 1) := by decide +kernel
theorem d_L_showing_13 : decode (sk_cc m_L_showing) 13 = .ok (.ireturn, 1) := by decide +kernel
theorem d_L_showing_14 : decode (sk_cc m_L_showing) 14 = .ok (.iconst 0, 1) := by decide +kernel
theorem d_L_showing_15 : decode (sk_cc m_L_showing) 15 = .ok (.ireturn, 1) := by decide +kernel
theorem d_X_showing_0 : decode (sk_cc m_X_showing) 0 = .ok (.aload_n 0, 1) := by decide +kernel
theorem d_X_showing_1 : decode (sk_cc m_X_showing) 1 = .ok (.iload_n 1, 1) := by decide +kernel
theorem d_X_showing_2 : decode (sk_cc m_X_showing) 2 = .ok (.invokevirtual 169, 3) := by decide +kernel
theorem d_X_showing_5 : decode (sk_cc m_X_showing) 5 = .ok (.aload_n 0, 1) := by decide +kernel
theorem d_X_showing_6 : decode (sk_cc m_X_showing) 6 = .ok (.getfield 28, 3) := by decide +kernel
theorem d_X_showing_9 : decode (sk_cc m_X_showing) 9 = .ok (.iload_n 1, 1) := by decide +kernel
theorem d_X_showing_10 : decode (sk_cc m_X_showing) 10 = .ok (.invokevirtual 153, 3) := by decide +kernel
theorem d_X_showing_13 : decode (sk_cc m_X_showing) 13 = .ok (.aload_n 0, 1) := by decide +kernel
theorem d_X_showing_14 : decode (sk_cc m_X_showing) 14 = .ok (.getfield 28, 3) := by decide +kernel
theorem d_X_showing_17 : decode (sk_cc m_X_showing) 17 = .ok (.iload_n 1, 1) := by decide +kernel
theorem d_X_showing_18 : decode (sk_cc m_X_showing) 18 = .ok (.invokevirtual 186, 3) := by decide +kernel
theorem d_X_showing_21 : decode (sk_cc m_X_showing) 21 = .ok (.lreturn, 1) := by decide +kernel
theorem d_L_alike_0 : decode (sk_cc m_L_alike) 0 = .ok (.aload_n 2, 1) := by decide +kernel
theorem d_L_alike_1 : decode (sk_cc m_L_alike) 1 = .ok (.iconst 0, 1) := by decide +kernel
theorem d_L_alike_2 : decode (sk_cc m_L_alike) 2 = .ok (.aload_n 0, 1) := by decide +kernel
theorem d_L_alike_3 : decode (sk_cc m_L_alike) 3 = .ok (.iload_n 1, 1) := by decide +kernel
theorem d_L_alike_4 : decode (sk_cc m_L_alike) 4 = .ok (.invokevirtual 52, 3) := by decide +kernel
theorem d_L_alike_7 : decode (sk_cc m_L_alike) 7 = .ok (.i2l, 1) := by decide +kernel
theorem d_L_alike_8 : decode (sk_cc m_L_alike) 8 = .ok (.lastore, 1) := by decide +kernel
theorem d_L_alike_9 : decode (sk_cc m_L_alike) 9 = .ok (.goto 6, 3) := by decide +kernel
theorem d_L_alike_12 : decode (sk_cc m_L_alike) 12 = .ok (.astore_n 3, 1) := by decide +kernel
theorem d_L_alike_13 : decode (sk_cc m_L_alike) 13 = .ok (.iconst 1, 1) := by decide +kernel
theorem d_L_alike_14 : decode (sk_cc m_L_alike) 14 = .ok (.ireturn, 1) := by decide +kernel
theorem d_L_alike_15 : decode (sk_cc m_L_alike) 15 = .ok (.iconst 0, 1) := by decide +kernel
theorem d_L_alike_16 : decode (sk_cc m_L_alike) 16 = .ok (.ireturn, 1) := by decide +kernel
theorem d_X_alike_0 : decode (sk_cc m_X_alike) 0 = .ok (.aload_n 0, 1) := by decide +kernel
theorem d_X_alike_1 : decode (sk_cc m_X_alike) 1 = .ok (.iload_n 1, 1) := by decide +kernel
theorem d_X_alike_2 : decode (sk_cc m_X_alike) 2 = .ok (.invokevirtual 169, 3) := by decide +kernel
theorem d_X_alike_5 : decode (sk_cc m_X_alike) 5 = .ok (.aload_n 0, 1) := by decide +kernel
theorem d_X_alike_6 : decode (sk_cc m_X_alike) 6 = .ok (.getfield 28, 3) := by decide +kernel
theorem d_X_alike_9 : decode (sk_cc m_X_alike) 9 = .ok (.invokevirtual 129, 3) := by decide +kernel
theorem d_X_alike_12 : decode (sk_cc m_X_alike) 12 = .ok (.aload_n 0, 1) := by decide +kernel
theorem d_X_alike_13 : decode (sk_cc m_X_alike) 13 = .ok (.getfield 28, 3) := by decide +kernel
theorem d_X_alike_16 : decode (sk_cc m_X_alike) 16 = .ok (.iload_n 1, 1) := by decide +kernel
theorem d_X_alike_17 : decode (sk_cc m_X_alike) 17 = .ok (.invokevirtual 190, 3) := by decide +kernel
theorem d_X_alike_20 : decode (sk_cc m_X_alike) 20 = .ok (.ireturn, 1) := by decide +kernel
theorem d_L_ternary_0 : decode (sk_cc m_L_ternary) 0 = .ok (.aload 5, 2) := by decide +kernel
theorem d_L_ternary_2 : decode (sk_cc m_L_ternary) 2 = .ok (.iconst 0, 1) := by decide +kernel
theorem d_L_ternary_3 : decode (sk_cc m_L_ternary) 3 = .ok (.aload_n 0, 1) := by decide +kernel
theorem d_L_ternary_4 : decode (sk_cc m_L_ternary) 4 = .ok (.iload_n 1, 1) := by decide +kernel
theorem d_L_ternary_5 : decode (sk_cc m_L_ternary) 5 = .ok (.iload_n 2, 1) := by decide +kernel
theorem d_L_ternary_6 : decode (sk_cc m_L_ternary) 6 = .ok (.iload_n 3, 1) := by decide +kernel
theorem d_L_ternary_7 : decode (sk_cc m_L_ternary) 7 = .ok (.iload 4, 2) := by decide +kernel
theorem d_L_ternary_9 : decode (sk_cc m_L_ternary) 9 = .ok (.invokevirtual 55, 3) := by decide +kernel
theorem d_L_ternary_12 : decode (sk_cc m_L_ternary) 12 = .ok (.i2l, 1) := by decide +kernel
theorem d_L_ternary_13 : decode (sk_cc m_L_ternary) 13 = .ok (.lastore, 1) := by decide +kernel
theorem d_L_ternary_14 : decode (sk_cc m_L_ternary) 14 = .ok (.goto 11, 3) := by decide +kernel
theorem d_L_ternary_17 : decode (sk_cc m_L_ternary) 17 = .ok (.astore 6, 2) := by decide +kernel
theorem d_L_ternary_19 : decode (sk_cc m_L_ternary) 19 = .ok (.iconst 1, 1) := by decide +kernel
theorem d_L_ternary_20 : decode (sk_cc m_L_ternary) 20 = .ok (.ireturn, 1) := by decide +kernel
theorem d_L_ternary_21 : decode (sk_cc m_L_ternary) 21 = .ok (.astore 6, 2) := by decide +kernel
theorem d_L_ternary_23 : decode (sk_cc m_L_ternary) 23 = .ok (.iconst 2, 1) := by decide +kernel
theorem d_L_ternary_24 : decode (sk_cc m_L_ternary) 24 = .ok (.ireturn, 1) := by decide +kernel
theorem d_L_ternary_25 : decode (sk_cc m_L_ternary) 25 = .ok (.iconst 0, 1) := by decide +kernel
theorem d_L_ternary_26 : decode (sk_cc m_L_ternary) 26 = .ok (.ireturn, 1) := by decide +kernel
theorem d_X_ternary_0 : decode (sk_cc m_X_ternary) 0 = .ok (.aload_n 0, 1) := by decide +kernel
theorem d_X_ternary_1 : decode (sk_cc m_X_ternary) 1 = .ok (.iload_n 3, 1) := by decide +kernel
theorem d_X_ternary_2 : decode (sk_cc m_X_ternary) 2 = .ok (.invokevirtual 86, 3) := by decide +kernel
theorem d_X_ternary_5 : decode (sk_cc m_X_ternary) 5 = .ok (.aload_n 0, 1) := by decide +kernel
theorem d_X_ternary_6 : decode (sk_cc m_X_ternary) 6 = .ok (.iload 4, 2) := by decide +kernel
theorem d_X_ternary_8 : decode (sk_cc m_X_ternary) 8 = .ok (.invokevirtual 143, 3) := by decide +kernel
theorem d_X_ternary_11 : decode (sk_cc m_X_ternary) 11 = .ok (.aload_n 0, 1) := by decide +kernel
theorem d_X_ternary_12 : decode (sk_cc m_X_ternary) 12 = .ok (.getfield 12, 3) := by decide +kernel
theorem d_X_ternary_15 : decode (sk_cc m_X_ternary) 15 = .ok (.iload_n 1, 1) := by decide +kernel
theorem d_X_ternary_16 : decode (sk_cc m_X_ternary) 16 = .ok (.invokevirtual 193, 3) := by decide +kernel
theorem d_X_ternary_19 : decode (sk_cc m_X_ternary) 19 = .ok (.ifCond .eq 14, 3) := by decide +kernel
theorem d_X_ternary_22 : decode (sk_cc m_X_ternary) 22 = .ok (.aload_n 0, 1) := by decide +kernel
theorem d_X_ternary_23 : decode (sk_cc m_X_ternary) 23 = .ok (.getfield 12, 3) := by decide +kernel
theorem d_X_ternary_26 : decode (sk_cc m_X_ternary) 26 = .ok (.iload_n 2, 1) := by decide +kernel
theorem d_X_ternary_27 : decode (sk_cc m_X_ternary) 27 = .ok (.invokevirtual 193, 3) := by decide +kernel
theorem d_X_ternary_30 : decode (sk_cc m_X_ternary) 30 = .ok (.ifCond .ne 13, 3) := by decide +kernel
theorem d_X_ternary_33 : decode (sk_cc m_X_ternary) 33 = .ok (.new 79, 3) := by decide +kernel
theorem d_X_ternary_36 : decode (sk_cc m_X_ternary) 36 = .ok (.dup, 1) := by decide +kernel
theorem d_X_ternary_37 : decode (sk_cc m_X_ternary) 37 = .ok (.ldc 196, 2) := by decide +kernel
theorem d_X_ternary_39 : decode (sk_cc m_X_ternary) 39 = .ok (.invokespecial 83, 3) := by decide +kernel
theorem d_X_ternary_42 : decode (sk_cc m_X_ternary) 42 = .ok (.athrow, 1) := by decide +kernel
theorem d_X_ternary_43 : decode (sk_cc m_X_ternary) 43 = .ok (.iload_n 1, 1) := by decide +kernel
theorem d_X_ternary_44 : decode (sk_cc m_X_ternary) 44 = .ok (.iload_n 2, 1) := by decide +kernel
theorem d_X_ternary_45 : decode (sk_cc m_X_ternary) 45 = .ok (.iand, 1) := by decide +kernel
theorem d_X_ternary_46 : decode (sk_cc m_X_ternary) 46 = .ok (.ifCond .eq 13, 3) := by decide +kernel
theorem d_X_ternary_49 : decode (sk_cc m_X_ternary) 49 = .ok (.new 79, 3) := by decide +kernel
theorem d_X_ternary_52 : decode (sk_cc m_X_ternary) 52 = .ok (.dup, 1) := by decide +kernel
theorem d_X_ternary_53 : decode (sk_cc m_X_ternary) 53 = .ok (.ldc 198, 2) := by decide +kernel
theorem d_X_ternary_55 : decode (sk_cc m_X_ternary) 55 = .ok (.invokespecial 83, 3) := by decide +kernel
theorem d_X_ternary_58 : decode (sk_cc m_X_ternary) 58 = .ok (.athrow, 1) := by decide +kernel
theorem d_X_ternary_59 : decode (sk_cc m_X_ternary) 59 = .ok (.aload_n 0, 1) := by decide +kernel
theorem d_X_ternary_60 : decode (sk_cc m_X_ternary) 60 = .ok (.getfield 21, 3) := by decide +kernel
theorem d_X_ternary_63 : decode (sk_cc m_X_ternary) 63 = .ok (.iload_n 1, 1) := by decide +kernel
theorem d_X_ternary_64 : decode (sk_cc m_X_ternary) 64 = .ok (.iload_n 2, 1) := by decide +kernel
theorem d_X_ternary_65 : decode (sk_cc m_X_ternary) 65 = .ok (.iload 4, 2) := by decide +kernel
theorem d_X_ternary_67 : decode (sk_cc m_X_ternary) 67 = .ok (.invokevirtual 200, 3) := by decide +kernel
theorem d_X_ternary_70 : decode (sk_cc m_X_ternary) 70 = .ok (.aload_n 0, 1) := by decide +kernel
theorem d_X_ternary_71 : decode (sk_cc m_X_ternary) 71 = .ok (.getfield 21, 3) := by decide +kernel
theorem d_X_ternary_74 : decode (sk_cc m_X_ternary) 74 = .ok (.iload_n 3, 1) := by decide +kernel
theorem d_X_ternary_75 : decode (sk_cc m_X_ternary) 75 = .ok (.iconst 0, 1) := by decide +kernel
theorem d_X_ternary_76 : decode (sk_cc m_X_ternary) 76 = .ok (.invokevirtual 149, 3) := by decide +kernel
theorem d_X_ternary_79 : decode (sk_cc m_X_ternary) 79 = .ok (.ireturn, 1) := by decide +kernel
theorem d_C_isSumOfSources_0 : decode (sk_cc m_C_isSumOfSources) 0 = .ok (.iload_n 1, 1) := by decide +kernel
theorem d_C_isSumOfSources_1 : decode (sk_cc m_C_isSumOfSources) 1 = .ok (.ifCond .lt 15, 3) := by decide +kernel
theorem d_C_isSumOfSources_4 : decode (sk_cc m_C_isSumOfSources) 4 = .ok (.iload_n 1, 1) := by decide +kernel
theorem d_C_isSumOfSources_5 : decode (sk_cc m_C_isSumOfSources) 5 = .ok (.aload_n 0, 1) := by decide +kernel
theorem d_C_isSumOfSources_6 : decode (sk_cc m_C_isSumOfSources) 6 = .ok (.invokevirtual 74, 3) := by decide +kernel
theorem d_C_isSumOfSources_9 : decode (sk_cc m_C_isSumOfSources) 9 = .ok (.if_icmp .ge 7, 3) := by decide +kernel
theorem d_C_isSumOfSources_12 : decode (sk_cc m_C_isSumOfSources) 12 = .ok (.iconst 1, 1) := by decide +kernel
theorem d_C_isSumOfSources_13 : decode (sk_cc m_C_isSumOfSources) 13 = .ok (.goto 4, 3) := by decide +kernel
theorem d_C_isSumOfSources_16 : decode (sk_cc m_C_isSumOfSources) 16 = .ok (.iconst 0, 1) := by decide +kernel
theorem d_C_isSumOfSources_17 : decode (sk_cc m_C_isSumOfSources) 17 = .ok (.ireturn, 1) := by decide +kernel
theorem d_S_settleCube_0 : decode (sk_cc m_S_settleCube) 0 = .ok (.iconst 0, 1) := by decide +kernel
theorem d_S_settleCube_1 : decode (sk_cc m_S_settleCube) 1 = .ok (.istore 4, 2) := by decide +kernel
theorem d_S_settleCube_3 : decode (sk_cc m_S_settleCube) 3 = .ok (.iload 4, 2) := by decide +kernel
theorem d_S_settleCube_5 : decode (sk_cc m_S_settleCube) 5 = .ok (.bipush 6, 2) := by decide +kernel
theorem d_S_settleCube_7 : decode (sk_cc m_S_settleCube) 7 = .ok (.if_icmp .ge 91, 3) := by decide +kernel
theorem d_S_settleCube_10 : decode (sk_cc m_S_settleCube) 10 = .ok (.iload_n 1, 1) := by decide +kernel
theorem d_S_settleCube_11 : decode (sk_cc m_S_settleCube) 11 = .ok (.iload 4, 2) := by decide +kernel
theorem d_S_settleCube_13 : decode (sk_cc m_S_settleCube) 13 = .ok (.ishr, 1) := by decide +kernel
theorem d_S_settleCube_14 : decode (sk_cc m_S_settleCube) 14 = .ok (.iconst 1, 1) := by decide +kernel
theorem d_S_settleCube_15 : decode (sk_cc m_S_settleCube) 15 = .ok (.iand, 1) := by decide +kernel
theorem d_S_settleCube_16 : decode (sk_cc m_S_settleCube) 16 = .ok (.iconst 1, 1) := by decide +kernel
theorem d_S_settleCube_17 : decode (sk_cc m_S_settleCube) 17 = .ok (.if_icmp .ne 7, 3) := by decide +kernel
theorem d_S_settleCube_20 : decode (sk_cc m_S_settleCube) 20 = .ok (.iconst 1, 1) := by decide +kernel
theorem d_S_settleCube_21 : decode (sk_cc m_S_settleCube) 21 = .ok (.goto 4, 3) := by decide +kernel
theorem d_S_settleCube_24 : decode (sk_cc m_S_settleCube) 24 = .ok (.iconst 0, 1) := by decide +kernel
theorem d_S_settleCube_25 : decode (sk_cc m_S_settleCube) 25 = .ok (.istore 5, 2) := by decide +kernel
theorem d_S_settleCube_27 : decode (sk_cc m_S_settleCube) 27 = .ok (.iload_n 2, 1) := by decide +kernel
theorem d_S_settleCube_28 : decode (sk_cc m_S_settleCube) 28 = .ok (.iload 4, 2) := by decide +kernel
theorem d_S_settleCube_30 : decode (sk_cc m_S_settleCube) 30 = .ok (.ishr, 1) := by decide +kernel
theorem d_S_settleCube_31 : decode (sk_cc m_S_settleCube) 31 = .ok (.iconst 1, 1) := by decide +kernel
theorem d_S_settleCube_32 : decode (sk_cc m_S_settleCube) 32 = .ok (.iand, 1) := by decide +kernel
theorem d_S_settleCube_33 : decode (sk_cc m_S_settleCube) 33 = .ok (.iconst 1, 1) := by decide +kernel
theorem d_S_settleCube_34 : decode (sk_cc m_S_settleCube) 34 = .ok (.if_icmp .ne 7, 3) := by decide +kernel
theorem d_S_settleCube_37 : decode (sk_cc m_S_settleCube) 37 = .ok (.iconst 1, 1) := by decide +kernel
theorem d_S_settleCube_38 : decode (sk_cc m_S_settleCube) 38 = .ok (.goto 4, 3) := by decide +kernel
theorem d_S_settleCube_41 : decode (sk_cc m_S_settleCube) 41 = .ok (.iconst 0, 1) := by decide +kernel
theorem d_S_settleCube_42 : decode (sk_cc m_S_settleCube) 42 = .ok (.istore 6, 2) := by decide +kernel
theorem d_S_settleCube_44 : decode (sk_cc m_S_settleCube) 44 = .ok (.aload_n 0, 1) := by decide +kernel
theorem d_S_settleCube_45 : decode (sk_cc m_S_settleCube) 45 = .ok (.getfield 9, 3) := by decide +kernel
theorem d_S_settleCube_48 : decode (sk_cc m_S_settleCube) 48 = .ok (.iload 4, 2) := by decide +kernel
theorem d_S_settleCube_50 : decode (sk_cc m_S_settleCube) 50 = .ok (.iload 5, 2) := by decide +kernel
theorem d_S_settleCube_52 : decode (sk_cc m_S_settleCube) 52 = .ok (.ifCond .ne 14, 3) := by decide +kernel
theorem d_S_settleCube_55 : decode (sk_cc m_S_settleCube) 55 = .ok (.iload 6, 2) := by decide +kernel
theorem d_S_settleCube_57 : decode (sk_cc m_S_settleCube) 57 = .ok (.ifCond .eq 9, 3) := by decide +kernel
theorem d_S_settleCube_60 : decode (sk_cc m_S_settleCube) 60 = .ok (.ldc2_w 39, 3) := by decide +kernel
theorem d_S_settleCube_63 : decode (sk_cc m_S_settleCube) 63 = .ok (.goto 4, 3) := by decide +kernel
theorem d_S_settleCube_66 : decode (sk_cc m_S_settleCube) 66 = .ok (.lconst 0, 1) := by decide +kernel
theorem d_S_settleCube_67 : decode (sk_cc m_S_settleCube) 67 = .ok (.lastore, 1) := by decide +kernel
theorem d_S_settleCube_68 : decode (sk_cc m_S_settleCube) 68 = .ok (.aload_n 0, 1) := by decide +kernel
theorem d_S_settleCube_69 : decode (sk_cc m_S_settleCube) 69 = .ok (.getfield 15, 3) := by decide +kernel
theorem d_S_settleCube_72 : decode (sk_cc m_S_settleCube) 72 = .ok (.iload 4, 2) := by decide +kernel
theorem d_S_settleCube_74 : decode (sk_cc m_S_settleCube) 74 = .ok (.iload 5, 2) := by decide +kernel
theorem d_S_settleCube_76 : decode (sk_cc m_S_settleCube) 76 = .ok (.ifCond .ne 14, 3) := by decide +kernel
theorem d_S_settleCube_79 : decode (sk_cc m_S_settleCube) 79 = .ok (.iload 6, 2) := by decide +kernel
theorem d_S_settleCube_81 : decode (sk_cc m_S_settleCube) 81 = .ok (.ifCond .ne 9, 3) := by decide +kernel
theorem d_S_settleCube_84 : decode (sk_cc m_S_settleCube) 84 = .ok (.ldc2_w 39, 3) := by decide +kernel
theorem d_S_settleCube_87 : decode (sk_cc m_S_settleCube) 87 = .ok (.goto 4, 3) := by decide +kernel
theorem d_S_settleCube_90 : decode (sk_cc m_S_settleCube) 90 = .ok (.lconst 0, 1) := by decide +kernel
theorem d_S_settleCube_91 : decode (sk_cc m_S_settleCube) 91 = .ok (.lastore, 1) := by decide +kernel
theorem d_S_settleCube_92 : decode (sk_cc m_S_settleCube) 92 = .ok (.iinc 4 1, 3) := by decide +kernel
theorem d_S_settleCube_95 : decode (sk_cc m_S_settleCube) 95 = .ok (.goto (-92), 3) := by decide +kernel
theorem d_S_settleCube_98 : decode (sk_cc m_S_settleCube) 98 = .ok (.aload_n 0, 1) := by decide +kernel
theorem d_S_settleCube_99 : decode (sk_cc m_S_settleCube) 99 = .ok (.iload_n 3, 1) := by decide +kernel
theorem d_S_settleCube_100 : decode (sk_cc m_S_settleCube) 100 = .ok (.invokevirtual 41, 3) := by decide +kernel
theorem d_S_settleCube_103 : decode (sk_cc m_S_settleCube) 103 = .ok (.return_, 1) := by decide +kernel
theorem d_L_cube_0 : decode (sk_cc m_L_cube) 0 = .ok (.aload_n 2, 1) := by decide +kernel
theorem d_L_cube_1 : decode (sk_cc m_L_cube) 1 = .ok (.iconst 0, 1) := by decide +kernel
theorem d_L_cube_2 : decode (sk_cc m_L_cube) 2 = .ok (.aload_n 0, 1) := by decide +kernel
theorem d_L_cube_3 : decode (sk_cc m_L_cube) 3 = .ok (.iload_n 1, 1) := by decide +kernel
theorem d_L_cube_4 : decode (sk_cc m_L_cube) 4 = .ok (.invokevirtual 58, 3) := by decide +kernel
theorem d_L_cube_7 : decode (sk_cc m_L_cube) 7 = .ok (.i2l, 1) := by decide +kernel
theorem d_L_cube_8 : decode (sk_cc m_L_cube) 8 = .ok (.lastore, 1) := by decide +kernel
theorem d_L_cube_9 : decode (sk_cc m_L_cube) 9 = .ok (.goto 6, 3) := by decide +kernel
theorem d_L_cube_12 : decode (sk_cc m_L_cube) 12 = .ok (.astore_n 3, 1) := by decide +kernel
theorem d_L_cube_13 : decode (sk_cc m_L_cube) 13 = .ok (.iconst 1, 1) := by decide +kernel
theorem d_L_cube_14 : decode (sk_cc m_L_cube) 14 = .ok (.ireturn, 1) := by decide +kernel
theorem d_L_cube_15 : decode (sk_cc m_L_cube) 15 = .ok (.iconst 0, 1) := by decide +kernel
theorem d_L_cube_16 : decode (sk_cc m_L_cube) 16 = .ok (.ireturn, 1) := by decide +kernel
theorem d_X_cube_0 : decode (sk_cc m_X_cube) 0 = .ok (.aload_n 0, 1) := by decide +kernel
theorem d_X_cube_1 : decode (sk_cc m_X_cube) 1 = .ok (.iload_n 1, 1) := by decide +kernel
theorem d_X_cube_2 : decode (sk_cc m_X_cube) 2 = .ok (.invokevirtual 169, 3) := by decide +kernel
theorem d_X_cube_5 : decode (sk_cc m_X_cube) 5 = .ok (.aload_n 0, 1) := by decide +kernel
theorem d_X_cube_6 : decode (sk_cc m_X_cube) 6 = .ok (.getfield 28, 3) := by decide +kernel
theorem d_X_cube_9 : decode (sk_cc m_X_cube) 9 = .ok (.iload_n 1, 1) := by decide +kernel
theorem d_X_cube_10 : decode (sk_cc m_X_cube) 10 = .ok (.invokevirtual 153, 3) := by decide +kernel
theorem d_X_cube_13 : decode (sk_cc m_X_cube) 13 = .ok (.aload_n 0, 1) := by decide +kernel
theorem d_X_cube_14 : decode (sk_cc m_X_cube) 14 = .ok (.getfield 28, 3) := by decide +kernel
theorem d_X_cube_17 : decode (sk_cc m_X_cube) 17 = .ok (.iload_n 1, 1) := by decide +kernel
theorem d_X_cube_18 : decode (sk_cc m_X_cube) 18 = .ok (.invokevirtual 183, 3) := by decide +kernel
theorem d_X_cube_21 : decode (sk_cc m_X_cube) 21 = .ok (.istore_n 2, 1) := by decide +kernel
theorem d_X_cube_22 : decode (sk_cc m_X_cube) 22 = .ok (.iload_n 2, 1) := by decide +kernel
theorem d_X_cube_23 : decode (sk_cc m_X_cube) 23 = .ok (.iconst (-1), 1) := by decide +kernel
theorem d_X_cube_24 : decode (sk_cc m_X_cube) 24 = .ok (.if_icmp .ne 7, 3) := by decide +kernel
theorem d_X_cube_27 : decode (sk_cc m_X_cube) 27 = .ok (.iconst (-1), 1) := by decide +kernel
theorem d_X_cube_28 : decode (sk_cc m_X_cube) 28 = .ok (.goto 12, 3) := by decide +kernel
theorem d_X_cube_31 : decode (sk_cc m_X_cube) 31 = .ok (.aload_n 0, 1) := by decide +kernel
theorem d_X_cube_32 : decode (sk_cc m_X_cube) 32 = .ok (.getfield 35, 3) := by decide +kernel
theorem d_X_cube_35 : decode (sk_cc m_X_cube) 35 = .ok (.iload_n 2, 1) := by decide +kernel
theorem d_X_cube_36 : decode (sk_cc m_X_cube) 36 = .ok (.iload_n 1, 1) := by decide +kernel
theorem d_X_cube_37 : decode (sk_cc m_X_cube) 37 = .ok (.invokevirtual 204, 3) := by decide +kernel
theorem d_X_cube_40 : decode (sk_cc m_X_cube) 40 = .ok (.ireturn, 1) := by decide +kernel
theorem d_U_widen_0 : decode (sk_cc m_U_widen) 0 = .ok (.iconst 0, 1) := by decide +kernel
theorem d_U_widen_1 : decode (sk_cc m_U_widen) 1 = .ok (.istore_n 3, 1) := by decide +kernel
theorem d_U_widen_2 : decode (sk_cc m_U_widen) 2 = .ok (.iload_n 1, 1) := by decide +kernel
theorem d_U_widen_3 : decode (sk_cc m_U_widen) 3 = .ok (.istore 4, 2) := by decide +kernel
theorem d_U_widen_5 : decode (sk_cc m_U_widen) 5 = .ok (.iconst 0, 1) := by decide +kernel
theorem d_U_widen_6 : decode (sk_cc m_U_widen) 6 = .ok (.istore 5, 2) := by decide +kernel
theorem d_U_widen_8 : decode (sk_cc m_U_widen) 8 = .ok (.iload 5, 2) := by decide +kernel
theorem d_U_widen_10 : decode (sk_cc m_U_widen) 10 = .ok (.aload_n 0, 1) := by decide +kernel
theorem d_U_widen_11 : decode (sk_cc m_U_widen) 11 = .ok (.getfield 9, 3) := by decide +kernel
theorem d_U_widen_14 : decode (sk_cc m_U_widen) 14 = .ok (.getfield 27, 3) := by decide +kernel
theorem d_U_widen_17 : decode (sk_cc m_U_widen) 17 = .ok (.if_icmp .ge 48, 3) := by decide +kernel
theorem d_U_widen_20 : decode (sk_cc m_U_widen) 20 = .ok (.iconst 1, 1) := by decide +kernel
theorem d_U_widen_21 : decode (sk_cc m_U_widen) 21 = .ok (.iload 5, 2) := by decide +kernel
theorem d_U_widen_23 : decode (sk_cc m_U_widen) 23 = .ok (.ishl, 1) := by decide +kernel
theorem d_U_widen_24 : decode (sk_cc m_U_widen) 24 = .ok (.istore 6, 2) := by decide +kernel
theorem d_U_widen_26 : decode (sk_cc m_U_widen) 26 = .ok (.aload_n 0, 1) := by decide +kernel
theorem d_U_widen_27 : decode (sk_cc m_U_widen) 27 = .ok (.iload_n 3, 1) := by decide +kernel
theorem d_U_widen_28 : decode (sk_cc m_U_widen) 28 = .ok (.iload 6, 2) := by decide +kernel
theorem d_U_widen_30 : decode (sk_cc m_U_widen) 30 = .ok (.ior, 1) := by decide +kernel
theorem d_U_widen_31 : decode (sk_cc m_U_widen) 31 = .ok (.iload 4, 2) := by decide +kernel
theorem d_U_widen_33 : decode (sk_cc m_U_widen) 33 = .ok (.iload 6, 2) := by decide +kernel
theorem d_U_widen_35 : decode (sk_cc m_U_widen) 35 = .ok (.iconst (-1), 1) := by decide +kernel
theorem d_U_widen_36 : decode (sk_cc m_U_widen) 36 = .ok (.ixor, 1) := by decide +kernel
theorem d_U_widen_37 : decode (sk_cc m_U_widen) 37 = .ok (.iand, 1) := by decide +kernel
theorem d_U_widen_38 : decode (sk_cc m_U_widen) 38 = .ok (.iload_n 2, 1) := by decide +kernel
theorem d_U_widen_39 : decode (sk_cc m_U_widen) 39 = .ok (.invokevirtual 33, 3) := by decide +kernel
theorem d_U_widen_42 : decode (sk_cc m_U_widen) 42 = .ok (.ifCond .eq 17, 3) := by decide +kernel
theorem d_U_widen_45 : decode (sk_cc m_U_widen) 45 = .ok (.iload_n 3, 1) := by decide +kernel
theorem d_U_widen_46 : decode (sk_cc m_U_widen) 46 = .ok (.iload 6, 2) := by decide +kernel
theorem d_U_widen_48 : decode (sk_cc m_U_widen) 48 = .ok (.ior, 1) := by decide +kernel
theorem d_U_widen_49 : decode (sk_cc m_U_widen) 49 = .ok (.istore_n 3, 1) := by decide +kernel
theorem d_U_widen_50 : decode (sk_cc m_U_widen) 50 = .ok (.iload 4, 2) := by decide +kernel
theorem d_U_widen_52 : decode (sk_cc m_U_widen) 52 = .ok (.iload 6, 2) := by decide +kernel
theorem d_U_widen_54 : decode (sk_cc m_U_widen) 54 = .ok (.iconst (-1), 1) := by decide +kernel
theorem d_U_widen_55 : decode (sk_cc m_U_widen) 55 = .ok (.ixor, 1) := by decide +kernel
theorem d_U_widen_56 : decode (sk_cc m_U_widen) 56 = .ok (.iand, 1) := by decide +kernel
theorem d_U_widen_57 : decode (sk_cc m_U_widen) 57 = .ok (.istore 4, 2) := by decide +kernel
theorem d_U_widen_59 : decode (sk_cc m_U_widen) 59 = .ok (.iinc 5 1, 3) := by decide +kernel
theorem d_U_widen_62 : decode (sk_cc m_U_widen) 62 = .ok (.goto (-54), 3) := by decide +kernel
theorem d_U_widen_65 : decode (sk_cc m_U_widen) 65 = .ok (.bipush 64, 2) := by decide +kernel
theorem d_U_widen_67 : decode (sk_cc m_U_widen) 67 = .ok (.iload_n 3, 1) := by decide +kernel
theorem d_U_widen_68 : decode (sk_cc m_U_widen) 68 = .ok (.imul, 1) := by decide +kernel
theorem d_U_widen_69 : decode (sk_cc m_U_widen) 69 = .ok (.iload 4, 2) := by decide +kernel
theorem d_U_widen_71 : decode (sk_cc m_U_widen) 71 = .ok (.iadd, 1) := by decide +kernel
theorem d_U_widen_72 : decode (sk_cc m_U_widen) 72 = .ok (.ireturn, 1) := by decide +kernel
theorem d_U_shows_0 : decode (sk_cc m_U_shows) 0 = .ok (.aload_n 0, 1) := by decide +kernel
theorem d_U_shows_1 : decode (sk_cc m_U_shows) 1 = .ok (.getfield 20, 3) := by decide +kernel
theorem d_U_shows_4 : decode (sk_cc m_U_shows) 4 = .ok (.iload_n 1, 1) := by decide +kernel
theorem d_U_shows_5 : decode (sk_cc m_U_shows) 5 = .ok (.iload_n 2, 1) := by decide +kernel
theorem d_U_shows_6 : decode (sk_cc m_U_shows) 6 = .ok (.iconst (-1), 1) := by decide +kernel
theorem d_U_shows_7 : decode (sk_cc m_U_shows) 7 = .ok (.invokevirtual 37, 3) := by decide +kernel
theorem d_U_shows_10 : decode (sk_cc m_U_shows) 10 = .ok (.aload_n 0, 1) := by decide +kernel
theorem d_U_shows_11 : decode (sk_cc m_U_shows) 11 = .ok (.getfield 24, 3) := by decide +kernel
theorem d_U_shows_14 : decode (sk_cc m_U_shows) 14 = .ok (.iload_n 1, 1) := by decide +kernel
theorem d_U_shows_15 : decode (sk_cc m_U_shows) 15 = .ok (.iload_n 2, 1) := by decide +kernel
theorem d_U_shows_16 : decode (sk_cc m_U_shows) 16 = .ok (.iload_n 3, 1) := by decide +kernel
theorem d_U_shows_17 : decode (sk_cc m_U_shows) 17 = .ok (.invokevirtual 37, 3) := by decide +kernel
theorem d_U_shows_20 : decode (sk_cc m_U_shows) 20 = .ok (.aload_n 0, 1) := by decide +kernel
theorem d_U_shows_21 : decode (sk_cc m_U_shows) 21 = .ok (.getfield 20, 3) := by decide +kernel
theorem d_U_shows_24 : decode (sk_cc m_U_shows) 24 = .ok (.aload_n 0, 1) := by decide +kernel
theorem d_U_shows_25 : decode (sk_cc m_U_shows) 25 = .ok (.getfield 24, 3) := by decide +kernel
theorem d_U_shows_28 : decode (sk_cc m_U_shows) 28 = .ok (.invokevirtual 41, 3) := by decide +kernel
theorem d_U_shows_31 : decode (sk_cc m_U_shows) 31 = .ok (.ireturn, 1) := by decide +kernel
theorem d_S_isContraryTo_0 : decode (sk_cc m_S_isContraryTo) 0 = .ok (.iconst 0, 1) := by decide +kernel
theorem d_S_isContraryTo_1 : decode (sk_cc m_S_isContraryTo) 1 = .ok (.istore_n 2, 1) := by decide +kernel
theorem d_S_isContraryTo_2 : decode (sk_cc m_S_isContraryTo) 2 = .ok (.iload_n 2, 1) := by decide +kernel
theorem d_S_isContraryTo_3 : decode (sk_cc m_S_isContraryTo) 3 = .ok (.aload_n 0, 1) := by decide +kernel
theorem d_S_isContraryTo_4 : decode (sk_cc m_S_isContraryTo) 4 = .ok (.getfield 32, 3) := by decide +kernel
theorem d_S_isContraryTo_7 : decode (sk_cc m_S_isContraryTo) 7 = .ok (.getfield 72, 3) := by decide +kernel
theorem d_S_isContraryTo_10 : decode (sk_cc m_S_isContraryTo) 10 = .ok (.if_icmp .ge 53, 3) := by decide +kernel
theorem d_S_isContraryTo_13 : decode (sk_cc m_S_isContraryTo) 13 = .ok (.aload_n 0, 1) := by decide +kernel
theorem d_S_isContraryTo_14 : decode (sk_cc m_S_isContraryTo) 14 = .ok (.getfield 32, 3) := by decide +kernel
theorem d_S_isContraryTo_17 : decode (sk_cc m_S_isContraryTo) 17 = .ok (.getfield 75, 3) := by decide +kernel
theorem d_S_isContraryTo_20 : decode (sk_cc m_S_isContraryTo) 20 = .ok (.iload_n 2, 1) := by decide +kernel
theorem d_S_isContraryTo_21 : decode (sk_cc m_S_isContraryTo) 21 = .ok (.iaload, 1) := by decide +kernel
theorem d_S_isContraryTo_22 : decode (sk_cc m_S_isContraryTo) 22 = .ok (.istore_n 3, 1) := by decide +kernel
theorem d_S_isContraryTo_23 : decode (sk_cc m_S_isContraryTo) 23 = .ok (.aload_n 0, 1) := by decide +kernel
theorem d_S_isContraryTo_24 : decode (sk_cc m_S_isContraryTo) 24 = .ok (.getfield 18, 3) := by decide +kernel
theorem d_S_isContraryTo_27 : decode (sk_cc m_S_isContraryTo) 27 = .ok (.iload_n 3, 1) := by decide +kernel
theorem d_S_isContraryTo_28 : decode (sk_cc m_S_isContraryTo) 28 = .ok (.laload, 1) := by decide +kernel
theorem d_S_isContraryTo_29 : decode (sk_cc m_S_isContraryTo) 29 = .ok (.aload_n 1, 1) := by decide +kernel
theorem d_S_isContraryTo_30 : decode (sk_cc m_S_isContraryTo) 30 = .ok (.getfield 21, 3) := by decide +kernel
theorem d_S_isContraryTo_33 : decode (sk_cc m_S_isContraryTo) 33 = .ok (.iload_n 3, 1) := by decide +kernel
theorem d_S_isContraryTo_34 : decode (sk_cc m_S_isContraryTo) 34 = .ok (.laload, 1) := by decide +kernel
theorem d_S_isContraryTo_35 : decode (sk_cc m_S_isContraryTo) 35 = .ok (.land, 1) := by decide +kernel
theorem d_S_isContraryTo_36 : decode (sk_cc m_S_isContraryTo) 36 = .ok (.aload_n 0, 1) := by decide +kernel
theorem d_S_isContraryTo_37 : decode (sk_cc m_S_isContraryTo) 37 = .ok (.getfield 21, 3) := by decide +kernel
theorem d_S_isContraryTo_40 : decode (sk_cc m_S_isContraryTo) 40 = .ok (.iload_n 3, 1) := by decide +kernel
theorem d_S_isContraryTo_41 : decode (sk_cc m_S_isContraryTo) 41 = .ok (.laload, 1) := by decide +kernel
theorem d_S_isContraryTo_42 : decode (sk_cc m_S_isContraryTo) 42 = .ok (.aload_n 1, 1) := by decide +kernel
theorem d_S_isContraryTo_43 : decode (sk_cc m_S_isContraryTo) 43 = .ok (.getfield 18, 3) := by decide +kernel
theorem d_S_isContraryTo_46 : decode (sk_cc m_S_isContraryTo) 46 = .ok (.iload_n 3, 1) := by decide +kernel
theorem d_S_isContraryTo_47 : decode (sk_cc m_S_isContraryTo) 47 = .ok (.laload, 1) := by decide +kernel
theorem d_S_isContraryTo_48 : decode (sk_cc m_S_isContraryTo) 48 = .ok (.land, 1) := by decide +kernel
theorem d_S_isContraryTo_49 : decode (sk_cc m_S_isContraryTo) 49 = .ok (.lor, 1) := by decide +kernel
theorem d_S_isContraryTo_50 : decode (sk_cc m_S_isContraryTo) 50 = .ok (.lconst 0, 1) := by decide +kernel
theorem d_S_isContraryTo_51 : decode (sk_cc m_S_isContraryTo) 51 = .ok (.lcmp, 1) := by decide +kernel
theorem d_S_isContraryTo_52 : decode (sk_cc m_S_isContraryTo) 52 = .ok (.ifCond .eq 5, 3) := by decide +kernel
theorem d_S_isContraryTo_55 : decode (sk_cc m_S_isContraryTo) 55 = .ok (.iconst 1, 1) := by decide +kernel
theorem d_S_isContraryTo_56 : decode (sk_cc m_S_isContraryTo) 56 = .ok (.ireturn, 1) := by decide +kernel
theorem d_S_isContraryTo_57 : decode (sk_cc m_S_isContraryTo) 57 = .ok (.iinc 2 1, 3) := by decide +kernel
theorem d_S_isContraryTo_60 : decode (sk_cc m_S_isContraryTo) 60 = .ok (.goto (-58), 3) := by decide +kernel
theorem d_S_isContraryTo_63 : decode (sk_cc m_S_isContraryTo) 63 = .ok (.iconst 0, 1) := by decide +kernel
theorem d_S_isContraryTo_64 : decode (sk_cc m_S_isContraryTo) 64 = .ok (.ireturn, 1) := by decide +kernel
theorem d_L_log_0 : decode (sk_cc m_L_log) 0 = .ok (.aload_n 3, 1) := by decide +kernel
theorem d_L_log_1 : decode (sk_cc m_L_log) 1 = .ok (.iconst 0, 1) := by decide +kernel
theorem d_L_log_2 : decode (sk_cc m_L_log) 2 = .ok (.aload_n 0, 1) := by decide +kernel
theorem d_L_log_3 : decode (sk_cc m_L_log) 3 = .ok (.iload_n 1, 1) := by decide +kernel
theorem d_L_log_4 : decode (sk_cc m_L_log) 4 = .ok (.iload_n 2, 1) := by decide +kernel
theorem d_L_log_5 : decode (sk_cc m_L_log) 5 = .ok (.invokevirtual 61, 3) := by decide +kernel
theorem d_L_log_8 : decode (sk_cc m_L_log) 8 = .ok (.i2l, 1) := by decide +kernel
theorem d_L_log_9 : decode (sk_cc m_L_log) 9 = .ok (.lastore, 1) := by decide +kernel
theorem d_L_log_10 : decode (sk_cc m_L_log) 10 = .ok (.goto 15, 3) := by decide +kernel
theorem d_L_log_13 : decode (sk_cc m_L_log) 13 = .ok (.astore 4, 2) := by decide +kernel
theorem d_L_log_15 : decode (sk_cc m_L_log) 15 = .ok (.iconst 1, 1) := by decide +kernel
theorem d_L_log_16 : decode (sk_cc m_L_log) 16 = .ok (.ireturn, 1) := by decide +kernel
theorem d_L_log_17 : decode (sk_cc m_L_log) 17 = .ok (.astore 4, 2) := by decide +kernel
theorem d_L_log_19 : decode (sk_cc m_L_log) 19 = .ok (.iconst 2, 1) := by decide +kernel
theorem d_L_log_20 : decode (sk_cc m_L_log) 20 = .ok (.ireturn, 1) := by decide +kernel
theorem d_L_log_21 : decode (sk_cc m_L_log) 21 = .ok (.astore 4, 2) := by decide +kernel
theorem d_L_log_23 : decode (sk_cc m_L_log) 23 = .ok (.iconst 3, 1) := by decide +kernel
theorem d_L_log_24 : decode (sk_cc m_L_log) 24 = .ok (.ireturn, 1) := by decide +kernel
theorem d_L_log_25 : decode (sk_cc m_L_log) 25 = .ok (.iconst 0, 1) := by decide +kernel
theorem d_L_log_26 : decode (sk_cc m_L_log) 26 = .ok (.ireturn, 1) := by decide +kernel
theorem d_X_log_0 : decode (sk_cc m_X_log) 0 = .ok (.aload_n 0, 1) := by decide +kernel
theorem d_X_log_1 : decode (sk_cc m_X_log) 1 = .ok (.iload_n 1, 1) := by decide +kernel
theorem d_X_log_2 : decode (sk_cc m_X_log) 2 = .ok (.invokevirtual 140, 3) := by decide +kernel
theorem d_X_log_5 : decode (sk_cc m_X_log) 5 = .ok (.iload_n 2, 1) := by decide +kernel
theorem d_X_log_6 : decode (sk_cc m_X_log) 6 = .ok (.ifCond .lt 10, 3) := by decide +kernel
theorem d_X_log_9 : decode (sk_cc m_X_log) 9 = .ok (.iload_n 2, 1) := by decide +kernel
theorem d_X_log_10 : decode (sk_cc m_X_log) 10 = .ok (.sipush 4096, 3) := by decide +kernel
theorem d_X_log_13 : decode (sk_cc m_X_log) 13 = .ok (.if_icmp .lt 13, 3) := by decide +kernel
theorem d_X_log_16 : decode (sk_cc m_X_log) 16 = .ok (.new 79, 3) := by decide +kernel
theorem d_X_log_19 : decode (sk_cc m_X_log) 19 = .ok (.dup, 1) := by decide +kernel
theorem d_X_log_20 : decode (sk_cc m_X_log) 20 = .ok (.ldc 210, 2) := by decide +kernel
theorem d_X_log_22 : decode (sk_cc m_X_log) 22 = .ok (.invokespecial 83, 3) := by decide +kernel
theorem d_X_log_25 : decode (sk_cc m_X_log) 25 = .ok (.athrow, 1) := by decide +kernel
theorem d_X_log_26 : decode (sk_cc m_X_log) 26 = .ok (.aload_n 0, 1) := by decide +kernel
theorem d_X_log_27 : decode (sk_cc m_X_log) 27 = .ok (.getfield 53, 3) := by decide +kernel
theorem d_X_log_30 : decode (sk_cc m_X_log) 30 = .ok (.getfield 212, 3) := by decide +kernel
theorem d_X_log_33 : decode (sk_cc m_X_log) 33 = .ok (.bipush 16, 2) := by decide +kernel
theorem d_X_log_35 : decode (sk_cc m_X_log) 35 = .ok (.if_icmp .lt 13, 3) := by decide +kernel
theorem d_X_log_38 : decode (sk_cc m_X_log) 38 = .ok (.new 68, 3) := by decide +kernel
theorem d_X_log_41 : decode (sk_cc m_X_log) 41 = .ok (.dup, 1) := by decide +kernel
theorem d_X_log_42 : decode (sk_cc m_X_log) 42 = .ok (.ldc 215, 2) := by decide +kernel
theorem d_X_log_44 : decode (sk_cc m_X_log) 44 = .ok (.invokespecial 72, 3) := by decide +kernel
theorem d_X_log_47 : decode (sk_cc m_X_log) 47 = .ok (.athrow, 1) := by decide +kernel
theorem d_X_log_48 : decode (sk_cc m_X_log) 48 = .ok (.aload_n 0, 1) := by decide +kernel
theorem d_X_log_49 : decode (sk_cc m_X_log) 49 = .ok (.getfield 53, 3) := by decide +kernel
theorem d_X_log_52 : decode (sk_cc m_X_log) 52 = .ok (.iload_n 1, 1) := by decide +kernel
theorem d_X_log_53 : decode (sk_cc m_X_log) 53 = .ok (.iload_n 2, 1) := by decide +kernel
theorem d_X_log_54 : decode (sk_cc m_X_log) 54 = .ok (.invokevirtual 217, 3) := by decide +kernel
theorem d_X_log_57 : decode (sk_cc m_X_log) 57 = .ok (.ireturn, 1) := by decide +kernel
theorem d_G_add_0 : decode (sk_cc m_G_add) 0 = .ok (.aload_n 0, 1) := by decide +kernel
theorem d_G_add_1 : decode (sk_cc m_G_add) 1 = .ok (.getfield 9, 3) := by decide +kernel
theorem d_G_add_4 : decode (sk_cc m_G_add) 4 = .ok (.aload_n 0, 1) := by decide +kernel
theorem d_G_add_5 : decode (sk_cc m_G_add) 5 = .ok (.getfield 18, 3) := by decide +kernel
theorem d_G_add_8 : decode (sk_cc m_G_add) 8 = .ok (.iload_n 1, 1) := by decide +kernel
theorem d_G_add_9 : decode (sk_cc m_G_add) 9 = .ok (.iastore, 1) := by decide +kernel
theorem d_G_add_10 : decode (sk_cc m_G_add) 10 = .ok (.aload_n 0, 1) := by decide +kernel
theorem d_G_add_11 : decode (sk_cc m_G_add) 11 = .ok (.getfield 15, 3) := by decide +kernel
theorem d_G_add_14 : decode (sk_cc m_G_add) 14 = .ok (.aload_n 0, 1) := by decide +kernel
theorem d_G_add_15 : decode (sk_cc m_G_add) 15 = .ok (.getfield 18, 3) := by decide +kernel
theorem d_G_add_18 : decode (sk_cc m_G_add) 18 = .ok (.iload_n 2, 1) := by decide +kernel
theorem d_G_add_19 : decode (sk_cc m_G_add) 19 = .ok (.iastore, 1) := by decide +kernel
theorem d_G_add_20 : decode (sk_cc m_G_add) 20 = .ok (.aload_n 0, 1) := by decide +kernel
theorem d_G_add_21 : decode (sk_cc m_G_add) 21 = .ok (.dup, 1) := by decide +kernel
theorem d_G_add_22 : decode (sk_cc m_G_add) 22 = .ok (.getfield 18, 3) := by decide +kernel
theorem d_G_add_25 : decode (sk_cc m_G_add) 25 = .ok (.iconst 1, 1) := by decide +kernel
theorem d_G_add_26 : decode (sk_cc m_G_add) 26 = .ok (.iadd, 1) := by decide +kernel
theorem d_G_add_27 : decode (sk_cc m_G_add) 27 = .ok (.putfield 18, 3) := by decide +kernel
theorem d_G_add_30 : decode (sk_cc m_G_add) 30 = .ok (.aload_n 0, 1) := by decide +kernel
theorem d_G_add_31 : decode (sk_cc m_G_add) 31 = .ok (.getfield 18, 3) := by decide +kernel
theorem d_G_add_34 : decode (sk_cc m_G_add) 34 = .ok (.ireturn, 1) := by decide +kernel
theorem d_M_init_0 : decode (sk_cc m_M_init) 0 = .ok (.aload_n 0, 1) := by decide +kernel
theorem d_M_init_1 : decode (sk_cc m_M_init) 1 = .ok (.invokespecial 1, 3) := by decide +kernel
theorem d_M_init_4 : decode (sk_cc m_M_init) 4 = .ok (.aload_n 0, 1) := by decide +kernel
theorem d_M_init_5 : decode (sk_cc m_M_init) 5 = .ok (.bipush 26, 2) := by decide +kernel
theorem d_M_init_7 : decode (sk_cc m_M_init) 7 = .ok (.newarray .int, 2) := by decide +kernel
theorem d_M_init_9 : decode (sk_cc m_M_init) 9 = .ok (.putfield 7, 3) := by decide +kernel
theorem d_M_init_12 : decode (sk_cc m_M_init) 12 = .ok (.aload_n 0, 1) := by decide +kernel
theorem d_M_init_13 : decode (sk_cc m_M_init) 13 = .ok (.bipush 26, 2) := by decide +kernel
theorem d_M_init_15 : decode (sk_cc m_M_init) 15 = .ok (.newarray .int, 2) := by decide +kernel
theorem d_M_init_17 : decode (sk_cc m_M_init) 17 = .ok (.putfield 13, 3) := by decide +kernel
theorem d_M_init_20 : decode (sk_cc m_M_init) 20 = .ok (.aload_n 0, 1) := by decide +kernel
theorem d_M_init_21 : decode (sk_cc m_M_init) 21 = .ok (.bipush 78, 2) := by decide +kernel
theorem d_M_init_23 : decode (sk_cc m_M_init) 23 = .ok (.newarray .int, 2) := by decide +kernel
theorem d_M_init_25 : decode (sk_cc m_M_init) 25 = .ok (.putfield 16, 3) := by decide +kernel
theorem d_M_init_28 : decode (sk_cc m_M_init) 28 = .ok (.aload_n 0, 1) := by decide +kernel
theorem d_M_init_29 : decode (sk_cc m_M_init) 29 = .ok (.bipush 26, 2) := by decide +kernel
theorem d_M_init_31 : decode (sk_cc m_M_init) 31 = .ok (.newarray .int, 2) := by decide +kernel
theorem d_M_init_33 : decode (sk_cc m_M_init) 33 = .ok (.putfield 19, 3) := by decide +kernel
theorem d_M_init_36 : decode (sk_cc m_M_init) 36 = .ok (.aload_n 0, 1) := by decide +kernel
theorem d_M_init_37 : decode (sk_cc m_M_init) 37 = .ok (.bipush 6, 2) := by decide +kernel
theorem d_M_init_39 : decode (sk_cc m_M_init) 39 = .ok (.newarray .int, 2) := by decide +kernel
theorem d_M_init_41 : decode (sk_cc m_M_init) 41 = .ok (.putfield 22, 3) := by decide +kernel
theorem d_M_init_44 : decode (sk_cc m_M_init) 44 = .ok (.aload_n 0, 1) := by decide +kernel
theorem d_M_init_45 : decode (sk_cc m_M_init) 45 = .ok (.bipush 6, 2) := by decide +kernel
theorem d_M_init_47 : decode (sk_cc m_M_init) 47 = .ok (.newarray .boolean, 2) := by decide +kernel
theorem d_M_init_49 : decode (sk_cc m_M_init) 49 = .ok (.putfield 25, 3) := by decide +kernel
theorem d_M_init_52 : decode (sk_cc m_M_init) 52 = .ok (.aload_n 0, 1) := by decide +kernel
theorem d_M_init_53 : decode (sk_cc m_M_init) 53 = .ok (.bipush 6, 2) := by decide +kernel
theorem d_M_init_55 : decode (sk_cc m_M_init) 55 = .ok (.newarray .int, 2) := by decide +kernel
theorem d_M_init_57 : decode (sk_cc m_M_init) 57 = .ok (.putfield 29, 3) := by decide +kernel
theorem d_M_init_60 : decode (sk_cc m_M_init) 60 = .ok (.aload_n 0, 1) := by decide +kernel
theorem d_M_init_61 : decode (sk_cc m_M_init) 61 = .ok (.bipush 6, 2) := by decide +kernel
theorem d_M_init_63 : decode (sk_cc m_M_init) 63 = .ok (.newarray .int, 2) := by decide +kernel
theorem d_M_init_65 : decode (sk_cc m_M_init) 65 = .ok (.putfield 32, 3) := by decide +kernel
theorem d_M_init_68 : decode (sk_cc m_M_init) 68 = .ok (.aload_n 0, 1) := by decide +kernel
theorem d_M_init_69 : decode (sk_cc m_M_init) 69 = .ok (.bipush 12, 2) := by decide +kernel
theorem d_M_init_71 : decode (sk_cc m_M_init) 71 = .ok (.newarray .int, 2) := by decide +kernel
theorem d_M_init_73 : decode (sk_cc m_M_init) 73 = .ok (.putfield 35, 3) := by decide +kernel
theorem d_M_init_76 : decode (sk_cc m_M_init) 76 = .ok (.aload_n 0, 1) := by decide +kernel
theorem d_M_init_77 : decode (sk_cc m_M_init) 77 = .ok (.bipush 104, 2) := by decide +kernel
theorem d_M_init_79 : decode (sk_cc m_M_init) 79 = .ok (.newarray .int, 2) := by decide +kernel
theorem d_M_init_81 : decode (sk_cc m_M_init) 81 = .ok (.putfield 38, 3) := by decide +kernel
theorem d_M_init_84 : decode (sk_cc m_M_init) 84 = .ok (.aload_n 0, 1) := by decide +kernel
theorem d_M_init_85 : decode (sk_cc m_M_init) 85 = .ok (.bipush 104, 2) := by decide +kernel
theorem d_M_init_87 : decode (sk_cc m_M_init) 87 = .ok (.newarray .int, 2) := by decide +kernel
theorem d_M_init_89 : decode (sk_cc m_M_init) 89 = .ok (.putfield 41, 3) := by decide +kernel
theorem d_M_init_92 : decode (sk_cc m_M_init) 92 = .ok (.aload_n 0, 1) := by decide +kernel
theorem d_M_init_93 : decode (sk_cc m_M_init) 93 = .ok (.bipush 26, 2) := by decide +kernel
theorem d_M_init_95 : decode (sk_cc m_M_init) 95 = .ok (.newarray .int, 2) := by decide +kernel
theorem d_M_init_97 : decode (sk_cc m_M_init) 97 = .ok (.putfield 44, 3) := by decide +kernel
theorem d_M_init_100 : decode (sk_cc m_M_init) 100 = .ok (.aload_n 0, 1) := by decide +kernel
theorem d_M_init_101 : decode (sk_cc m_M_init) 101 = .ok (.bipush 12, 2) := by decide +kernel
theorem d_M_init_103 : decode (sk_cc m_M_init) 103 = .ok (.newarray .int, 2) := by decide +kernel
theorem d_M_init_105 : decode (sk_cc m_M_init) 105 = .ok (.putfield 47, 3) := by decide +kernel
theorem d_M_init_108 : decode (sk_cc m_M_init) 108 = .ok (.aload_n 0, 1) := by decide +kernel
theorem d_M_init_109 : decode (sk_cc m_M_init) 109 = .ok (.sipush 13312, 3) := by decide +kernel
theorem d_M_init_112 : decode (sk_cc m_M_init) 112 = .ok (.newarray .int, 2) := by decide +kernel
theorem d_M_init_114 : decode (sk_cc m_M_init) 114 = .ok (.putfield 50, 3) := by decide +kernel
theorem d_M_init_117 : decode (sk_cc m_M_init) 117 = .ok (.aload_n 0, 1) := by decide +kernel
theorem d_M_init_118 : decode (sk_cc m_M_init) 118 = .ok (.bipush 64, 2) := by decide +kernel
theorem d_M_init_120 : decode (sk_cc m_M_init) 120 = .ok (.newarray .int, 2) := by decide +kernel
theorem d_M_init_122 : decode (sk_cc m_M_init) 122 = .ok (.putfield 53, 3) := by decide +kernel
theorem d_M_init_125 : decode (sk_cc m_M_init) 125 = .ok (.aload_n 0, 1) := by decide +kernel
theorem d_M_init_126 : decode (sk_cc m_M_init) 126 = .ok (.bipush 64, 2) := by decide +kernel
theorem d_M_init_128 : decode (sk_cc m_M_init) 128 = .ok (.newarray .int, 2) := by decide +kernel
theorem d_M_init_130 : decode (sk_cc m_M_init) 130 = .ok (.putfield 56, 3) := by decide +kernel
theorem d_M_init_133 : decode (sk_cc m_M_init) 133 = .ok (.aload_n 0, 1) := by decide +kernel
theorem d_M_init_134 : decode (sk_cc m_M_init) 134 = .ok (.bipush 64, 2) := by decide +kernel
theorem d_M_init_136 : decode (sk_cc m_M_init) 136 = .ok (.newarray .boolean, 2) := by decide +kernel
theorem d_M_init_138 : decode (sk_cc m_M_init) 138 = .ok (.putfield 59, 3) := by decide +kernel
theorem d_M_init_141 : decode (sk_cc m_M_init) 141 = .ok (.aload_n 0, 1) := by decide +kernel
theorem d_M_init_142 : decode (sk_cc m_M_init) 142 = .ok (.bipush 16, 2) := by decide +kernel
theorem d_M_init_144 : decode (sk_cc m_M_init) 144 = .ok (.newarray .int, 2) := by decide +kernel
theorem d_M_init_146 : decode (sk_cc m_M_init) 146 = .ok (.putfield 62, 3) := by decide +kernel
theorem d_M_init_149 : decode (sk_cc m_M_init) 149 = .ok (.aload_n 0, 1) := by decide +kernel
theorem d_M_init_150 : decode (sk_cc m_M_init) 150 = .ok (.bipush 16, 2) := by decide +kernel
theorem d_M_init_152 : decode (sk_cc m_M_init) 152 = .ok (.newarray .int, 2) := by decide +kernel
theorem d_M_init_154 : decode (sk_cc m_M_init) 154 = .ok (.putfield 65, 3) := by decide +kernel
theorem d_M_init_157 : decode (sk_cc m_M_init) 157 = .ok (.return_, 1) := by decide +kernel
theorem d_M_thrown_0 : decode (sk_cc m_M_thrown) 0 = .ok (.aload_n 0, 1) := by decide +kernel
theorem d_M_thrown_1 : decode (sk_cc m_M_thrown) 1 = .ok (.getfield 68, 3) := by decide +kernel
theorem d_M_thrown_4 : decode (sk_cc m_M_thrown) 4 = .ok (.ireturn, 1) := by decide +kernel
theorem d_M_clear_0 : decode (sk_cc m_M_clear) 0 = .ok (.aload_n 0, 1) := by decide +kernel
theorem d_M_clear_1 : decode (sk_cc m_M_clear) 1 = .ok (.iconst 0, 1) := by decide +kernel
theorem d_M_clear_2 : decode (sk_cc m_M_clear) 2 = .ok (.putfield 68, 3) := by decide +kernel
theorem d_M_clear_5 : decode (sk_cc m_M_clear) 5 = .ok (.aload_n 0, 1) := by decide +kernel
theorem d_M_clear_6 : decode (sk_cc m_M_clear) 6 = .ok (.iconst 0, 1) := by decide +kernel
theorem d_M_clear_7 : decode (sk_cc m_M_clear) 7 = .ok (.putfield 72, 3) := by decide +kernel
theorem d_M_clear_10 : decode (sk_cc m_M_clear) 10 = .ok (.aload_n 0, 1) := by decide +kernel
theorem d_M_clear_11 : decode (sk_cc m_M_clear) 11 = .ok (.iconst 0, 1) := by decide +kernel
theorem d_M_clear_12 : decode (sk_cc m_M_clear) 12 = .ok (.putfield 75, 3) := by decide +kernel
theorem d_M_clear_15 : decode (sk_cc m_M_clear) 15 = .ok (.aload_n 0, 1) := by decide +kernel
theorem d_M_clear_16 : decode (sk_cc m_M_clear) 16 = .ok (.iconst 0, 1) := by decide +kernel
theorem d_M_clear_17 : decode (sk_cc m_M_clear) 17 = .ok (.putfield 94, 3) := by decide +kernel
theorem d_M_clear_20 : decode (sk_cc m_M_clear) 20 = .ok (.aload_n 0, 1) := by decide +kernel
theorem d_M_clear_21 : decode (sk_cc m_M_clear) 21 = .ok (.invokevirtual 97, 3) := by decide +kernel
theorem d_M_clear_24 : decode (sk_cc m_M_clear) 24 = .ok (.return_, 1) := by decide +kernel
theorem d_M_built_0 : decode (sk_cc m_M_built) 0 = .ok (.aload_n 0, 1) := by decide +kernel
theorem d_M_built_1 : decode (sk_cc m_M_built) 1 = .ok (.iconst 0, 1) := by decide +kernel
theorem d_M_built_2 : decode (sk_cc m_M_built) 2 = .ok (.putfield 81, 3) := by decide +kernel
theorem d_M_built_5 : decode (sk_cc m_M_built) 5 = .ok (.aload_n 0, 1) := by decide +kernel
theorem d_M_built_6 : decode (sk_cc m_M_built) 6 = .ok (.iconst 0, 1) := by decide +kernel
theorem d_M_built_7 : decode (sk_cc m_M_built) 7 = .ok (.putfield 85, 3) := by decide +kernel
theorem d_M_built_10 : decode (sk_cc m_M_built) 10 = .ok (.aload_n 0, 1) := by decide +kernel
theorem d_M_built_11 : decode (sk_cc m_M_built) 11 = .ok (.iconst 0, 1) := by decide +kernel
theorem d_M_built_12 : decode (sk_cc m_M_built) 12 = .ok (.putfield 88, 3) := by decide +kernel
theorem d_M_built_15 : decode (sk_cc m_M_built) 15 = .ok (.aload_n 0, 1) := by decide +kernel
theorem d_M_built_16 : decode (sk_cc m_M_built) 16 = .ok (.iconst 0, 1) := by decide +kernel
theorem d_M_built_17 : decode (sk_cc m_M_built) 17 = .ok (.putfield 91, 3) := by decide +kernel
theorem d_M_built_20 : decode (sk_cc m_M_built) 20 = .ok (.iconst 0, 1) := by decide +kernel
theorem d_M_built_21 : decode (sk_cc m_M_built) 21 = .ok (.istore_n 1, 1) := by decide +kernel
theorem d_M_built_22 : decode (sk_cc m_M_built) 22 = .ok (.iload_n 1, 1) := by decide +kernel
theorem d_M_built_23 : decode (sk_cc m_M_built) 23 = .ok (.aload_n 0, 1) := by decide +kernel
theorem d_M_built_24 : decode (sk_cc m_M_built) 24 = .ok (.getfield 94, 3) := by decide +kernel
theorem d_M_built_27 : decode (sk_cc m_M_built) 27 = .ok (.if_icmp .ge 34, 3) := by decide +kernel
theorem d_M_built_30 : decode (sk_cc m_M_built) 30 = .ok (.aload_n 0, 1) := by decide +kernel
theorem d_M_built_31 : decode (sk_cc m_M_built) 31 = .ok (.getfield 35, 3) := by decide +kernel
theorem d_M_built_34 : decode (sk_cc m_M_built) 34 = .ok (.aload_n 0, 1) := by decide +kernel
theorem d_M_built_35 : decode (sk_cc m_M_built) 35 = .ok (.getfield 91, 3) := by decide +kernel
theorem d_M_built_38 : decode (sk_cc m_M_built) 38 = .ok (.aload_n 0, 1) := by decide +kernel
theorem d_M_built_39 : decode (sk_cc m_M_built) 39 = .ok (.getfield 32, 3) := by decide +kernel
theorem d_M_built_42 : decode (sk_cc m_M_built) 42 = .ok (.iload_n 1, 1) := by decide +kernel
theorem d_M_built_43 : decode (sk_cc m_M_built) 43 = .ok (.iaload, 1) := by decide +kernel
theorem d_M_built_44 : decode (sk_cc m_M_built) 44 = .ok (.iastore, 1) := by decide +kernel
theorem d_M_built_45 : decode (sk_cc m_M_built) 45 = .ok (.aload_n 0, 1) := by decide +kernel
theorem d_M_built_46 : decode (sk_cc m_M_built) 46 = .ok (.dup, 1) := by decide +kernel
theorem d_M_built_47 : decode (sk_cc m_M_built) 47 = .ok (.getfield 91, 3) := by decide +kernel
theorem d_M_built_50 : decode (sk_cc m_M_built) 50 = .ok (.iconst 1, 1) := by decide +kernel
theorem d_M_built_51 : decode (sk_cc m_M_built) 51 = .ok (.iadd, 1) := by decide +kernel
theorem d_M_built_52 : decode (sk_cc m_M_built) 52 = .ok (.putfield 91, 3) := by decide +kernel
theorem d_M_built_55 : decode (sk_cc m_M_built) 55 = .ok (.iinc 1 1, 3) := by decide +kernel
theorem d_M_built_58 : decode (sk_cc m_M_built) 58 = .ok (.goto (-36), 3) := by decide +kernel
theorem d_M_built_61 : decode (sk_cc m_M_built) 61 = .ok (.iconst 0, 1) := by decide +kernel
theorem d_M_built_62 : decode (sk_cc m_M_built) 62 = .ok (.istore_n 1, 1) := by decide +kernel
theorem d_M_built_63 : decode (sk_cc m_M_built) 63 = .ok (.iload_n 1, 1) := by decide +kernel
theorem d_M_built_64 : decode (sk_cc m_M_built) 64 = .ok (.aload_n 0, 1) := by decide +kernel
theorem d_M_built_65 : decode (sk_cc m_M_built) 65 = .ok (.getfield 75, 3) := by decide +kernel
theorem d_M_built_68 : decode (sk_cc m_M_built) 68 = .ok (.if_icmp .ge 52, 3) := by decide +kernel
theorem d_M_built_71 : decode (sk_cc m_M_built) 71 = .ok (.aload_n 0, 1) := by decide +kernel
theorem d_M_built_72 : decode (sk_cc m_M_built) 72 = .ok (.getfield 25, 3) := by decide +kernel
theorem d_M_built_75 : decode (sk_cc m_M_built) 75 = .ok (.iload_n 1, 1) := by decide +kernel
theorem d_M_built_76 : decode (sk_cc m_M_built) 76 = .ok (.baload, 1) := by decide +kernel
theorem d_M_built_77 : decode (sk_cc m_M_built) 77 = .ok (.ifCond .eq 37, 3) := by decide +kernel
theorem d_M_built_80 : decode (sk_cc m_M_built) 80 = .ok (.aload_n 0, 1) := by decide +kernel
theorem d_M_built_81 : decode (sk_cc m_M_built) 81 = .ok (.getfield 29, 3) := by decide +kernel
theorem d_M_built_84 : decode (sk_cc m_M_built) 84 = .ok (.iload_n 1, 1) := by decide +kernel
theorem d_M_built_85 : decode (sk_cc m_M_built) 85 = .ok (.iaload, 1) := by decide +kernel
theorem d_M_built_86 : decode (sk_cc m_M_built) 86 = .ok (.ifCond .lt 28, 3) := by decide +kernel
theorem d_M_built_89 : decode (sk_cc m_M_built) 89 = .ok (.aload_n 0, 1) := by decide +kernel
theorem d_M_built_90 : decode (sk_cc m_M_built) 90 = .ok (.getfield 35, 3) := by decide +kernel
theorem d_M_built_93 : decode (sk_cc m_M_built) 93 = .ok (.aload_n 0, 1) := by decide +kernel
theorem d_M_built_94 : decode (sk_cc m_M_built) 94 = .ok (.getfield 91, 3) := by decide +kernel
theorem d_M_built_97 : decode (sk_cc m_M_built) 97 = .ok (.aload_n 0, 1) := by decide +kernel
theorem d_M_built_98 : decode (sk_cc m_M_built) 98 = .ok (.getfield 29, 3) := by decide +kernel
theorem d_M_built_101 : decode (sk_cc m_M_built) 101 = .ok (.iload_n 1, 1) := by decide +kernel
theorem d_M_built_102 : decode (sk_cc m_M_built) 102 = .ok (.iaload, 1) := by decide +kernel
theorem d_M_built_103 : decode (sk_cc m_M_built) 103 = .ok (.iastore, 1) := by decide +kernel
theorem d_M_built_104 : decode (sk_cc m_M_built) 104 = .ok (.aload_n 0, 1) := by decide +kernel
theorem d_M_built_105 : decode (sk_cc m_M_built) 105 = .ok (.dup, 1) := by decide +kernel
theorem d_M_built_106 : decode (sk_cc m_M_built) 106 = .ok (.getfield 91, 3) := by decide +kernel
theorem d_M_built_109 : decode (sk_cc m_M_built) 109 = .ok (.iconst 1, 1) := by decide +kernel
theorem d_M_built_110 : decode (sk_cc m_M_built) 110 = .ok (.iadd, 1) := by decide +kernel
theorem d_M_built_111 : decode (sk_cc m_M_built) 111 = .ok (.putfield 91, 3) := by decide +kernel
theorem d_M_built_114 : decode (sk_cc m_M_built) 114 = .ok (.iinc 1 1, 3) := by decide +kernel
theorem d_M_built_117 : decode (sk_cc m_M_built) 117 = .ok (.goto (-54), 3) := by decide +kernel
theorem d_M_built_120 : decode (sk_cc m_M_built) 120 = .ok (.aload_n 0, 1) := by decide +kernel
theorem d_M_built_121 : decode (sk_cc m_M_built) 121 = .ok (.iconst 0, 1) := by decide +kernel
theorem d_M_built_122 : decode (sk_cc m_M_built) 122 = .ok (.putfield 78, 3) := by decide +kernel
theorem d_M_built_125 : decode (sk_cc m_M_built) 125 = .ok (.iconst 0, 1) := by decide +kernel
theorem d_M_built_126 : decode (sk_cc m_M_built) 126 = .ok (.istore_n 1, 1) := by decide +kernel
theorem d_M_built_127 : decode (sk_cc m_M_built) 127 = .ok (.iload_n 1, 1) := by decide +kernel
theorem d_M_built_128 : decode (sk_cc m_M_built) 128 = .ok (.aload_n 0, 1) := by decide +kernel
theorem d_M_built_129 : decode (sk_cc m_M_built) 129 = .ok (.getfield 72, 3) := by decide +kernel
theorem d_M_built_132 : decode (sk_cc m_M_built) 132 = .ok (.if_icmp .ge 39, 3) := by decide +kernel
theorem d_M_built_135 : decode (sk_cc m_M_built) 135 = .ok (.aload_n 0, 1) := by decide +kernel
theorem d_M_built_136 : decode (sk_cc m_M_built) 136 = .ok (.getfield 38, 3) := by decide +kernel
theorem d_M_built_139 : decode (sk_cc m_M_built) 139 = .ok (.aload_n 0, 1) := by decide +kernel
theorem d_M_built_140 : decode (sk_cc m_M_built) 140 = .ok (.getfield 78, 3) := by decide +kernel
theorem d_M_built_143 : decode (sk_cc m_M_built) 143 = .ok (.iload_n 1, 1) := by decide +kernel
theorem d_M_built_144 : decode (sk_cc m_M_built) 144 = .ok (.iastore, 1) := by decide +kernel
theorem d_M_built_145 : decode (sk_cc m_M_built) 145 = .ok (.aload_n 0, 1) := by decide +kernel
theorem d_M_built_146 : decode (sk_cc m_M_built) 146 = .ok (.getfield 41, 3) := by decide +kernel
theorem d_M_built_149 : decode (sk_cc m_M_built) 149 = .ok (.aload_n 0, 1) := by decide +kernel
end
section
/-! decode rows -/
theorem d_M_built_150 : decode (sk_cc m_M_built) 150 = .ok (.getfield 78, 3) := by decide +kernel
theorem d_M_built_153 : decode (sk_cc m_M_built) 153 = .ok (.iconst (-1), 1) := by decide +kernel
theorem d_M_built_154 : decode (sk_cc m_M_built) 154 = .ok (.iastore, 1) := by decide +kernel
theorem d_M_built_155 : decode (sk_cc m_M_built) 155 = .ok (.aload_n 0, 1) := by decide +kernel
theorem d_M_built_156 : decode (sk_cc m_M_built) 156 = .ok (.dup, 1) := by decide +kernel
theorem d_M_built_157 : decode (sk_cc m_M_built) 157 = .ok (.getfield 78, 3) := by decide +kernel
theorem d_M_built_160 : decode (sk_cc m_M_built) 160 = .ok (.iconst 1, 1) := by decide +kernel
theorem d_M_built_161 : decode (sk_cc m_M_built) 161 = .ok (.iadd, 1) := by decide +kernel
theorem d_M_built_162 : decode (sk_cc m_M_built) 162 = .ok (.putfield 78, 3) := by decide +kernel
theorem d_M_built_165 : decode (sk_cc m_M_built) 165 = .ok (.iinc 1 1, 3) := by decide +kernel
theorem d_M_built_168 : decode (sk_cc m_M_built) 168 = .ok (.goto (-41), 3) := by decide +kernel
theorem d_M_built_171 : decode (sk_cc m_M_built) 171 = .ok (.iconst 0, 1) := by decide +kernel
theorem d_M_built_172 : decode (sk_cc m_M_built) 172 = .ok (.istore_n 1, 1) := by decide +kernel
theorem d_M_built_173 : decode (sk_cc m_M_built) 173 = .ok (.iload_n 1, 1) := by decide +kernel
theorem d_M_built_174 : decode (sk_cc m_M_built) 174 = .ok (.aload_n 0, 1) := by decide +kernel
theorem d_M_built_175 : decode (sk_cc m_M_built) 175 = .ok (.getfield 72, 3) := by decide +kernel
theorem d_M_built_178 : decode (sk_cc m_M_built) 178 = .ok (.if_icmp .ge 57, 3) := by decide +kernel
theorem d_M_built_181 : decode (sk_cc m_M_built) 181 = .ok (.iconst 0, 1) := by decide +kernel
theorem d_M_built_182 : decode (sk_cc m_M_built) 182 = .ok (.istore_n 2, 1) := by decide +kernel
theorem d_M_built_183 : decode (sk_cc m_M_built) 183 = .ok (.iload_n 2, 1) := by decide +kernel
theorem d_M_built_184 : decode (sk_cc m_M_built) 184 = .ok (.aload_n 0, 1) := by decide +kernel
theorem d_M_built_185 : decode (sk_cc m_M_built) 185 = .ok (.getfield 19, 3) := by decide +kernel
theorem d_M_built_188 : decode (sk_cc m_M_built) 188 = .ok (.iload_n 1, 1) := by decide +kernel
theorem d_M_built_189 : decode (sk_cc m_M_built) 189 = .ok (.iaload, 1) := by decide +kernel
theorem d_M_built_190 : decode (sk_cc m_M_built) 190 = .ok (.if_icmp .ge 39, 3) := by decide +kernel
theorem d_M_built_193 : decode (sk_cc m_M_built) 193 = .ok (.aload_n 0, 1) := by decide +kernel
theorem d_M_built_194 : decode (sk_cc m_M_built) 194 = .ok (.getfield 38, 3) := by decide +kernel
theorem d_M_built_197 : decode (sk_cc m_M_built) 197 = .ok (.aload_n 0, 1) := by decide +kernel
theorem d_M_built_198 : decode (sk_cc m_M_built) 198 = .ok (.getfield 78, 3) := by decide +kernel
theorem d_M_built_201 : decode (sk_cc m_M_built) 201 = .ok (.iload_n 1, 1) := by decide +kernel
theorem d_M_built_202 : decode (sk_cc m_M_built) 202 = .ok (.iastore, 1) := by decide +kernel
theorem d_M_built_203 : decode (sk_cc m_M_built) 203 = .ok (.aload_n 0, 1) := by decide +kernel
theorem d_M_built_204 : decode (sk_cc m_M_built) 204 = .ok (.getfield 41, 3) := by decide +kernel
theorem d_M_built_207 : decode (sk_cc m_M_built) 207 = .ok (.aload_n 0, 1) := by decide +kernel
theorem d_M_built_208 : decode (sk_cc m_M_built) 208 = .ok (.getfield 78, 3) := by decide +kernel
theorem d_M_built_211 : decode (sk_cc m_M_built) 211 = .ok (.iload_n 2, 1) := by decide +kernel
theorem d_M_built_212 : decode (sk_cc m_M_built) 212 = .ok (.iastore, 1) := by decide +kernel
theorem d_M_built_213 : decode (sk_cc m_M_built) 213 = .ok (.aload_n 0, 1) := by decide +kernel
theorem d_M_built_214 : decode (sk_cc m_M_built) 214 = .ok (.dup, 1) := by decide +kernel
theorem d_M_built_215 : decode (sk_cc m_M_built) 215 = .ok (.getfield 78, 3) := by decide +kernel
theorem d_M_built_218 : decode (sk_cc m_M_built) 218 = .ok (.iconst 1, 1) := by decide +kernel
theorem d_M_built_219 : decode (sk_cc m_M_built) 219 = .ok (.iadd, 1) := by decide +kernel
theorem d_M_built_220 : decode (sk_cc m_M_built) 220 = .ok (.putfield 78, 3) := by decide +kernel
theorem d_M_built_223 : decode (sk_cc m_M_built) 223 = .ok (.iinc 2 1, 3) := by decide +kernel
theorem d_M_built_226 : decode (sk_cc m_M_built) 226 = .ok (.goto (-43), 3) := by decide +kernel
theorem d_M_built_229 : decode (sk_cc m_M_built) 229 = .ok (.iinc 1 1, 3) := by decide +kernel
theorem d_M_built_232 : decode (sk_cc m_M_built) 232 = .ok (.goto (-59), 3) := by decide +kernel
theorem d_M_built_235 : decode (sk_cc m_M_built) 235 = .ok (.return_, 1) := by decide +kernel
theorem d_M_source_0 : decode (sk_cc m_M_source) 0 = .ok (.aload_n 0, 1) := by decide +kernel
theorem d_M_source_1 : decode (sk_cc m_M_source) 1 = .ok (.aload_n 0, 1) := by decide +kernel
theorem d_M_source_2 : decode (sk_cc m_M_source) 2 = .ok (.getfield 75, 3) := by decide +kernel
theorem d_M_source_5 : decode (sk_cc m_M_source) 5 = .ok (.bipush 6, 2) := by decide +kernel
theorem d_M_source_7 : decode (sk_cc m_M_source) 7 = .ok (.if_icmp .eq 12, 3) := by decide +kernel
theorem d_M_source_10 : decode (sk_cc m_M_source) 10 = .ok (.aload_n 0, 1) := by decide +kernel
theorem d_M_source_11 : decode (sk_cc m_M_source) 11 = .ok (.getfield 72, 3) := by decide +kernel
theorem d_M_source_14 : decode (sk_cc m_M_source) 14 = .ok (.bipush 26, 2) := by decide +kernel
theorem d_M_source_16 : decode (sk_cc m_M_source) 16 = .ok (.if_icmp .ne 7, 3) := by decide +kernel
theorem d_M_source_19 : decode (sk_cc m_M_source) 19 = .ok (.iconst 1, 1) := by decide +kernel
theorem d_M_source_20 : decode (sk_cc m_M_source) 20 = .ok (.goto 4, 3) := by decide +kernel
theorem d_M_source_23 : decode (sk_cc m_M_source) 23 = .ok (.iconst 0, 1) := by decide +kernel
theorem d_M_source_24 : decode (sk_cc m_M_source) 24 = .ok (.putfield 68, 3) := by decide +kernel
theorem d_M_source_27 : decode (sk_cc m_M_source) 27 = .ok (.aload_n 0, 1) := by decide +kernel
theorem d_M_source_28 : decode (sk_cc m_M_source) 28 = .ok (.getfield 68, 3) := by decide +kernel
theorem d_M_source_31 : decode (sk_cc m_M_source) 31 = .ok (.ifCond .le 5, 3) := by decide +kernel
theorem d_M_source_34 : decode (sk_cc m_M_source) 34 = .ok (.iconst 0, 1) := by decide +kernel
theorem d_M_source_35 : decode (sk_cc m_M_source) 35 = .ok (.ireturn, 1) := by decide +kernel
theorem d_M_source_36 : decode (sk_cc m_M_source) 36 = .ok (.aload_n 0, 1) := by decide +kernel
theorem d_M_source_37 : decode (sk_cc m_M_source) 37 = .ok (.getfield 7, 3) := by decide +kernel
theorem d_M_source_40 : decode (sk_cc m_M_source) 40 = .ok (.aload_n 0, 1) := by decide +kernel
theorem d_M_source_41 : decode (sk_cc m_M_source) 41 = .ok (.getfield 72, 3) := by decide +kernel
theorem d_M_source_44 : decode (sk_cc m_M_source) 44 = .ok (.aload_n 0, 1) := by decide +kernel
theorem d_M_source_45 : decode (sk_cc m_M_source) 45 = .ok (.getfield 75, 3) := by decide +kernel
theorem d_M_source_48 : decode (sk_cc m_M_source) 48 = .ok (.iastore, 1) := by decide +kernel
theorem d_M_source_49 : decode (sk_cc m_M_source) 49 = .ok (.aload_n 0, 1) := by decide +kernel
theorem d_M_source_50 : decode (sk_cc m_M_source) 50 = .ok (.getfield 19, 3) := by decide +kernel
theorem d_M_source_53 : decode (sk_cc m_M_source) 53 = .ok (.aload_n 0, 1) := by decide +kernel
theorem d_M_source_54 : decode (sk_cc m_M_source) 54 = .ok (.getfield 72, 3) := by decide +kernel
theorem d_M_source_57 : decode (sk_cc m_M_source) 57 = .ok (.iconst 0, 1) := by decide +kernel
theorem d_M_source_58 : decode (sk_cc m_M_source) 58 = .ok (.iastore, 1) := by decide +kernel
theorem d_M_source_59 : decode (sk_cc m_M_source) 59 = .ok (.aload_n 0, 1) := by decide +kernel
theorem d_M_source_60 : decode (sk_cc m_M_source) 60 = .ok (.getfield 22, 3) := by decide +kernel
theorem d_M_source_63 : decode (sk_cc m_M_source) 63 = .ok (.aload_n 0, 1) := by decide +kernel
theorem d_M_source_64 : decode (sk_cc m_M_source) 64 = .ok (.getfield 75, 3) := by decide +kernel
theorem d_M_source_67 : decode (sk_cc m_M_source) 67 = .ok (.aload_n 0, 1) := by decide +kernel
theorem d_M_source_68 : decode (sk_cc m_M_source) 68 = .ok (.getfield 72, 3) := by decide +kernel
theorem d_M_source_71 : decode (sk_cc m_M_source) 71 = .ok (.iastore, 1) := by decide +kernel
theorem d_M_source_72 : decode (sk_cc m_M_source) 72 = .ok (.aload_n 0, 1) := by decide +kernel
theorem d_M_source_73 : decode (sk_cc m_M_source) 73 = .ok (.getfield 25, 3) := by decide +kernel
theorem d_M_source_76 : decode (sk_cc m_M_source) 76 = .ok (.aload_n 0, 1) := by decide +kernel
theorem d_M_source_77 : decode (sk_cc m_M_source) 77 = .ok (.getfield 75, 3) := by decide +kernel
theorem d_M_source_80 : decode (sk_cc m_M_source) 80 = .ok (.iload_n 1, 1) := by decide +kernel
theorem d_M_source_81 : decode (sk_cc m_M_source) 81 = .ok (.bastore, 1) := by decide +kernel
theorem d_M_source_82 : decode (sk_cc m_M_source) 82 = .ok (.aload_n 0, 1) := by decide +kernel
theorem d_M_source_83 : decode (sk_cc m_M_source) 83 = .ok (.getfield 29, 3) := by decide +kernel
theorem d_M_source_86 : decode (sk_cc m_M_source) 86 = .ok (.aload_n 0, 1) := by decide +kernel
theorem d_M_source_87 : decode (sk_cc m_M_source) 87 = .ok (.getfield 75, 3) := by decide +kernel
theorem d_M_source_90 : decode (sk_cc m_M_source) 90 = .ok (.iconst (-1), 1) := by decide +kernel
theorem d_M_source_91 : decode (sk_cc m_M_source) 91 = .ok (.iastore, 1) := by decide +kernel
theorem d_M_source_92 : decode (sk_cc m_M_source) 92 = .ok (.aload_n 0, 1) := by decide +kernel
theorem d_M_source_93 : decode (sk_cc m_M_source) 93 = .ok (.dup, 1) := by decide +kernel
theorem d_M_source_94 : decode (sk_cc m_M_source) 94 = .ok (.getfield 75, 3) := by decide +kernel
theorem d_M_source_97 : decode (sk_cc m_M_source) 97 = .ok (.iconst 1, 1) := by decide +kernel
theorem d_M_source_98 : decode (sk_cc m_M_source) 98 = .ok (.iadd, 1) := by decide +kernel
theorem d_M_source_99 : decode (sk_cc m_M_source) 99 = .ok (.putfield 75, 3) := by decide +kernel
theorem d_M_source_102 : decode (sk_cc m_M_source) 102 = .ok (.aload_n 0, 1) := by decide +kernel
theorem d_M_source_103 : decode (sk_cc m_M_source) 103 = .ok (.dup, 1) := by decide +kernel
theorem d_M_source_104 : decode (sk_cc m_M_source) 104 = .ok (.getfield 72, 3) := by decide +kernel
theorem d_M_source_107 : decode (sk_cc m_M_source) 107 = .ok (.iconst 1, 1) := by decide +kernel
theorem d_M_source_108 : decode (sk_cc m_M_source) 108 = .ok (.iadd, 1) := by decide +kernel
theorem d_M_source_109 : decode (sk_cc m_M_source) 109 = .ok (.putfield 72, 3) := by decide +kernel
theorem d_M_source_112 : decode (sk_cc m_M_source) 112 = .ok (.aload_n 0, 1) := by decide +kernel
theorem d_M_source_113 : decode (sk_cc m_M_source) 113 = .ok (.invokevirtual 97, 3) := by decide +kernel
theorem d_M_source_116 : decode (sk_cc m_M_source) 116 = .ok (.aload_n 0, 1) := by decide +kernel
theorem d_M_source_117 : decode (sk_cc m_M_source) 117 = .ok (.getfield 72, 3) := by decide +kernel
theorem d_M_source_120 : decode (sk_cc m_M_source) 120 = .ok (.iconst 1, 1) := by decide +kernel
theorem d_M_source_121 : decode (sk_cc m_M_source) 121 = .ok (.isub, 1) := by decide +kernel
theorem d_M_source_122 : decode (sk_cc m_M_source) 122 = .ok (.ireturn, 1) := by decide +kernel
theorem d_M_gate_0 : decode (sk_cc m_M_gate) 0 = .ok (.iload_n 1, 1) := by decide +kernel
theorem d_M_gate_1 : decode (sk_cc m_M_gate) 1 = .ok (.ifCond .lt 24, 3) := by decide +kernel
theorem d_M_gate_4 : decode (sk_cc m_M_gate) 4 = .ok (.iload_n 1, 1) := by decide +kernel
theorem d_M_gate_5 : decode (sk_cc m_M_gate) 5 = .ok (.iconst 5, 1) := by decide +kernel
theorem d_M_gate_6 : decode (sk_cc m_M_gate) 6 = .ok (.if_icmp .gt 19, 3) := by decide +kernel
theorem d_M_gate_9 : decode (sk_cc m_M_gate) 9 = .ok (.iload_n 2, 1) := by decide +kernel
theorem d_M_gate_10 : decode (sk_cc m_M_gate) 10 = .ok (.iconst (-1), 1) := by decide +kernel
theorem d_M_gate_11 : decode (sk_cc m_M_gate) 11 = .ok (.if_icmp .eq 14, 3) := by decide +kernel
theorem d_M_gate_14 : decode (sk_cc m_M_gate) 14 = .ok (.iload_n 3, 1) := by decide +kernel
theorem d_M_gate_15 : decode (sk_cc m_M_gate) 15 = .ok (.iconst (-1), 1) := by decide +kernel
theorem d_M_gate_16 : decode (sk_cc m_M_gate) 16 = .ok (.if_icmp .ne 13, 3) := by decide +kernel
theorem d_M_gate_19 : decode (sk_cc m_M_gate) 19 = .ok (.iload 4, 2) := by decide +kernel
theorem d_M_gate_21 : decode (sk_cc m_M_gate) 21 = .ok (.iconst (-1), 1) := by decide +kernel
theorem d_M_gate_22 : decode (sk_cc m_M_gate) 22 = .ok (.if_icmp .eq 7, 3) := by decide +kernel
theorem d_M_gate_25 : decode (sk_cc m_M_gate) 25 = .ok (.iconst 1, 1) := by decide +kernel
theorem d_M_gate_26 : decode (sk_cc m_M_gate) 26 = .ok (.goto 4, 3) := by decide +kernel
theorem d_M_gate_29 : decode (sk_cc m_M_gate) 29 = .ok (.iconst 0, 1) := by decide +kernel
theorem d_M_gate_30 : decode (sk_cc m_M_gate) 30 = .ok (.istore 5, 2) := by decide +kernel
theorem d_M_gate_32 : decode (sk_cc m_M_gate) 32 = .ok (.aload_n 0, 1) := by decide +kernel
theorem d_M_gate_33 : decode (sk_cc m_M_gate) 33 = .ok (.iload_n 2, 1) := by decide +kernel
theorem d_M_gate_34 : decode (sk_cc m_M_gate) 34 = .ok (.invokevirtual 100, 3) := by decide +kernel
theorem d_M_gate_37 : decode (sk_cc m_M_gate) 37 = .ok (.ifCond .ne 31, 3) := by decide +kernel
theorem d_M_gate_40 : decode (sk_cc m_M_gate) 40 = .ok (.iload_n 3, 1) := by decide +kernel
theorem d_M_gate_41 : decode (sk_cc m_M_gate) 41 = .ok (.iconst (-1), 1) := by decide +kernel
theorem d_M_gate_42 : decode (sk_cc m_M_gate) 42 = .ok (.if_icmp .eq 11, 3) := by decide +kernel
theorem d_M_gate_45 : decode (sk_cc m_M_gate) 45 = .ok (.aload_n 0, 1) := by decide +kernel
theorem d_M_gate_46 : decode (sk_cc m_M_gate) 46 = .ok (.iload_n 3, 1) := by decide +kernel
theorem d_M_gate_47 : decode (sk_cc m_M_gate) 47 = .ok (.invokevirtual 100, 3) := by decide +kernel
theorem d_M_gate_50 : decode (sk_cc m_M_gate) 50 = .ok (.ifCond .ne 18, 3) := by decide +kernel
theorem d_M_gate_53 : decode (sk_cc m_M_gate) 53 = .ok (.iload 4, 2) := by decide +kernel
theorem d_M_gate_55 : decode (sk_cc m_M_gate) 55 = .ok (.iconst (-1), 1) := by decide +kernel
theorem d_M_gate_56 : decode (sk_cc m_M_gate) 56 = .ok (.if_icmp .eq 16, 3) := by decide +kernel
theorem d_M_gate_59 : decode (sk_cc m_M_gate) 59 = .ok (.aload_n 0, 1) := by decide +kernel
theorem d_M_gate_60 : decode (sk_cc m_M_gate) 60 = .ok (.iload 4, 2) := by decide +kernel
theorem d_M_gate_62 : decode (sk_cc m_M_gate) 62 = .ok (.invokevirtual 100, 3) := by decide +kernel
theorem d_M_gate_65 : decode (sk_cc m_M_gate) 65 = .ok (.ifCond .eq 7, 3) := by decide +kernel
theorem d_M_gate_68 : decode (sk_cc m_M_gate) 68 = .ok (.iconst 1, 1) := by decide +kernel
theorem d_M_gate_69 : decode (sk_cc m_M_gate) 69 = .ok (.goto 4, 3) := by decide +kernel
theorem d_M_gate_72 : decode (sk_cc m_M_gate) 72 = .ok (.iconst 0, 1) := by decide +kernel
theorem d_M_gate_73 : decode (sk_cc m_M_gate) 73 = .ok (.istore 6, 2) := by decide +kernel
theorem d_M_gate_75 : decode (sk_cc m_M_gate) 75 = .ok (.aload_n 0, 1) := by decide +kernel
theorem d_M_gate_76 : decode (sk_cc m_M_gate) 76 = .ok (.iload 5, 2) := by decide +kernel
theorem d_M_gate_78 : decode (sk_cc m_M_gate) 78 = .ok (.ifCond .eq 7, 3) := by decide +kernel
theorem d_M_gate_81 : decode (sk_cc m_M_gate) 81 = .ok (.iconst 1, 1) := by decide +kernel
theorem d_M_gate_82 : decode (sk_cc m_M_gate) 82 = .ok (.goto 26, 3) := by decide +kernel
theorem d_M_gate_85 : decode (sk_cc m_M_gate) 85 = .ok (.iload 6, 2) := by decide +kernel
theorem d_M_gate_87 : decode (sk_cc m_M_gate) 87 = .ok (.ifCond .eq 7, 3) := by decide +kernel
theorem d_M_gate_90 : decode (sk_cc m_M_gate) 90 = .ok (.iconst 2, 1) := by decide +kernel
theorem d_M_gate_91 : decode (sk_cc m_M_gate) 91 = .ok (.goto 17, 3) := by decide +kernel
theorem d_M_gate_94 : decode (sk_cc m_M_gate) 94 = .ok (.aload_n 0, 1) := by decide +kernel
theorem d_M_gate_95 : decode (sk_cc m_M_gate) 95 = .ok (.getfield 72, 3) := by decide +kernel
theorem d_M_gate_98 : decode (sk_cc m_M_gate) 98 = .ok (.bipush 26, 2) := by decide +kernel
theorem d_M_gate_100 : decode (sk_cc m_M_gate) 100 = .ok (.if_icmp .ne 7, 3) := by decide +kernel
theorem d_M_gate_103 : decode (sk_cc m_M_gate) 103 = .ok (.iconst 3, 1) := by decide +kernel
theorem d_M_gate_104 : decode (sk_cc m_M_gate) 104 = .ok (.goto 4, 3) := by decide +kernel
theorem d_M_gate_107 : decode (sk_cc m_M_gate) 107 = .ok (.iconst 0, 1) := by decide +kernel
theorem d_M_gate_108 : decode (sk_cc m_M_gate) 108 = .ok (.putfield 68, 3) := by decide +kernel
theorem d_M_gate_111 : decode (sk_cc m_M_gate) 111 = .ok (.aload_n 0, 1) := by decide +kernel
theorem d_M_gate_112 : decode (sk_cc m_M_gate) 112 = .ok (.getfield 68, 3) := by decide +kernel
theorem d_M_gate_115 : decode (sk_cc m_M_gate) 115 = .ok (.ifCond .le 5, 3) := by decide +kernel
theorem d_M_gate_118 : decode (sk_cc m_M_gate) 118 = .ok (.iconst 0, 1) := by decide +kernel
theorem d_M_gate_119 : decode (sk_cc m_M_gate) 119 = .ok (.ireturn, 1) := by decide +kernel
theorem d_M_gate_120 : decode (sk_cc m_M_gate) 120 = .ok (.aload_n 0, 1) := by decide +kernel
theorem d_M_gate_121 : decode (sk_cc m_M_gate) 121 = .ok (.getfield 7, 3) := by decide +kernel
theorem d_M_gate_124 : decode (sk_cc m_M_gate) 124 = .ok (.aload_n 0, 1) := by decide +kernel
theorem d_M_gate_125 : decode (sk_cc m_M_gate) 125 = .ok (.getfield 72, 3) := by decide +kernel
theorem d_M_gate_128 : decode (sk_cc m_M_gate) 128 = .ok (.iconst (-1), 1) := by decide +kernel
theorem d_M_gate_129 : decode (sk_cc m_M_gate) 129 = .ok (.iastore, 1) := by decide +kernel
theorem d_M_gate_130 : decode (sk_cc m_M_gate) 130 = .ok (.aload_n 0, 1) := by decide +kernel
theorem d_M_gate_131 : decode (sk_cc m_M_gate) 131 = .ok (.getfield 13, 3) := by decide +kernel
theorem d_M_gate_134 : decode (sk_cc m_M_gate) 134 = .ok (.aload_n 0, 1) := by decide +kernel
theorem d_M_gate_135 : decode (sk_cc m_M_gate) 135 = .ok (.getfield 72, 3) := by decide +kernel
theorem d_M_gate_138 : decode (sk_cc m_M_gate) 138 = .ok (.iload_n 1, 1) := by decide +kernel
theorem d_M_gate_139 : decode (sk_cc m_M_gate) 139 = .ok (.iastore, 1) := by decide +kernel
theorem d_M_gate_140 : decode (sk_cc m_M_gate) 140 = .ok (.aload_n 0, 1) := by decide +kernel
theorem d_M_gate_141 : decode (sk_cc m_M_gate) 141 = .ok (.getfield 16, 3) := by decide +kernel
theorem d_M_gate_144 : decode (sk_cc m_M_gate) 144 = .ok (.iconst 3, 1) := by decide +kernel
theorem d_M_gate_145 : decode (sk_cc m_M_gate) 145 = .ok (.aload_n 0, 1) := by decide +kernel
theorem d_M_gate_146 : decode (sk_cc m_M_gate) 146 = .ok (.getfield 72, 3) := by decide +kernel
theorem d_M_gate_149 : decode (sk_cc m_M_gate) 149 = .ok (.imul, 1) := by decide +kernel
theorem d_M_gate_150 : decode (sk_cc m_M_gate) 150 = .ok (.iload_n 2, 1) := by decide +kernel
theorem d_M_gate_151 : decode (sk_cc m_M_gate) 151 = .ok (.iastore, 1) := by decide +kernel
theorem d_M_gate_152 : decode (sk_cc m_M_gate) 152 = .ok (.aload_n 0, 1) := by decide +kernel
theorem d_M_gate_153 : decode (sk_cc m_M_gate) 153 = .ok (.getfield 16, 3) := by decide +kernel
theorem d_M_gate_156 : decode (sk_cc m_M_gate) 156 = .ok (.iconst 3, 1) := by decide +kernel
theorem d_M_gate_157 : decode (sk_cc m_M_gate) 157 = .ok (.aload_n 0, 1) := by decide +kernel
theorem d_M_gate_158 : decode (sk_cc m_M_gate) 158 = .ok (.getfield 72, 3) := by decide +kernel
theorem d_M_gate_161 : decode (sk_cc m_M_gate) 161 = .ok (.imul, 1) := by decide +kernel
theorem d_M_gate_162 : decode (sk_cc m_M_gate) 162 = .ok (.iconst 1, 1) := by decide +kernel
theorem d_M_gate_163 : decode (sk_cc m_M_gate) 163 = .ok (.iadd, 1) := by decide +kernel
theorem d_M_gate_164 : decode (sk_cc m_M_gate) 164 = .ok (.iload_n 3, 1) := by decide +kernel
theorem d_M_gate_165 : decode (sk_cc m_M_gate) 165 = .ok (.iastore, 1) := by decide +kernel
theorem d_M_gate_166 : decode (sk_cc m_M_gate) 166 = .ok (.aload_n 0, 1) := by decide +kernel
theorem d_M_gate_167 : decode (sk_cc m_M_gate) 167 = .ok (.getfield 16, 3) := by decide +kernel
theorem d_M_gate_170 : decode (sk_cc m_M_gate) 170 = .ok (.iconst 3, 1) := by decide +kernel
theorem d_M_gate_171 : decode (sk_cc m_M_gate) 171 = .ok (.aload_n 0, 1) := by decide +kernel
theorem d_M_gate_172 : decode (sk_cc m_M_gate) 172 = .ok (.getfield 72, 3) := by decide +kernel
theorem d_M_gate_175 : decode (sk_cc m_M_gate) 175 = .ok (.imul, 1) := by decide +kernel
theorem d_M_gate_176 : decode (sk_cc m_M_gate) 176 = .ok (.iconst 2, 1) := by decide +kernel
theorem d_M_gate_177 : decode (sk_cc m_M_gate) 177 = .ok (.iadd, 1) := by decide +kernel
theorem d_M_gate_178 : decode (sk_cc m_M_gate) 178 = .ok (.iload 4, 2) := by decide +kernel
theorem d_M_gate_180 : decode (sk_cc m_M_gate) 180 = .ok (.iastore, 1) := by decide +kernel
theorem d_M_gate_181 : decode (sk_cc m_M_gate) 181 = .ok (.aload_n 0, 1) := by decide +kernel
theorem d_M_gate_182 : decode (sk_cc m_M_gate) 182 = .ok (.getfield 19, 3) := by decide +kernel
theorem d_M_gate_185 : decode (sk_cc m_M_gate) 185 = .ok (.aload_n 0, 1) := by decide +kernel
theorem d_M_gate_186 : decode (sk_cc m_M_gate) 186 = .ok (.getfield 72, 3) := by decide +kernel
theorem d_M_gate_189 : decode (sk_cc m_M_gate) 189 = .ok (.iload_n 3, 1) := by decide +kernel
theorem d_M_gate_190 : decode (sk_cc m_M_gate) 190 = .ok (.iconst (-1), 1) := by decide +kernel
theorem d_M_gate_191 : decode (sk_cc m_M_gate) 191 = .ok (.if_icmp .ne 7, 3) := by decide +kernel
theorem d_M_gate_194 : decode (sk_cc m_M_gate) 194 = .ok (.iconst 1, 1) := by decide +kernel
theorem d_M_gate_195 : decode (sk_cc m_M_gate) 195 = .ok (.goto 14, 3) := by decide +kernel
theorem d_M_gate_198 : decode (sk_cc m_M_gate) 198 = .ok (.iload 4, 2) := by decide +kernel
theorem d_M_gate_200 : decode (sk_cc m_M_gate) 200 = .ok (.iconst (-1), 1) := by decide +kernel
theorem d_M_gate_201 : decode (sk_cc m_M_gate) 201 = .ok (.if_icmp .ne 7, 3) := by decide +kernel
theorem d_M_gate_204 : decode (sk_cc m_M_gate) 204 = .ok (.iconst 2, 1) := by decide +kernel
theorem d_M_gate_205 : decode (sk_cc m_M_gate) 205 = .ok (.goto 4, 3) := by decide +kernel
theorem d_M_gate_208 : decode (sk_cc m_M_gate) 208 = .ok (.iconst 3, 1) := by decide +kernel
theorem d_M_gate_209 : decode (sk_cc m_M_gate) 209 = .ok (.iastore, 1) := by decide +kernel
theorem d_M_gate_210 : decode (sk_cc m_M_gate) 210 = .ok (.aload_n 0, 1) := by decide +kernel
theorem d_M_gate_211 : decode (sk_cc m_M_gate) 211 = .ok (.dup, 1) := by decide +kernel
theorem d_M_gate_212 : decode (sk_cc m_M_gate) 212 = .ok (.getfield 72, 3) := by decide +kernel
theorem d_M_gate_215 : decode (sk_cc m_M_gate) 215 = .ok (.iconst 1, 1) := by decide +kernel
theorem d_M_gate_216 : decode (sk_cc m_M_gate) 216 = .ok (.iadd, 1) := by decide +kernel
theorem d_M_gate_217 : decode (sk_cc m_M_gate) 217 = .ok (.putfield 72, 3) := by decide +kernel
theorem d_M_gate_220 : decode (sk_cc m_M_gate) 220 = .ok (.aload_n 0, 1) := by decide +kernel
theorem d_M_gate_221 : decode (sk_cc m_M_gate) 221 = .ok (.invokevirtual 97, 3) := by decide +kernel
theorem d_M_gate_224 : decode (sk_cc m_M_gate) 224 = .ok (.aload_n 0, 1) := by decide +kernel
theorem d_M_gate_225 : decode (sk_cc m_M_gate) 225 = .ok (.getfield 72, 3) := by decide +kernel
theorem d_M_gate_228 : decode (sk_cc m_M_gate) 228 = .ok (.iconst 1, 1) := by decide +kernel
theorem d_M_gate_229 : decode (sk_cc m_M_gate) 229 = .ok (.isub, 1) := by decide +kernel
theorem d_M_gate_230 : decode (sk_cc m_M_gate) 230 = .ok (.ireturn, 1) := by decide +kernel
theorem d_M_noLine_0 : decode (sk_cc m_M_noLine) 0 = .ok (.iload_n 1, 1) := by decide +kernel
theorem d_M_noLine_1 : decode (sk_cc m_M_noLine) 1 = .ok (.ifCond .lt 11, 3) := by decide +kernel
theorem d_M_noLine_4 : decode (sk_cc m_M_noLine) 4 = .ok (.iload_n 1, 1) := by decide +kernel
theorem d_M_noLine_5 : decode (sk_cc m_M_noLine) 5 = .ok (.aload_n 0, 1) := by decide +kernel
theorem d_M_noLine_6 : decode (sk_cc m_M_noLine) 6 = .ok (.getfield 72, 3) := by decide +kernel
theorem d_M_noLine_9 : decode (sk_cc m_M_noLine) 9 = .ok (.if_icmp .lt 7, 3) := by decide +kernel
theorem d_M_noLine_12 : decode (sk_cc m_M_noLine) 12 = .ok (.iconst 1, 1) := by decide +kernel
theorem d_M_noLine_13 : decode (sk_cc m_M_noLine) 13 = .ok (.goto 4, 3) := by decide +kernel
theorem d_M_noLine_16 : decode (sk_cc m_M_noLine) 16 = .ok (.iconst 0, 1) := by decide +kernel
theorem d_M_noLine_17 : decode (sk_cc m_M_noLine) 17 = .ok (.ireturn, 1) := by decide +kernel
theorem d_M_output_0 : decode (sk_cc m_M_output) 0 = .ok (.iconst 0, 1) := by decide +kernel
theorem d_M_output_1 : decode (sk_cc m_M_output) 1 = .ok (.istore_n 2, 1) := by decide +kernel
theorem d_M_output_2 : decode (sk_cc m_M_output) 2 = .ok (.iconst 0, 1) := by decide +kernel
theorem d_M_output_3 : decode (sk_cc m_M_output) 3 = .ok (.istore_n 3, 1) := by decide +kernel
theorem d_M_output_4 : decode (sk_cc m_M_output) 4 = .ok (.iload_n 3, 1) := by decide +kernel
theorem d_M_output_5 : decode (sk_cc m_M_output) 5 = .ok (.aload_n 0, 1) := by decide +kernel
theorem d_M_output_6 : decode (sk_cc m_M_output) 6 = .ok (.getfield 94, 3) := by decide +kernel
theorem d_M_output_9 : decode (sk_cc m_M_output) 9 = .ok (.if_icmp .ge 29, 3) := by decide +kernel
theorem d_M_output_12 : decode (sk_cc m_M_output) 12 = .ok (.iload_n 2, 1) := by decide +kernel
theorem d_M_output_13 : decode (sk_cc m_M_output) 13 = .ok (.ifCond .ne 13, 3) := by decide +kernel
theorem d_M_output_16 : decode (sk_cc m_M_output) 16 = .ok (.aload_n 0, 1) := by decide +kernel
theorem d_M_output_17 : decode (sk_cc m_M_output) 17 = .ok (.getfield 32, 3) := by decide +kernel
theorem d_M_output_20 : decode (sk_cc m_M_output) 20 = .ok (.iload_n 3, 1) := by decide +kernel
theorem d_M_output_21 : decode (sk_cc m_M_output) 21 = .ok (.iaload, 1) := by decide +kernel
theorem d_M_output_22 : decode (sk_cc m_M_output) 22 = .ok (.iload_n 1, 1) := by decide +kernel
theorem d_M_output_23 : decode (sk_cc m_M_output) 23 = .ok (.if_icmp .ne 7, 3) := by decide +kernel
theorem d_M_output_26 : decode (sk_cc m_M_output) 26 = .ok (.iconst 1, 1) := by decide +kernel
theorem d_M_output_27 : decode (sk_cc m_M_output) 27 = .ok (.goto 4, 3) := by decide +kernel
theorem d_M_output_30 : decode (sk_cc m_M_output) 30 = .ok (.iconst 0, 1) := by decide +kernel
theorem d_M_output_31 : decode (sk_cc m_M_output) 31 = .ok (.istore_n 2, 1) := by decide +kernel
theorem d_M_output_32 : decode (sk_cc m_M_output) 32 = .ok (.iinc 3 1, 3) := by decide +kernel
theorem d_M_output_35 : decode (sk_cc m_M_output) 35 = .ok (.goto (-31), 3) := by decide +kernel
theorem d_M_output_38 : decode (sk_cc m_M_output) 38 = .ok (.aload_n 0, 1) := by decide +kernel
theorem d_M_output_39 : decode (sk_cc m_M_output) 39 = .ok (.aload_n 0, 1) := by decide +kernel
theorem d_M_output_40 : decode (sk_cc m_M_output) 40 = .ok (.iload_n 1, 1) := by decide +kernel
theorem d_M_output_41 : decode (sk_cc m_M_output) 41 = .ok (.invokevirtual 100, 3) := by decide +kernel
theorem d_M_output_44 : decode (sk_cc m_M_output) 44 = .ok (.ifCond .eq 7, 3) := by decide +kernel
theorem d_M_output_47 : decode (sk_cc m_M_output) 47 = .ok (.iconst 1, 1) := by decide +kernel
theorem d_M_output_48 : decode (sk_cc m_M_output) 48 = .ok (.goto 21, 3) := by decide +kernel
theorem d_M_output_51 : decode (sk_cc m_M_output) 51 = .ok (.iload_n 2, 1) := by decide +kernel
theorem d_M_output_52 : decode (sk_cc m_M_output) 52 = .ok (.ifCond .ne 12, 3) := by decide +kernel
theorem d_M_output_55 : decode (sk_cc m_M_output) 55 = .ok (.aload_n 0, 1) := by decide +kernel
theorem d_M_output_56 : decode (sk_cc m_M_output) 56 = .ok (.getfield 94, 3) := by decide +kernel
theorem d_M_output_59 : decode (sk_cc m_M_output) 59 = .ok (.bipush 6, 2) := by decide +kernel
theorem d_M_output_61 : decode (sk_cc m_M_output) 61 = .ok (.if_icmp .ne 7, 3) := by decide +kernel
theorem d_M_output_64 : decode (sk_cc m_M_output) 64 = .ok (.iconst 2, 1) := by decide +kernel
theorem d_M_output_65 : decode (sk_cc m_M_output) 65 = .ok (.goto 4, 3) := by decide +kernel
theorem d_M_output_68 : decode (sk_cc m_M_output) 68 = .ok (.iconst 0, 1) := by decide +kernel
theorem d_M_output_69 : decode (sk_cc m_M_output) 69 = .ok (.putfield 68, 3) := by decide +kernel
theorem d_M_output_72 : decode (sk_cc m_M_output) 72 = .ok (.aload_n 0, 1) := by decide +kernel
theorem d_M_output_73 : decode (sk_cc m_M_output) 73 = .ok (.getfield 68, 3) := by decide +kernel
theorem d_M_output_76 : decode (sk_cc m_M_output) 76 = .ok (.ifCond .le 5, 3) := by decide +kernel
theorem d_M_output_79 : decode (sk_cc m_M_output) 79 = .ok (.iconst 0, 1) := by decide +kernel
theorem d_M_output_80 : decode (sk_cc m_M_output) 80 = .ok (.ireturn, 1) := by decide +kernel
theorem d_M_output_81 : decode (sk_cc m_M_output) 81 = .ok (.aload_n 0, 1) := by decide +kernel
theorem d_M_output_82 : decode (sk_cc m_M_output) 82 = .ok (.getfield 32, 3) := by decide +kernel
theorem d_M_output_85 : decode (sk_cc m_M_output) 85 = .ok (.aload_n 0, 1) := by decide +kernel
theorem d_M_output_86 : decode (sk_cc m_M_output) 86 = .ok (.getfield 94, 3) := by decide +kernel
theorem d_M_output_89 : decode (sk_cc m_M_output) 89 = .ok (.iload_n 1, 1) := by decide +kernel
theorem d_M_output_90 : decode (sk_cc m_M_output) 90 = .ok (.iastore, 1) := by decide +kernel
theorem d_M_output_91 : decode (sk_cc m_M_output) 91 = .ok (.aload_n 0, 1) := by decide +kernel
theorem d_M_output_92 : decode (sk_cc m_M_output) 92 = .ok (.dup, 1) := by decide +kernel
theorem d_M_output_93 : decode (sk_cc m_M_output) 93 = .ok (.getfield 94, 3) := by decide +kernel
theorem d_M_output_96 : decode (sk_cc m_M_output) 96 = .ok (.iconst 1, 1) := by decide +kernel
theorem d_M_output_97 : decode (sk_cc m_M_output) 97 = .ok (.iadd, 1) := by decide +kernel
theorem d_M_output_98 : decode (sk_cc m_M_output) 98 = .ok (.putfield 94, 3) := by decide +kernel
theorem d_M_output_101 : decode (sk_cc m_M_output) 101 = .ok (.aload_n 0, 1) := by decide +kernel
theorem d_M_output_102 : decode (sk_cc m_M_output) 102 = .ok (.invokevirtual 97, 3) := by decide +kernel
theorem d_M_output_105 : decode (sk_cc m_M_output) 105 = .ok (.aload_n 0, 1) := by decide +kernel
theorem d_M_output_106 : decode (sk_cc m_M_output) 106 = .ok (.getfield 94, 3) := by decide +kernel
theorem d_M_output_109 : decode (sk_cc m_M_output) 109 = .ok (.ireturn, 1) := by decide +kernel
theorem d_M_data_0 : decode (sk_cc m_M_data) 0 = .ok (.aload_n 0, 1) := by decide +kernel
theorem d_M_data_1 : decode (sk_cc m_M_data) 1 = .ok (.aload_n 0, 1) := by decide +kernel
theorem d_M_data_2 : decode (sk_cc m_M_data) 2 = .ok (.iload_n 1, 1) := by decide +kernel
theorem d_M_data_3 : decode (sk_cc m_M_data) 3 = .ok (.invokevirtual 100, 3) := by decide +kernel
theorem d_M_data_6 : decode (sk_cc m_M_data) 6 = .ok (.ifCond .ne 11, 3) := by decide +kernel
theorem d_M_data_9 : decode (sk_cc m_M_data) 9 = .ok (.aload_n 0, 1) := by decide +kernel
theorem d_M_data_10 : decode (sk_cc m_M_data) 10 = .ok (.iload_n 2, 1) := by decide +kernel
theorem d_M_data_11 : decode (sk_cc m_M_data) 11 = .ok (.invokevirtual 100, 3) := by decide +kernel
theorem d_M_data_14 : decode (sk_cc m_M_data) 14 = .ok (.ifCond .eq 7, 3) := by decide +kernel
theorem d_M_data_17 : decode (sk_cc m_M_data) 17 = .ok (.iconst 1, 1) := by decide +kernel
theorem d_M_data_18 : decode (sk_cc m_M_data) 18 = .ok (.goto 4, 3) := by decide +kernel
theorem d_M_data_21 : decode (sk_cc m_M_data) 21 = .ok (.iconst 0, 1) := by decide +kernel
theorem d_M_data_22 : decode (sk_cc m_M_data) 22 = .ok (.putfield 68, 3) := by decide +kernel
theorem d_M_data_25 : decode (sk_cc m_M_data) 25 = .ok (.aload_n 0, 1) := by decide +kernel
theorem d_M_data_26 : decode (sk_cc m_M_data) 26 = .ok (.getfield 68, 3) := by decide +kernel
theorem d_M_data_29 : decode (sk_cc m_M_data) 29 = .ok (.ifCond .le 4, 3) := by decide +kernel
theorem d_M_data_32 : decode (sk_cc m_M_data) 32 = .ok (.return_, 1) := by decide +kernel
theorem d_M_data_33 : decode (sk_cc m_M_data) 33 = .ok (.aload_n 0, 1) := by decide +kernel
theorem d_M_data_34 : decode (sk_cc m_M_data) 34 = .ok (.getfield 7, 3) := by decide +kernel
theorem d_M_data_37 : decode (sk_cc m_M_data) 37 = .ok (.iload_n 1, 1) := by decide +kernel
theorem d_M_data_38 : decode (sk_cc m_M_data) 38 = .ok (.iaload, 1) := by decide +kernel
theorem d_M_data_39 : decode (sk_cc m_M_data) 39 = .ok (.istore_n 3, 1) := by decide +kernel
theorem d_M_data_40 : decode (sk_cc m_M_data) 40 = .ok (.aload_n 0, 1) := by decide +kernel
theorem d_M_data_41 : decode (sk_cc m_M_data) 41 = .ok (.iload_n 3, 1) := by decide +kernel
theorem d_M_data_42 : decode (sk_cc m_M_data) 42 = .ok (.ifCond .lt 20, 3) := by decide +kernel
theorem d_M_data_45 : decode (sk_cc m_M_data) 45 = .ok (.aload_n 0, 1) := by decide +kernel
theorem d_M_data_46 : decode (sk_cc m_M_data) 46 = .ok (.getfield 25, 3) := by decide +kernel
theorem d_M_data_49 : decode (sk_cc m_M_data) 49 = .ok (.iload_n 3, 1) := by decide +kernel
theorem d_M_data_50 : decode (sk_cc m_M_data) 50 = .ok (.ifCond .le 7, 3) := by decide +kernel
theorem d_M_data_53 : decode (sk_cc m_M_data) 53 = .ok (.iload_n 3, 1) := by decide +kernel
theorem d_M_data_54 : decode (sk_cc m_M_data) 54 = .ok (.goto 4, 3) := by decide +kernel
theorem d_M_data_57 : decode (sk_cc m_M_data) 57 = .ok (.iconst 0, 1) := by decide +kernel
theorem d_M_data_58 : decode (sk_cc m_M_data) 58 = .ok (.baload, 1) := by decide +kernel
theorem d_M_data_59 : decode (sk_cc m_M_data) 59 = .ok (.ifCond .ne 7, 3) := by decide +kernel
theorem d_M_data_62 : decode (sk_cc m_M_data) 62 = .ok (.iconst 2, 1) := by decide +kernel
theorem d_M_data_63 : decode (sk_cc m_M_data) 63 = .ok (.goto 4, 3) := by decide +kernel
theorem d_M_data_66 : decode (sk_cc m_M_data) 66 = .ok (.iconst 0, 1) := by decide +kernel
theorem d_M_data_67 : decode (sk_cc m_M_data) 67 = .ok (.putfield 68, 3) := by decide +kernel
theorem d_M_data_70 : decode (sk_cc m_M_data) 70 = .ok (.aload_n 0, 1) := by decide +kernel
theorem d_M_data_71 : decode (sk_cc m_M_data) 71 = .ok (.getfield 68, 3) := by decide +kernel
theorem d_M_data_74 : decode (sk_cc m_M_data) 74 = .ok (.ifCond .le 4, 3) := by decide +kernel
theorem d_M_data_77 : decode (sk_cc m_M_data) 77 = .ok (.return_, 1) := by decide +kernel
theorem d_M_data_78 : decode (sk_cc m_M_data) 78 = .ok (.aload_n 0, 1) := by decide +kernel
theorem d_M_data_79 : decode (sk_cc m_M_data) 79 = .ok (.getfield 29, 3) := by decide +kernel
theorem d_M_data_82 : decode (sk_cc m_M_data) 82 = .ok (.iload_n 3, 1) := by decide +kernel
theorem d_M_data_83 : decode (sk_cc m_M_data) 83 = .ok (.iload_n 2, 1) := by decide +kernel
theorem d_M_data_84 : decode (sk_cc m_M_data) 84 = .ok (.iastore, 1) := by decide +kernel
theorem d_M_data_85 : decode (sk_cc m_M_data) 85 = .ok (.aload_n 0, 1) := by decide +kernel
theorem d_M_data_86 : decode (sk_cc m_M_data) 86 = .ok (.invokevirtual 97, 3) := by decide +kernel
theorem d_M_data_89 : decode (sk_cc m_M_data) 89 = .ok (.return_, 1) := by decide +kernel
theorem d_M_count_0 : decode (sk_cc m_M_count) 0 = .ok (.aload_n 0, 1) := by decide +kernel
theorem d_M_count_1 : decode (sk_cc m_M_count) 1 = .ok (.iload_n 1, 1) := by decide +kernel
theorem d_M_count_2 : decode (sk_cc m_M_count) 2 = .ok (.ifCond .lt 8, 3) := by decide +kernel
theorem d_M_count_5 : decode (sk_cc m_M_count) 5 = .ok (.iload_n 1, 1) := by decide +kernel
theorem d_M_count_6 : decode (sk_cc m_M_count) 6 = .ok (.iconst 5, 1) := by decide +kernel
theorem d_M_count_7 : decode (sk_cc m_M_count) 7 = .ok (.if_icmp .le 7, 3) := by decide +kernel
theorem d_M_count_10 : decode (sk_cc m_M_count) 10 = .ok (.iconst 1, 1) := by decide +kernel
theorem d_M_count_11 : decode (sk_cc m_M_count) 11 = .ok (.goto 4, 3) := by decide +kernel
theorem d_M_count_14 : decode (sk_cc m_M_count) 14 = .ok (.iconst 0, 1) := by decide +kernel
theorem d_M_count_15 : decode (sk_cc m_M_count) 15 = .ok (.putfield 68, 3) := by decide +kernel
theorem d_M_count_18 : decode (sk_cc m_M_count) 18 = .ok (.aload_n 0, 1) := by decide +kernel
theorem d_M_count_19 : decode (sk_cc m_M_count) 19 = .ok (.getfield 68, 3) := by decide +kernel
theorem d_M_count_22 : decode (sk_cc m_M_count) 22 = .ok (.ifCond .le 5, 3) := by decide +kernel
theorem d_M_count_25 : decode (sk_cc m_M_count) 25 = .ok (.iconst 0, 1) := by decide +kernel
theorem d_M_count_26 : decode (sk_cc m_M_count) 26 = .ok (.ireturn, 1) := by decide +kernel
theorem d_M_count_27 : decode (sk_cc m_M_count) 27 = .ok (.iload_n 1, 1) := by decide +kernel
theorem d_M_count_28 : decode (sk_cc m_M_count) 28 = .ok (.iconst 4, 1) := by decide +kernel
theorem d_M_count_29 : decode (sk_cc m_M_count) 29 = .ok (.if_icmp .ge 45, 3) := by decide +kernel
theorem d_M_count_32 : decode (sk_cc m_M_count) 32 = .ok (.iload_n 1, 1) := by decide +kernel
theorem d_M_count_33 : decode (sk_cc m_M_count) 33 = .ok (.ifCond .ne 10, 3) := by decide +kernel
theorem d_M_count_36 : decode (sk_cc m_M_count) 36 = .ok (.aload_n 0, 1) := by decide +kernel
theorem d_M_count_37 : decode (sk_cc m_M_count) 37 = .ok (.getfield 72, 3) := by decide +kernel
theorem d_M_count_40 : decode (sk_cc m_M_count) 40 = .ok (.goto 33, 3) := by decide +kernel
theorem d_M_count_43 : decode (sk_cc m_M_count) 43 = .ok (.iload_n 1, 1) := by decide +kernel
theorem d_M_count_44 : decode (sk_cc m_M_count) 44 = .ok (.iconst 1, 1) := by decide +kernel
theorem d_M_count_45 : decode (sk_cc m_M_count) 45 = .ok (.if_icmp .ne 10, 3) := by decide +kernel
theorem d_M_count_48 : decode (sk_cc m_M_count) 48 = .ok (.aload_n 0, 1) := by decide +kernel
theorem d_M_count_49 : decode (sk_cc m_M_count) 49 = .ok (.getfield 75, 3) := by decide +kernel
theorem d_M_count_52 : decode (sk_cc m_M_count) 52 = .ok (.goto 21, 3) := by decide +kernel
theorem d_M_count_55 : decode (sk_cc m_M_count) 55 = .ok (.iload_n 1, 1) := by decide +kernel
theorem d_M_count_56 : decode (sk_cc m_M_count) 56 = .ok (.iconst 2, 1) := by decide +kernel
theorem d_M_count_57 : decode (sk_cc m_M_count) 57 = .ok (.if_icmp .ne 10, 3) := by decide +kernel
theorem d_M_count_60 : decode (sk_cc m_M_count) 60 = .ok (.aload_n 0, 1) := by decide +kernel
theorem d_M_count_61 : decode (sk_cc m_M_count) 61 = .ok (.getfield 91, 3) := by decide +kernel
theorem d_M_count_64 : decode (sk_cc m_M_count) 64 = .ok (.goto 9, 3) := by decide +kernel
theorem d_M_count_67 : decode (sk_cc m_M_count) 67 = .ok (.iconst 2, 1) := by decide +kernel
theorem d_M_count_68 : decode (sk_cc m_M_count) 68 = .ok (.aload_n 0, 1) := by decide +kernel
theorem d_M_count_69 : decode (sk_cc m_M_count) 69 = .ok (.getfield 78, 3) := by decide +kernel
theorem d_M_count_72 : decode (sk_cc m_M_count) 72 = .ok (.imul, 1) := by decide +kernel
theorem d_M_count_73 : decode (sk_cc m_M_count) 73 = .ok (.ireturn, 1) := by decide +kernel
theorem d_M_count_74 : decode (sk_cc m_M_count) 74 = .ok (.aload_n 0, 1) := by decide +kernel
theorem d_M_count_75 : decode (sk_cc m_M_count) 75 = .ok (.invokevirtual 119, 3) := by decide +kernel
theorem d_M_count_78 : decode (sk_cc m_M_count) 78 = .ok (.iconst 0, 1) := by decide +kernel
theorem d_M_count_79 : decode (sk_cc m_M_count) 79 = .ok (.istore_n 2, 1) := by decide +kernel
theorem d_M_count_80 : decode (sk_cc m_M_count) 80 = .ok (.iconst 0, 1) := by decide +kernel
theorem d_M_count_81 : decode (sk_cc m_M_count) 81 = .ok (.istore_n 3, 1) := by decide +kernel
theorem d_M_count_82 : decode (sk_cc m_M_count) 82 = .ok (.iload_n 3, 1) := by decide +kernel
theorem d_M_count_83 : decode (sk_cc m_M_count) 83 = .ok (.iconst 2, 1) := by decide +kernel
theorem d_M_count_84 : decode (sk_cc m_M_count) 84 = .ok (.aload_n 0, 1) := by decide +kernel
theorem d_M_count_85 : decode (sk_cc m_M_count) 85 = .ok (.getfield 78, 3) := by decide +kernel
theorem d_M_count_88 : decode (sk_cc m_M_count) 88 = .ok (.imul, 1) := by decide +kernel
theorem d_M_count_89 : decode (sk_cc m_M_count) 89 = .ok (.if_icmp .ge 59, 3) := by decide +kernel
theorem d_M_count_92 : decode (sk_cc m_M_count) 92 = .ok (.iload_n 1, 1) := by decide +kernel
theorem d_M_count_93 : decode (sk_cc m_M_count) 93 = .ok (.iconst 4, 1) := by decide +kernel
theorem d_M_count_94 : decode (sk_cc m_M_count) 94 = .ok (.if_icmp .ne 19, 3) := by decide +kernel
theorem d_M_count_97 : decode (sk_cc m_M_count) 97 = .ok (.aload_n 0, 1) := by decide +kernel
theorem d_M_count_98 : decode (sk_cc m_M_count) 98 = .ok (.iload_n 3, 1) := by decide +kernel
theorem d_M_count_99 : decode (sk_cc m_M_count) 99 = .ok (.invokevirtual 122, 3) := by decide +kernel
theorem d_M_count_102 : decode (sk_cc m_M_count) 102 = .ok (.ifCond .lt 7, 3) := by decide +kernel
theorem d_M_count_105 : decode (sk_cc m_M_count) 105 = .ok (.iconst 1, 1) := by decide +kernel
theorem d_M_count_106 : decode (sk_cc m_M_count) 106 = .ok (.goto 21, 3) := by decide +kernel
theorem d_M_count_109 : decode (sk_cc m_M_count) 109 = .ok (.iconst 0, 1) := by decide +kernel
theorem d_M_count_110 : decode (sk_cc m_M_count) 110 = .ok (.goto 17, 3) := by decide +kernel
theorem d_M_count_113 : decode (sk_cc m_M_count) 113 = .ok (.aload_n 0, 1) := by decide +kernel
theorem d_M_count_114 : decode (sk_cc m_M_count) 114 = .ok (.iload_n 3, 1) := by decide +kernel
theorem d_M_count_115 : decode (sk_cc m_M_count) 115 = .ok (.invokevirtual 126, 3) := by decide +kernel
theorem d_M_count_118 : decode (sk_cc m_M_count) 118 = .ok (.iload_n 3, 1) := by decide +kernel
theorem d_M_count_119 : decode (sk_cc m_M_count) 119 = .ok (.if_icmp .ne 7, 3) := by decide +kernel
theorem d_M_count_122 : decode (sk_cc m_M_count) 122 = .ok (.iconst 1, 1) := by decide +kernel
theorem d_M_count_123 : decode (sk_cc m_M_count) 123 = .ok (.goto 4, 3) := by decide +kernel
theorem d_M_count_126 : decode (sk_cc m_M_count) 126 = .ok (.iconst 0, 1) := by decide +kernel
theorem d_M_count_127 : decode (sk_cc m_M_count) 127 = .ok (.istore 4, 2) := by decide +kernel
theorem d_M_count_129 : decode (sk_cc m_M_count) 129 = .ok (.iload 4, 2) := by decide +kernel
theorem d_M_count_131 : decode (sk_cc m_M_count) 131 = .ok (.ifCond .eq 9, 3) := by decide +kernel
theorem d_M_count_134 : decode (sk_cc m_M_count) 134 = .ok (.iload_n 2, 1) := by decide +kernel
theorem d_M_count_135 : decode (sk_cc m_M_count) 135 = .ok (.iconst 1, 1) := by decide +kernel
theorem d_M_count_136 : decode (sk_cc m_M_count) 136 = .ok (.iadd, 1) := by decide +kernel
theorem d_M_count_137 : decode (sk_cc m_M_count) 137 = .ok (.goto 4, 3) := by decide +kernel
theorem d_M_count_140 : decode (sk_cc m_M_count) 140 = .ok (.iload_n 2, 1) := by decide +kernel
theorem d_M_count_141 : decode (sk_cc m_M_count) 141 = .ok (.istore_n 2, 1) := by decide +kernel
theorem d_M_count_142 : decode (sk_cc m_M_count) 142 = .ok (.iinc 3 1, 3) := by decide +kernel
theorem d_M_count_145 : decode (sk_cc m_M_count) 145 = .ok (.goto (-63), 3) := by decide +kernel
theorem d_M_count_148 : decode (sk_cc m_M_count) 148 = .ok (.iload_n 2, 1) := by decide +kernel
theorem d_M_count_149 : decode (sk_cc m_M_count) 149 = .ok (.ireturn, 1) := by decide +kernel
theorem d_M_learn_0 : decode (sk_cc m_M_learn) 0 = .ok (.aload_n 0, 1) := by decide +kernel
theorem d_M_learn_1 : decode (sk_cc m_M_learn) 1 = .ok (.getfield 81, 3) := by decide +kernel
theorem d_M_learn_4 : decode (sk_cc m_M_learn) 4 = .ok (.ifCond .eq 4, 3) := by decide +kernel
theorem d_M_learn_7 : decode (sk_cc m_M_learn) 7 = .ok (.return_, 1) := by decide +kernel
theorem d_M_learn_8 : decode (sk_cc m_M_learn) 8 = .ok (.aload_n 0, 1) := by decide +kernel
theorem d_M_learn_9 : decode (sk_cc m_M_learn) 9 = .ok (.iconst 1, 1) := by decide +kernel
theorem d_M_learn_10 : decode (sk_cc m_M_learn) 10 = .ok (.putfield 81, 3) := by decide +kernel
theorem d_M_learn_13 : decode (sk_cc m_M_learn) 13 = .ok (.iconst 0, 1) := by decide +kernel
theorem d_M_learn_14 : decode (sk_cc m_M_learn) 14 = .ok (.istore_n 1, 1) := by decide +kernel
theorem d_M_learn_15 : decode (sk_cc m_M_learn) 15 = .ok (.iload_n 1, 1) := by decide +kernel
theorem d_M_learn_16 : decode (sk_cc m_M_learn) 16 = .ok (.aload_n 0, 1) := by decide +kernel
theorem d_M_learn_17 : decode (sk_cc m_M_learn) 17 = .ok (.invokevirtual 108, 3) := by decide +kernel
theorem d_M_learn_20 : decode (sk_cc m_M_learn) 20 = .ok (.if_icmp .ge 66, 3) := by decide +kernel
theorem d_M_learn_23 : decode (sk_cc m_M_learn) 23 = .ok (.aload_n 0, 1) := by decide +kernel
theorem d_M_learn_24 : decode (sk_cc m_M_learn) 24 = .ok (.iconst 0, 1) := by decide +kernel
theorem d_M_learn_25 : decode (sk_cc m_M_learn) 25 = .ok (.iload_n 1, 1) := by decide +kernel
theorem d_M_learn_26 : decode (sk_cc m_M_learn) 26 = .ok (.iconst (-1), 1) := by decide +kernel
theorem d_M_learn_27 : decode (sk_cc m_M_learn) 27 = .ok (.invokevirtual 112, 3) := by decide +kernel
theorem d_M_learn_30 : decode (sk_cc m_M_learn) 30 = .ok (.aload_n 0, 1) := by decide +kernel
theorem d_M_learn_31 : decode (sk_cc m_M_learn) 31 = .ok (.getfield 53, 3) := by decide +kernel
theorem d_M_learn_34 : decode (sk_cc m_M_learn) 34 = .ok (.iload_n 1, 1) := by decide +kernel
theorem d_M_learn_35 : decode (sk_cc m_M_learn) 35 = .ok (.aload_n 0, 1) := by decide +kernel
theorem d_M_learn_36 : decode (sk_cc m_M_learn) 36 = .ok (.invokevirtual 116, 3) := by decide +kernel
theorem d_M_learn_39 : decode (sk_cc m_M_learn) 39 = .ok (.iastore, 1) := by decide +kernel
theorem d_M_learn_40 : decode (sk_cc m_M_learn) 40 = .ok (.iconst 0, 1) := by decide +kernel
theorem d_M_learn_41 : decode (sk_cc m_M_learn) 41 = .ok (.istore_n 2, 1) := by decide +kernel
theorem d_M_learn_42 : decode (sk_cc m_M_learn) 42 = .ok (.iload_n 2, 1) := by decide +kernel
theorem d_M_learn_43 : decode (sk_cc m_M_learn) 43 = .ok (.iconst 2, 1) := by decide +kernel
theorem d_M_learn_44 : decode (sk_cc m_M_learn) 44 = .ok (.aload_n 0, 1) := by decide +kernel
theorem d_M_learn_45 : decode (sk_cc m_M_learn) 45 = .ok (.getfield 78, 3) := by decide +kernel
theorem d_M_learn_48 : decode (sk_cc m_M_learn) 48 = .ok (.imul, 1) := by decide +kernel
theorem d_M_learn_49 : decode (sk_cc m_M_learn) 49 = .ok (.if_icmp .ge 31, 3) := by decide +kernel
theorem d_M_learn_52 : decode (sk_cc m_M_learn) 52 = .ok (.aload_n 0, 1) := by decide +kernel
theorem d_M_learn_53 : decode (sk_cc m_M_learn) 53 = .ok (.iconst 0, 1) := by decide +kernel
theorem d_M_learn_54 : decode (sk_cc m_M_learn) 54 = .ok (.iload_n 1, 1) := by decide +kernel
theorem d_M_learn_55 : decode (sk_cc m_M_learn) 55 = .ok (.iload_n 2, 1) := by decide +kernel
theorem d_M_learn_56 : decode (sk_cc m_M_learn) 56 = .ok (.invokevirtual 112, 3) := by decide +kernel
theorem d_M_learn_59 : decode (sk_cc m_M_learn) 59 = .ok (.aload_n 0, 1) := by decide +kernel
theorem d_M_learn_60 : decode (sk_cc m_M_learn) 60 = .ok (.getfield 50, 3) := by decide +kernel
theorem d_M_learn_63 : decode (sk_cc m_M_learn) 63 = .ok (.bipush 64, 2) := by decide +kernel
theorem d_M_learn_65 : decode (sk_cc m_M_learn) 65 = .ok (.iload_n 2, 1) := by decide +kernel
theorem d_M_learn_66 : decode (sk_cc m_M_learn) 66 = .ok (.imul, 1) := by decide +kernel
theorem d_M_learn_67 : decode (sk_cc m_M_learn) 67 = .ok (.iload_n 1, 1) := by decide +kernel
theorem d_M_learn_68 : decode (sk_cc m_M_learn) 68 = .ok (.iadd, 1) := by decide +kernel
theorem d_M_learn_69 : decode (sk_cc m_M_learn) 69 = .ok (.aload_n 0, 1) := by decide +kernel
theorem d_M_learn_70 : decode (sk_cc m_M_learn) 70 = .ok (.invokevirtual 116, 3) := by decide +kernel
theorem d_M_learn_73 : decode (sk_cc m_M_learn) 73 = .ok (.iastore, 1) := by decide +kernel
theorem d_M_learn_74 : decode (sk_cc m_M_learn) 74 = .ok (.iinc 2 1, 3) := by decide +kernel
theorem d_M_learn_77 : decode (sk_cc m_M_learn) 77 = .ok (.goto (-35), 3) := by decide +kernel
theorem d_M_learn_80 : decode (sk_cc m_M_learn) 80 = .ok (.iinc 1 1, 3) := by decide +kernel
theorem d_M_learn_83 : decode (sk_cc m_M_learn) 83 = .ok (.goto (-68), 3) := by decide +kernel
theorem d_M_learn_86 : decode (sk_cc m_M_learn) 86 = .ok (.return_, 1) := by decide +kernel
theorem d_M_vectors_0 : decode (sk_cc m_M_vectors) 0 = .ok (.iconst 1, 1) := by decide +kernel
theorem d_M_vectors_1 : decode (sk_cc m_M_vectors) 1 = .ok (.aload_n 0, 1) := by decide +kernel
theorem d_M_vectors_2 : decode (sk_cc m_M_vectors) 2 = .ok (.getfield 75, 3) := by decide +kernel
theorem d_M_vectors_5 : decode (sk_cc m_M_vectors) 5 = .ok (.ishl, 1) := by decide +kernel
theorem d_M_vectors_6 : decode (sk_cc m_M_vectors) 6 = .ok (.ireturn, 1) := by decide +kernel
theorem d_M_make_0 : decode (sk_cc m_M_make) 0 = .ok (.iload_n 3, 1) := by decide +kernel
theorem d_M_make_1 : decode (sk_cc m_M_make) 1 = .ok (.ifCond .ge 7, 3) := by decide +kernel
theorem d_M_make_4 : decode (sk_cc m_M_make) 4 = .ok (.iconst (-1), 1) := by decide +kernel
theorem d_M_make_5 : decode (sk_cc m_M_make) 5 = .ok (.goto 11, 3) := by decide +kernel
theorem d_M_make_8 : decode (sk_cc m_M_make) 8 = .ok (.aload_n 0, 1) := by decide +kernel
theorem d_M_make_9 : decode (sk_cc m_M_make) 9 = .ok (.getfield 38, 3) := by decide +kernel
theorem d_M_make_12 : decode (sk_cc m_M_make) 12 = .ok (.iload_n 3, 1) := by decide +kernel
theorem d_M_make_13 : decode (sk_cc m_M_make) 13 = .ok (.iconst 2, 1) := by decide +kernel
theorem d_M_make_14 : decode (sk_cc m_M_make) 14 = .ok (.idiv, 1) := by decide +kernel
theorem d_M_make_15 : decode (sk_cc m_M_make) 15 = .ok (.iaload, 1) := by decide +kernel
theorem d_M_make_16 : decode (sk_cc m_M_make) 16 = .ok (.istore 4, 2) := by decide +kernel
theorem d_M_make_18 : decode (sk_cc m_M_make) 18 = .ok (.iload_n 3, 1) := by decide +kernel
theorem d_M_make_19 : decode (sk_cc m_M_make) 19 = .ok (.ifCond .ge 7, 3) := by decide +kernel
theorem d_M_make_22 : decode (sk_cc m_M_make) 22 = .ok (.iconst (-1), 1) := by decide +kernel
theorem d_M_make_23 : decode (sk_cc m_M_make) 23 = .ok (.goto 11, 3) := by decide +kernel
theorem d_M_make_26 : decode (sk_cc m_M_make) 26 = .ok (.aload_n 0, 1) := by decide +kernel
theorem d_M_make_27 : decode (sk_cc m_M_make) 27 = .ok (.getfield 41, 3) := by decide +kernel
theorem d_M_make_30 : decode (sk_cc m_M_make) 30 = .ok (.iload_n 3, 1) := by decide +kernel
theorem d_M_make_31 : decode (sk_cc m_M_make) 31 = .ok (.iconst 2, 1) := by decide +kernel
theorem d_M_make_32 : decode (sk_cc m_M_make) 32 = .ok (.idiv, 1) := by decide +kernel
theorem d_M_make_33 : decode (sk_cc m_M_make) 33 = .ok (.iaload, 1) := by decide +kernel
theorem d_M_make_34 : decode (sk_cc m_M_make) 34 = .ok (.istore 5, 2) := by decide +kernel
theorem d_M_make_36 : decode (sk_cc m_M_make) 36 = .ok (.iload_n 3, 1) := by decide +kernel
theorem d_M_make_37 : decode (sk_cc m_M_make) 37 = .ok (.ifCond .ge 7, 3) := by decide +kernel
theorem d_M_make_40 : decode (sk_cc m_M_make) 40 = .ok (.iconst 0, 1) := by decide +kernel
theorem d_M_make_41 : decode (sk_cc m_M_make) 41 = .ok (.goto 6, 3) := by decide +kernel
theorem d_M_make_44 : decode (sk_cc m_M_make) 44 = .ok (.iload_n 3, 1) := by decide +kernel
theorem d_M_make_45 : decode (sk_cc m_M_make) 45 = .ok (.iconst 2, 1) := by decide +kernel
theorem d_M_make_46 : decode (sk_cc m_M_make) 46 = .ok (.irem, 1) := by decide +kernel
theorem d_M_make_47 : decode (sk_cc m_M_make) 47 = .ok (.istore 6, 2) := by decide +kernel
theorem d_M_make_49 : decode (sk_cc m_M_make) 49 = .ok (.iconst 0, 1) := by decide +kernel
theorem d_M_make_50 : decode (sk_cc m_M_make) 50 = .ok (.istore 7, 2) := by decide +kernel
theorem d_M_make_52 : decode (sk_cc m_M_make) 52 = .ok (.iload 7, 2) := by decide +kernel
theorem d_M_make_54 : decode (sk_cc m_M_make) 54 = .ok (.aload_n 0, 1) := by decide +kernel
theorem d_M_make_55 : decode (sk_cc m_M_make) 55 = .ok (.getfield 72, 3) := by decide +kernel
theorem d_M_make_58 : decode (sk_cc m_M_make) 58 = .ok (.if_icmp .ge 226, 3) := by decide +kernel
theorem d_M_make_61 : decode (sk_cc m_M_make) 61 = .ok (.aload_n 0, 1) := by decide +kernel
theorem d_M_make_62 : decode (sk_cc m_M_make) 62 = .ok (.getfield 7, 3) := by decide +kernel
theorem d_M_make_65 : decode (sk_cc m_M_make) 65 = .ok (.iload 7, 2) := by decide +kernel
theorem d_M_make_67 : decode (sk_cc m_M_make) 67 = .ok (.iaload, 1) := by decide +kernel
theorem d_M_make_68 : decode (sk_cc m_M_make) 68 = .ok (.istore 8, 2) := by decide +kernel
theorem d_M_make_70 : decode (sk_cc m_M_make) 70 = .ok (.iload 8, 2) := by decide +kernel
theorem d_M_make_72 : decode (sk_cc m_M_make) 72 = .ok (.ifCond .lt 33, 3) := by decide +kernel
theorem d_M_make_75 : decode (sk_cc m_M_make) 75 = .ok (.aload_n 0, 1) := by decide +kernel
theorem d_M_make_76 : decode (sk_cc m_M_make) 76 = .ok (.getfield 44, 3) := by decide +kernel
theorem d_M_make_79 : decode (sk_cc m_M_make) 79 = .ok (.iload 7, 2) := by decide +kernel
theorem d_M_make_81 : decode (sk_cc m_M_make) 81 = .ok (.iload_n 1, 1) := by decide +kernel
theorem d_M_make_82 : decode (sk_cc m_M_make) 82 = .ok (.iload 8, 2) := by decide +kernel
theorem d_M_make_84 : decode (sk_cc m_M_make) 84 = .ok (.ishr, 1) := by decide +kernel
theorem d_M_make_85 : decode (sk_cc m_M_make) 85 = .ok (.iconst 1, 1) := by decide +kernel
theorem d_M_make_86 : decode (sk_cc m_M_make) 86 = .ok (.iand, 1) := by decide +kernel
theorem d_M_make_87 : decode (sk_cc m_M_make) 87 = .ok (.iconst 1, 1) := by decide +kernel
theorem d_M_make_88 : decode (sk_cc m_M_make) 88 = .ok (.if_icmp .ne 7, 3) := by decide +kernel
theorem d_M_make_91 : decode (sk_cc m_M_make) 91 = .ok (.iconst 2, 1) := by decide +kernel
theorem d_M_make_92 : decode (sk_cc m_M_make) 92 = .ok (.goto 9, 3) := by decide +kernel
theorem d_M_make_95 : decode (sk_cc m_M_make) 95 = .ok (.iload_n 2, 1) := by decide +kernel
theorem d_M_make_96 : decode (sk_cc m_M_make) 96 = .ok (.iload 8, 2) := by decide +kernel
theorem d_M_make_98 : decode (sk_cc m_M_make) 98 = .ok (.ishr, 1) := by decide +kernel
theorem d_M_make_99 : decode (sk_cc m_M_make) 99 = .ok (.iconst 1, 1) := by decide +kernel
theorem d_M_make_100 : decode (sk_cc m_M_make) 100 = .ok (.iand, 1) := by decide +kernel
theorem d_M_make_101 : decode (sk_cc m_M_make) 101 = .ok (.iastore, 1) := by decide +kernel
theorem d_M_make_102 : decode (sk_cc m_M_make) 102 = .ok (.goto 144, 3) := by decide +kernel
theorem d_M_make_105 : decode (sk_cc m_M_make) 105 = .ok (.iconst 0, 1) := by decide +kernel
theorem d_M_make_106 : decode (sk_cc m_M_make) 106 = .ok (.istore 9, 2) := by decide +kernel
theorem d_M_make_108 : decode (sk_cc m_M_make) 108 = .ok (.iconst 0, 1) := by decide +kernel
theorem d_M_make_109 : decode (sk_cc m_M_make) 109 = .ok (.istore 10, 2) := by decide +kernel
theorem d_M_make_111 : decode (sk_cc m_M_make) 111 = .ok (.iconst 0, 1) := by decide +kernel
theorem d_M_make_112 : decode (sk_cc m_M_make) 112 = .ok (.istore 11, 2) := by decide +kernel
theorem d_M_make_114 : decode (sk_cc m_M_make) 114 = .ok (.iconst 0, 1) := by decide +kernel
theorem d_M_make_115 : decode (sk_cc m_M_make) 115 = .ok (.istore 12, 2) := by decide +kernel
theorem d_M_make_117 : decode (sk_cc m_M_make) 117 = .ok (.iload 12, 2) := by decide +kernel
theorem d_M_make_119 : decode (sk_cc m_M_make) 119 = .ok (.aload_n 0, 1) := by decide +kernel
theorem d_M_make_120 : decode (sk_cc m_M_make) 120 = .ok (.getfield 19, 3) := by decide +kernel
theorem d_M_make_123 : decode (sk_cc m_M_make) 123 = .ok (.iload 7, 2) := by decide +kernel
theorem d_M_make_125 : decode (sk_cc m_M_make) 125 = .ok (.iaload, 1) := by decide +kernel
theorem d_M_make_126 : decode (sk_cc m_M_make) 126 = .ok (.if_icmp .ge 97, 3) := by decide +kernel
theorem d_M_make_129 : decode (sk_cc m_M_make) 129 = .ok (.iload 7, 2) := by decide +kernel
theorem d_M_make_131 : decode (sk_cc m_M_make) 131 = .ok (.iload 4, 2) := by decide +kernel
theorem d_M_make_133 : decode (sk_cc m_M_make) 133 = .ok (.if_icmp .ne 15, 3) := by decide +kernel
theorem d_M_make_136 : decode (sk_cc m_M_make) 136 = .ok (.iload 12, 2) := by decide +kernel
theorem d_M_make_138 : decode (sk_cc m_M_make) 138 = .ok (.iload 5, 2) := by decide +kernel
theorem d_M_make_140 : decode (sk_cc m_M_make) 140 = .ok (.if_icmp .ne 8, 3) := by decide +kernel
theorem d_M_make_143 : decode (sk_cc m_M_make) 143 = .ok (.iload 6, 2) := by decide +kernel
theorem d_M_make_145 : decode (sk_cc m_M_make) 145 = .ok (.goto 20, 3) := by decide +kernel
theorem d_M_make_148 : decode (sk_cc m_M_make) 148 = .ok (.aload_n 0, 1) := by decide +kernel
theorem d_M_make_149 : decode (sk_cc m_M_make) 149 = .ok (.getfield 44, 3) := by decide +kernel
theorem d_M_make_152 : decode (sk_cc m_M_make) 152 = .ok (.aload_n 0, 1) := by decide +kernel
theorem d_M_make_153 : decode (sk_cc m_M_make) 153 = .ok (.getfield 16, 3) := by decide +kernel
theorem d_M_make_156 : decode (sk_cc m_M_make) 156 = .ok (.iconst 3, 1) := by decide +kernel
theorem d_M_make_157 : decode (sk_cc m_M_make) 157 = .ok (.iload 7, 2) := by decide +kernel
theorem d_M_make_159 : decode (sk_cc m_M_make) 159 = .ok (.imul, 1) := by decide +kernel
theorem d_M_make_160 : decode (sk_cc m_M_make) 160 = .ok (.iload 12, 2) := by decide +kernel
theorem d_M_make_162 : decode (sk_cc m_M_make) 162 = .ok (.iadd, 1) := by decide +kernel
theorem d_M_make_163 : decode (sk_cc m_M_make) 163 = .ok (.iaload, 1) := by decide +kernel
theorem d_M_make_164 : decode (sk_cc m_M_make) 164 = .ok (.iaload, 1) := by decide +kernel
theorem d_M_make_165 : decode (sk_cc m_M_make) 165 = .ok (.istore 13, 2) := by decide +kernel
theorem d_M_make_167 : decode (sk_cc m_M_make) 167 = .ok (.iload 13, 2) := by decide +kernel
theorem d_M_make_169 : decode (sk_cc m_M_make) 169 = .ok (.ifCond .ne 10, 3) := by decide +kernel
theorem d_M_make_172 : decode (sk_cc m_M_make) 172 = .ok (.iload 9, 2) := by decide +kernel
theorem d_M_make_174 : decode (sk_cc m_M_make) 174 = .ok (.iconst 1, 1) := by decide +kernel
theorem d_M_make_175 : decode (sk_cc m_M_make) 175 = .ok (.iadd, 1) := by decide +kernel
theorem d_M_make_176 : decode (sk_cc m_M_make) 176 = .ok (.goto 5, 3) := by decide +kernel
theorem d_M_make_179 : decode (sk_cc m_M_make) 179 = .ok (.iload 9, 2) := by decide +kernel
theorem d_M_make_181 : decode (sk_cc m_M_make) 181 = .ok (.istore 9, 2) := by decide +kernel
theorem d_M_make_183 : decode (sk_cc m_M_make) 183 = .ok (.iload 13, 2) := by decide +kernel
theorem d_M_make_185 : decode (sk_cc m_M_make) 185 = .ok (.iconst 1, 1) := by decide +kernel
theorem d_M_make_186 : decode (sk_cc m_M_make) 186 = .ok (.if_icmp .ne 10, 3) := by decide +kernel
theorem d_M_make_189 : decode (sk_cc m_M_make) 189 = .ok (.iload 10, 2) := by decide +kernel
theorem d_M_make_191 : decode (sk_cc m_M_make) 191 = .ok (.iconst 1, 1) := by decide +kernel
theorem d_M_make_192 : decode (sk_cc m_M_make) 192 = .ok (.iadd, 1) := by decide +kernel
theorem d_M_make_193 : decode (sk_cc m_M_make) 193 = .ok (.goto 5, 3) := by decide +kernel
theorem d_M_make_196 : decode (sk_cc m_M_make) 196 = .ok (.iload 10, 2) := by decide +kernel
theorem d_M_make_198 : decode (sk_cc m_M_make) 198 = .ok (.istore 10, 2) := by decide +kernel
theorem d_M_make_200 : decode (sk_cc m_M_make) 200 = .ok (.iload 13, 2) := by decide +kernel
theorem d_M_make_202 : decode (sk_cc m_M_make) 202 = .ok (.iconst 2, 1) := by decide +kernel
theorem d_M_make_203 : decode (sk_cc m_M_make) 203 = .ok (.if_icmp .ne 10, 3) := by decide +kernel
theorem d_M_make_206 : decode (sk_cc m_M_make) 206 = .ok (.iload 11, 2) := by decide +kernel
theorem d_M_make_208 : decode (sk_cc m_M_make) 208 = .ok (.iconst 1, 1) := by decide +kernel
theorem d_M_make_209 : decode (sk_cc m_M_make) 209 = .ok (.iadd, 1) := by decide +kernel
theorem d_M_make_210 : decode (sk_cc m_M_make) 210 = .ok (.goto 5, 3) := by decide +kernel
theorem d_M_make_213 : decode (sk_cc m_M_make) 213 = .ok (.iload 11, 2) := by decide +kernel
theorem d_M_make_215 : decode (sk_cc m_M_make) 215 = .ok (.istore 11, 2) := by decide +kernel
theorem d_M_make_217 : decode (sk_cc m_M_make) 217 = .ok (.iinc 12 1, 3) := by decide +kernel
theorem d_M_make_220 : decode (sk_cc m_M_make) 220 = .ok (.goto (-103), 3) := by decide +kernel
theorem d_M_make_223 : decode (sk_cc m_M_make) 223 = .ok (.aload_n 0, 1) := by decide +kernel
theorem d_M_make_224 : decode (sk_cc m_M_make) 224 = .ok (.getfield 44, 3) := by decide +kernel
theorem d_M_make_227 : decode (sk_cc m_M_make) 227 = .ok (.iload 7, 2) := by decide +kernel
theorem d_M_make_229 : decode (sk_cc m_M_make) 229 = .ok (.aload_n 0, 1) := by decide +kernel
theorem d_M_make_230 : decode (sk_cc m_M_make) 230 = .ok (.getfield 13, 3) := by decide +kernel
theorem d_M_make_233 : decode (sk_cc m_M_make) 233 = .ok (.iload 7, 2) := by decide +kernel
theorem d_M_make_235 : decode (sk_cc m_M_make) 235 = .ok (.iaload, 1) := by decide +kernel
theorem d_M_make_236 : decode (sk_cc m_M_make) 236 = .ok (.iload 9, 2) := by decide +kernel
theorem d_M_make_238 : decode (sk_cc m_M_make) 238 = .ok (.iload 10, 2) := by decide +kernel
theorem d_M_make_240 : decode (sk_cc m_M_make) 240 = .ok (.iload 11, 2) := by decide +kernel
theorem d_M_make_242 : decode (sk_cc m_M_make) 242 = .ok (.invokestatic 104, 3) := by decide +kernel
theorem d_M_make_245 : decode (sk_cc m_M_make) 245 = .ok (.iastore, 1) := by decide +kernel
theorem d_M_make_246 : decode (sk_cc m_M_make) 246 = .ok (.aload_n 0, 1) := by decide +kernel
theorem d_M_make_247 : decode (sk_cc m_M_make) 247 = .ok (.getfield 44, 3) := by decide +kernel
theorem d_M_make_250 : decode (sk_cc m_M_make) 250 = .ok (.iload 7, 2) := by decide +kernel
theorem d_M_make_252 : decode (sk_cc m_M_make) 252 = .ok (.iload 7, 2) := by decide +kernel
theorem d_M_make_254 : decode (sk_cc m_M_make) 254 = .ok (.iload 4, 2) := by decide +kernel
theorem d_M_make_256 : decode (sk_cc m_M_make) 256 = .ok (.if_icmp .ne 14, 3) := by decide +kernel
theorem d_M_make_259 : decode (sk_cc m_M_make) 259 = .ok (.iload 5, 2) := by decide +kernel
theorem d_M_make_261 : decode (sk_cc m_M_make) 261 = .ok (.iconst (-1), 1) := by decide +kernel
theorem d_M_make_262 : decode (sk_cc m_M_make) 262 = .ok (.if_icmp .ne 8, 3) := by decide +kernel
theorem d_M_make_265 : decode (sk_cc m_M_make) 265 = .ok (.iload 6, 2) := by decide +kernel
theorem d_M_make_267 : decode (sk_cc m_M_make) 267 = .ok (.goto 10, 3) := by decide +kernel
theorem d_M_make_270 : decode (sk_cc m_M_make) 270 = .ok (.aload_n 0, 1) := by decide +kernel
theorem d_M_make_271 : decode (sk_cc m_M_make) 271 = .ok (.getfield 44, 3) := by decide +kernel
theorem d_M_make_274 : decode (sk_cc m_M_make) 274 = .ok (.iload 7, 2) := by decide +kernel
theorem d_M_make_276 : decode (sk_cc m_M_make) 276 = .ok (.iaload, 1) := by decide +kernel
theorem d_M_make_277 : decode (sk_cc m_M_make) 277 = .ok (.iastore, 1) := by decide +kernel
theorem d_M_make_278 : decode (sk_cc m_M_make) 278 = .ok (.iinc 7 1, 3) := by decide +kernel
theorem d_M_make_281 : decode (sk_cc m_M_make) 281 = .ok (.goto (-229), 3) := by decide +kernel
theorem d_M_make_284 : decode (sk_cc m_M_make) 284 = .ok (.return_, 1) := by decide +kernel
theorem d_M_madeOf_0 : decode (sk_cc m_M_madeOf) 0 = .ok (.iload_n 0, 1) := by decide +kernel
theorem d_M_madeOf_1 : decode (sk_cc m_M_madeOf) 1 = .ok (.iconst 2, 1) := by decide +kernel
theorem d_M_madeOf_2 : decode (sk_cc m_M_madeOf) 2 = .ok (.if_icmp .ge 25, 3) := by decide +kernel
theorem d_M_madeOf_5 : decode (sk_cc m_M_madeOf) 5 = .ok (.iload_n 1, 1) := by decide +kernel
theorem d_M_madeOf_6 : decode (sk_cc m_M_madeOf) 6 = .ok (.ifCond .le 7, 3) := by decide +kernel
theorem d_M_madeOf_9 : decode (sk_cc m_M_madeOf) 9 = .ok (.iconst 0, 1) := by decide +kernel
theorem d_M_madeOf_10 : decode (sk_cc m_M_madeOf) 10 = .ok (.goto 12, 3) := by decide +kernel
theorem d_M_madeOf_13 : decode (sk_cc m_M_madeOf) 13 = .ok (.iload_n 3, 1) := by decide +kernel
theorem d_M_madeOf_14 : decode (sk_cc m_M_madeOf) 14 = .ok (.ifCond .le 7, 3) := by decide +kernel
theorem d_M_madeOf_17 : decode (sk_cc m_M_madeOf) 17 = .ok (.iconst 2, 1) := by decide +kernel
theorem d_M_madeOf_18 : decode (sk_cc m_M_madeOf) 18 = .ok (.goto 4, 3) := by decide +kernel
theorem d_M_madeOf_21 : decode (sk_cc m_M_madeOf) 21 = .ok (.iconst 1, 1) := by decide +kernel
theorem d_M_madeOf_22 : decode (sk_cc m_M_madeOf) 22 = .ok (.istore 4, 2) := by decide +kernel
theorem d_M_madeOf_24 : decode (sk_cc m_M_madeOf) 24 = .ok (.goto 43, 3) := by decide +kernel
theorem d_M_madeOf_27 : decode (sk_cc m_M_madeOf) 27 = .ok (.iload_n 0, 1) := by decide +kernel
theorem d_M_madeOf_28 : decode (sk_cc m_M_madeOf) 28 = .ok (.iconst 4, 1) := by decide +kernel
theorem d_M_madeOf_29 : decode (sk_cc m_M_madeOf) 29 = .ok (.if_icmp .ge 25, 3) := by decide +kernel
theorem d_M_madeOf_32 : decode (sk_cc m_M_madeOf) 32 = .ok (.iload_n 2, 1) := by decide +kernel
theorem d_M_madeOf_33 : decode (sk_cc m_M_madeOf) 33 = .ok (.ifCond .le 7, 3) := by decide +kernel
theorem d_M_madeOf_36 : decode (sk_cc m_M_madeOf) 36 = .ok (.iconst 1, 1) := by decide +kernel
theorem d_M_madeOf_37 : decode (sk_cc m_M_madeOf) 37 = .ok (.goto 12, 3) := by decide +kernel
theorem d_M_madeOf_40 : decode (sk_cc m_M_madeOf) 40 = .ok (.iload_n 3, 1) := by decide +kernel
theorem d_M_madeOf_41 : decode (sk_cc m_M_madeOf) 41 = .ok (.ifCond .le 7, 3) := by decide +kernel
theorem d_M_madeOf_44 : decode (sk_cc m_M_madeOf) 44 = .ok (.iconst 2, 1) := by decide +kernel
theorem d_M_madeOf_45 : decode (sk_cc m_M_madeOf) 45 = .ok (.goto 4, 3) := by decide +kernel
theorem d_M_madeOf_48 : decode (sk_cc m_M_madeOf) 48 = .ok (.iconst 0, 1) := by decide +kernel
theorem d_M_madeOf_49 : decode (sk_cc m_M_madeOf) 49 = .ok (.istore 4, 2) := by decide +kernel
theorem d_M_madeOf_51 : decode (sk_cc m_M_madeOf) 51 = .ok (.goto 16, 3) := by decide +kernel
theorem d_M_madeOf_54 : decode (sk_cc m_M_madeOf) 54 = .ok (.iload_n 3, 1) := by decide +kernel
theorem d_M_madeOf_55 : decode (sk_cc m_M_madeOf) 55 = .ok (.ifCond .le 7, 3) := by decide +kernel
theorem d_M_madeOf_58 : decode (sk_cc m_M_madeOf) 58 = .ok (.iconst 2, 1) := by decide +kernel
theorem d_M_madeOf_59 : decode (sk_cc m_M_madeOf) 59 = .ok (.goto 6, 3) := by decide +kernel
theorem d_M_madeOf_62 : decode (sk_cc m_M_madeOf) 62 = .ok (.iload_n 2, 1) := by decide +kernel
theorem d_M_madeOf_63 : decode (sk_cc m_M_madeOf) 63 = .ok (.iconst 2, 1) := by decide +kernel
theorem d_M_madeOf_64 : decode (sk_cc m_M_madeOf) 64 = .ok (.irem, 1) := by decide +kernel
theorem d_M_madeOf_65 : decode (sk_cc m_M_madeOf) 65 = .ok (.istore 4, 2) := by decide +kernel
theorem d_M_madeOf_67 : decode (sk_cc m_M_madeOf) 67 = .ok (.iload 4, 2) := by decide +kernel
theorem d_M_madeOf_69 : decode (sk_cc m_M_madeOf) 69 = .ok (.iconst 2, 1) := by decide +kernel
theorem d_M_madeOf_70 : decode (sk_cc m_M_madeOf) 70 = .ok (.if_icmp .eq 9, 3) := by decide +kernel
theorem d_M_madeOf_73 : decode (sk_cc m_M_madeOf) 73 = .ok (.iload_n 0, 1) := by decide +kernel
theorem d_M_madeOf_74 : decode (sk_cc m_M_madeOf) 74 = .ok (.iconst 2, 1) := by decide +kernel
theorem d_M_madeOf_75 : decode (sk_cc m_M_madeOf) 75 = .ok (.irem, 1) := by decide +kernel
theorem d_M_madeOf_76 : decode (sk_cc m_M_madeOf) 76 = .ok (.ifCond .ne 8, 3) := by decide +kernel
theorem d_M_madeOf_79 : decode (sk_cc m_M_madeOf) 79 = .ok (.iload 4, 2) := by decide +kernel
theorem d_M_madeOf_81 : decode (sk_cc m_M_madeOf) 81 = .ok (.goto 7, 3) := by decide +kernel
theorem d_M_madeOf_84 : decode (sk_cc m_M_madeOf) 84 = .ok (.iconst 1, 1) := by decide +kernel
theorem d_M_madeOf_85 : decode (sk_cc m_M_madeOf) 85 = .ok (.iload 4, 2) := by decide +kernel
theorem d_M_madeOf_87 : decode (sk_cc m_M_madeOf) 87 = .ok (.isub, 1) := by decide +kernel
theorem d_M_madeOf_88 : decode (sk_cc m_M_madeOf) 88 = .ok (.ireturn, 1) := by decide +kernel
theorem d_M_answered_0 : decode (sk_cc m_M_answered) 0 = .ok (.iconst 0, 1) := by decide +kernel
theorem d_M_answered_1 : decode (sk_cc m_M_answered) 1 = .ok (.istore_n 1, 1) := by decide +kernel
theorem d_M_answered_2 : decode (sk_cc m_M_answered) 2 = .ok (.iconst 0, 1) := by decide +kernel
theorem d_M_answered_3 : decode (sk_cc m_M_answered) 3 = .ok (.istore_n 2, 1) := by decide +kernel
theorem d_M_answered_4 : decode (sk_cc m_M_answered) 4 = .ok (.iload_n 2, 1) := by decide +kernel
theorem d_M_answered_5 : decode (sk_cc m_M_answered) 5 = .ok (.aload_n 0, 1) := by decide +kernel
theorem d_M_answered_6 : decode (sk_cc m_M_answered) 6 = .ok (.getfield 91, 3) := by decide +kernel
theorem d_M_answered_9 : decode (sk_cc m_M_answered) 9 = .ok (.if_icmp .ge 25, 3) := by decide +kernel
theorem d_M_answered_12 : decode (sk_cc m_M_answered) 12 = .ok (.iload_n 1, 1) := by decide +kernel
theorem d_M_answered_13 : decode (sk_cc m_M_answered) 13 = .ok (.aload_n 0, 1) := by decide +kernel
theorem d_M_answered_14 : decode (sk_cc m_M_answered) 14 = .ok (.getfield 44, 3) := by decide +kernel
theorem d_M_answered_17 : decode (sk_cc m_M_answered) 17 = .ok (.aload_n 0, 1) := by decide +kernel
theorem d_M_answered_18 : decode (sk_cc m_M_answered) 18 = .ok (.getfield 35, 3) := by decide +kernel
theorem d_M_answered_21 : decode (sk_cc m_M_answered) 21 = .ok (.iload_n 2, 1) := by decide +kernel
theorem d_M_answered_22 : decode (sk_cc m_M_answered) 22 = .ok (.iaload, 1) := by decide +kernel
theorem d_M_answered_23 : decode (sk_cc m_M_answered) 23 = .ok (.iaload, 1) := by decide +kernel
theorem d_M_answered_24 : decode (sk_cc m_M_answered) 24 = .ok (.iload_n 2, 1) := by decide +kernel
theorem d_M_answered_25 : decode (sk_cc m_M_answered) 25 = .ok (.ishl, 1) := by decide +kernel
theorem d_M_answered_26 : decode (sk_cc m_M_answered) 26 = .ok (.iadd, 1) := by decide +kernel
theorem d_M_answered_27 : decode (sk_cc m_M_answered) 27 = .ok (.istore_n 1, 1) := by decide +kernel
theorem d_M_answered_28 : decode (sk_cc m_M_answered) 28 = .ok (.iinc 2 1, 3) := by decide +kernel
theorem d_M_answered_31 : decode (sk_cc m_M_answered) 31 = .ok (.goto (-27), 3) := by decide +kernel
theorem d_M_answered_34 : decode (sk_cc m_M_answered) 34 = .ok (.iload_n 1, 1) := by decide +kernel
theorem d_M_answered_35 : decode (sk_cc m_M_answered) 35 = .ok (.ireturn, 1) := by decide +kernel
theorem d_M_leastOf_0 : decode (sk_cc m_M_leastOf) 0 = .ok (.iconst 0, 1) := by decide +kernel
theorem d_M_leastOf_1 : decode (sk_cc m_M_leastOf) 1 = .ok (.istore_n 2, 1) := by decide +kernel
theorem d_M_leastOf_2 : decode (sk_cc m_M_leastOf) 2 = .ok (.iload_n 2, 1) := by decide +kernel
theorem d_M_leastOf_3 : decode (sk_cc m_M_leastOf) 3 = .ok (.aload_n 0, 1) := by decide +kernel
theorem d_M_leastOf_4 : decode (sk_cc m_M_leastOf) 4 = .ok (.invokevirtual 108, 3) := by decide +kernel
theorem d_M_leastOf_7 : decode (sk_cc m_M_leastOf) 7 = .ok (.if_icmp .ge 31, 3) := by decide +kernel
theorem d_M_leastOf_10 : decode (sk_cc m_M_leastOf) 10 = .ok (.aload_n 0, 1) := by decide +kernel
theorem d_M_leastOf_11 : decode (sk_cc m_M_leastOf) 11 = .ok (.getfield 50, 3) := by decide +kernel
theorem d_M_leastOf_14 : decode (sk_cc m_M_leastOf) 14 = .ok (.bipush 64, 2) := by decide +kernel
theorem d_M_leastOf_16 : decode (sk_cc m_M_leastOf) 16 = .ok (.iload_n 1, 1) := by decide +kernel
theorem d_M_leastOf_17 : decode (sk_cc m_M_leastOf) 17 = .ok (.imul, 1) := by decide +kernel
theorem d_M_leastOf_18 : decode (sk_cc m_M_leastOf) 18 = .ok (.iload_n 2, 1) := by decide +kernel
theorem d_M_leastOf_19 : decode (sk_cc m_M_leastOf) 19 = .ok (.iadd, 1) := by decide +kernel
theorem d_M_leastOf_20 : decode (sk_cc m_M_leastOf) 20 = .ok (.iaload, 1) := by decide +kernel
theorem d_M_leastOf_21 : decode (sk_cc m_M_leastOf) 21 = .ok (.aload_n 0, 1) := by decide +kernel
theorem d_M_leastOf_22 : decode (sk_cc m_M_leastOf) 22 = .ok (.getfield 53, 3) := by decide +kernel
theorem d_M_leastOf_25 : decode (sk_cc m_M_leastOf) 25 = .ok (.iload_n 2, 1) := by decide +kernel
theorem d_M_leastOf_26 : decode (sk_cc m_M_leastOf) 26 = .ok (.iaload, 1) := by decide +kernel
theorem d_M_leastOf_27 : decode (sk_cc m_M_leastOf) 27 = .ok (.if_icmp .eq 5, 3) := by decide +kernel
theorem d_M_leastOf_30 : decode (sk_cc m_M_leastOf) 30 = .ok (.iload_n 2, 1) := by decide +kernel
theorem d_M_leastOf_31 : decode (sk_cc m_M_leastOf) 31 = .ok (.ireturn, 1) := by decide +kernel
theorem d_M_leastOf_32 : decode (sk_cc m_M_leastOf) 32 = .ok (.iinc 2 1, 3) := by decide +kernel
theorem d_M_leastOf_35 : decode (sk_cc m_M_leastOf) 35 = .ok (.goto (-33), 3) := by decide +kernel
theorem d_M_leastOf_38 : decode (sk_cc m_M_leastOf) 38 = .ok (.iconst (-1), 1) := by decide +kernel
theorem d_M_leastOf_39 : decode (sk_cc m_M_leastOf) 39 = .ok (.ireturn, 1) := by decide +kernel
theorem d_M_firstAlike_0 : decode (sk_cc m_M_firstAlike) 0 = .ok (.iconst 0, 1) := by decide +kernel
theorem d_M_firstAlike_1 : decode (sk_cc m_M_firstAlike) 1 = .ok (.istore_n 2, 1) := by decide +kernel
theorem d_M_firstAlike_2 : decode (sk_cc m_M_firstAlike) 2 = .ok (.iload_n 2, 1) := by decide +kernel
theorem d_M_firstAlike_3 : decode (sk_cc m_M_firstAlike) 3 = .ok (.iload_n 1, 1) := by decide +kernel
theorem d_M_firstAlike_4 : decode (sk_cc m_M_firstAlike) 4 = .ok (.if_icmp .ge 72, 3) := by decide +kernel
theorem d_M_firstAlike_7 : decode (sk_cc m_M_firstAlike) 7 = .ok (.iconst 1, 1) := by decide +kernel
theorem d_M_firstAlike_8 : decode (sk_cc m_M_firstAlike) 8 = .ok (.istore_n 3, 1) := by decide +kernel
theorem d_M_firstAlike_9 : decode (sk_cc m_M_firstAlike) 9 = .ok (.iconst 0, 1) := by decide +kernel
theorem d_M_firstAlike_10 : decode (sk_cc m_M_firstAlike) 10 = .ok (.istore 4, 2) := by decide +kernel
theorem d_M_firstAlike_12 : decode (sk_cc m_M_firstAlike) 12 = .ok (.iload 4, 2) := by decide +kernel
theorem d_M_firstAlike_14 : decode (sk_cc m_M_firstAlike) 14 = .ok (.aload_n 0, 1) := by decide +kernel
theorem d_M_firstAlike_15 : decode (sk_cc m_M_firstAlike) 15 = .ok (.invokevirtual 108, 3) := by decide +kernel
theorem d_M_firstAlike_18 : decode (sk_cc m_M_firstAlike) 18 = .ok (.if_icmp .ge 46, 3) := by decide +kernel
theorem d_M_firstAlike_21 : decode (sk_cc m_M_firstAlike) 21 = .ok (.iload_n 3, 1) := by decide +kernel
theorem d_M_firstAlike_22 : decode (sk_cc m_M_firstAlike) 22 = .ok (.ifCond .eq 42, 3) := by decide +kernel
theorem d_M_firstAlike_25 : decode (sk_cc m_M_firstAlike) 25 = .ok (.aload_n 0, 1) := by decide +kernel
theorem d_M_firstAlike_26 : decode (sk_cc m_M_firstAlike) 26 = .ok (.getfield 50, 3) := by decide +kernel
theorem d_M_firstAlike_29 : decode (sk_cc m_M_firstAlike) 29 = .ok (.bipush 64, 2) := by decide +kernel
theorem d_M_firstAlike_31 : decode (sk_cc m_M_firstAlike) 31 = .ok (.iload_n 1, 1) := by decide +kernel
theorem d_M_firstAlike_32 : decode (sk_cc m_M_firstAlike) 32 = .ok (.imul, 1) := by decide +kernel
theorem d_M_firstAlike_33 : decode (sk_cc m_M_firstAlike) 33 = .ok (.iload 4, 2) := by decide +kernel
theorem d_M_firstAlike_35 : decode (sk_cc m_M_firstAlike) 35 = .ok (.iadd, 1) := by decide +kernel
theorem d_M_firstAlike_36 : decode (sk_cc m_M_firstAlike) 36 = .ok (.iaload, 1) := by decide +kernel
theorem d_M_firstAlike_37 : decode (sk_cc m_M_firstAlike) 37 = .ok (.aload_n 0, 1) := by decide +kernel
theorem d_M_firstAlike_38 : decode (sk_cc m_M_firstAlike) 38 = .ok (.getfield 50, 3) := by decide +kernel
theorem d_M_firstAlike_41 : decode (sk_cc m_M_firstAlike) 41 = .ok (.bipush 64, 2) := by decide +kernel
theorem d_M_firstAlike_43 : decode (sk_cc m_M_firstAlike) 43 = .ok (.iload_n 2, 1) := by decide +kernel
theorem d_M_firstAlike_44 : decode (sk_cc m_M_firstAlike) 44 = .ok (.imul, 1) := by decide +kernel
theorem d_M_firstAlike_45 : decode (sk_cc m_M_firstAlike) 45 = .ok (.iload 4, 2) := by decide +kernel
theorem d_M_firstAlike_47 : decode (sk_cc m_M_firstAlike) 47 = .ok (.iadd, 1) := by decide +kernel
theorem d_M_firstAlike_48 : decode (sk_cc m_M_firstAlike) 48 = .ok (.iaload, 1) := by decide +kernel
theorem d_M_firstAlike_49 : decode (sk_cc m_M_firstAlike) 49 = .ok (.if_icmp .ne 7, 3) := by decide +kernel
theorem d_M_firstAlike_52 : decode (sk_cc m_M_firstAlike) 52 = .ok (.iconst 1, 1) := by decide +kernel
theorem d_M_firstAlike_53 : decode (sk_cc m_M_firstAlike) 53 = .ok (.goto 4, 3) := by decide +kernel
theorem d_M_firstAlike_56 : decode (sk_cc m_M_firstAlike) 56 = .ok (.iconst 0, 1) := by decide +kernel
theorem d_M_firstAlike_57 : decode (sk_cc m_M_firstAlike) 57 = .ok (.istore_n 3, 1) := by decide +kernel
theorem d_M_firstAlike_58 : decode (sk_cc m_M_firstAlike) 58 = .ok (.iinc 4 1, 3) := by decide +kernel
end
section
/-! decode rows -/
theorem d_M_firstAlike_61 : decode (sk_cc m_M_firstAlike) 61 = .ok (.goto (-49), 3) := by decide +kernel
theorem d_M_firstAlike_64 : decode (sk_cc m_M_firstAlike) 64 = .ok (.iload_n 3, 1) := by decide +kernel
theorem d_M_firstAlike_65 : decode (sk_cc m_M_firstAlike) 65 = .ok (.ifCond .eq 5, 3) := by decide +kernel
theorem d_M_firstAlike_68 : decode (sk_cc m_M_firstAlike) 68 = .ok (.iload_n 2, 1) := by decide +kernel
theorem d_M_firstAlike_69 : decode (sk_cc m_M_firstAlike) 69 = .ok (.ireturn, 1) := by decide +kernel
theorem d_M_firstAlike_70 : decode (sk_cc m_M_firstAlike) 70 = .ok (.iinc 2 1, 3) := by decide +kernel
theorem d_M_firstAlike_73 : decode (sk_cc m_M_firstAlike) 73 = .ok (.goto (-71), 3) := by decide +kernel
theorem d_M_firstAlike_76 : decode (sk_cc m_M_firstAlike) 76 = .ok (.iload_n 1, 1) := by decide +kernel
theorem d_M_firstAlike_77 : decode (sk_cc m_M_firstAlike) 77 = .ok (.ireturn, 1) := by decide +kernel
theorem d_M_value_0 : decode (sk_cc m_M_value) 0 = .ok (.aload_n 0, 1) := by decide +kernel
theorem d_M_value_1 : decode (sk_cc m_M_value) 1 = .ok (.iload_n 1, 1) := by decide +kernel
theorem d_M_value_2 : decode (sk_cc m_M_value) 2 = .ok (.ifCond .lt 32, 3) := by decide +kernel
theorem d_M_value_5 : decode (sk_cc m_M_value) 5 = .ok (.iload_n 1, 1) := by decide +kernel
theorem d_M_value_6 : decode (sk_cc m_M_value) 6 = .ok (.aload_n 0, 1) := by decide +kernel
theorem d_M_value_7 : decode (sk_cc m_M_value) 7 = .ok (.invokevirtual 108, 3) := by decide +kernel
theorem d_M_value_10 : decode (sk_cc m_M_value) 10 = .ok (.if_icmp .ge 24, 3) := by decide +kernel
theorem d_M_value_13 : decode (sk_cc m_M_value) 13 = .ok (.aload_n 0, 1) := by decide +kernel
theorem d_M_value_14 : decode (sk_cc m_M_value) 14 = .ok (.iload_n 2, 1) := by decide +kernel
theorem d_M_value_15 : decode (sk_cc m_M_value) 15 = .ok (.invokevirtual 100, 3) := by decide +kernel
theorem d_M_value_18 : decode (sk_cc m_M_value) 18 = .ok (.ifCond .ne 16, 3) := by decide +kernel
theorem d_M_value_21 : decode (sk_cc m_M_value) 21 = .ok (.iload_n 3, 1) := by decide +kernel
theorem d_M_value_22 : decode (sk_cc m_M_value) 22 = .ok (.iconst (-1), 1) := by decide +kernel
theorem d_M_value_23 : decode (sk_cc m_M_value) 23 = .ok (.if_icmp .eq 15, 3) := by decide +kernel
theorem d_M_value_26 : decode (sk_cc m_M_value) 26 = .ok (.aload_n 0, 1) := by decide +kernel
theorem d_M_value_27 : decode (sk_cc m_M_value) 27 = .ok (.iload_n 3, 1) := by decide +kernel
theorem d_M_value_28 : decode (sk_cc m_M_value) 28 = .ok (.invokevirtual 129, 3) := by decide +kernel
theorem d_M_value_31 : decode (sk_cc m_M_value) 31 = .ok (.ifCond .eq 7, 3) := by decide +kernel
theorem d_M_value_34 : decode (sk_cc m_M_value) 34 = .ok (.iconst 1, 1) := by decide +kernel
theorem d_M_value_35 : decode (sk_cc m_M_value) 35 = .ok (.goto 4, 3) := by decide +kernel
theorem d_M_value_38 : decode (sk_cc m_M_value) 38 = .ok (.iconst 0, 1) := by decide +kernel
theorem d_M_value_39 : decode (sk_cc m_M_value) 39 = .ok (.putfield 68, 3) := by decide +kernel
theorem d_M_value_42 : decode (sk_cc m_M_value) 42 = .ok (.aload_n 0, 1) := by decide +kernel
theorem d_M_value_43 : decode (sk_cc m_M_value) 43 = .ok (.getfield 68, 3) := by decide +kernel
theorem d_M_value_46 : decode (sk_cc m_M_value) 46 = .ok (.ifCond .le 5, 3) := by decide +kernel
theorem d_M_value_49 : decode (sk_cc m_M_value) 49 = .ok (.iconst 0, 1) := by decide +kernel
theorem d_M_value_50 : decode (sk_cc m_M_value) 50 = .ok (.ireturn, 1) := by decide +kernel
theorem d_M_value_51 : decode (sk_cc m_M_value) 51 = .ok (.aload_n 0, 1) := by decide +kernel
theorem d_M_value_52 : decode (sk_cc m_M_value) 52 = .ok (.iconst 0, 1) := by decide +kernel
theorem d_M_value_53 : decode (sk_cc m_M_value) 53 = .ok (.iload_n 1, 1) := by decide +kernel
theorem d_M_value_54 : decode (sk_cc m_M_value) 54 = .ok (.iload_n 3, 1) := by decide +kernel
theorem d_M_value_55 : decode (sk_cc m_M_value) 55 = .ok (.invokevirtual 112, 3) := by decide +kernel
theorem d_M_value_58 : decode (sk_cc m_M_value) 58 = .ok (.aload_n 0, 1) := by decide +kernel
theorem d_M_value_59 : decode (sk_cc m_M_value) 59 = .ok (.getfield 44, 3) := by decide +kernel
theorem d_M_value_62 : decode (sk_cc m_M_value) 62 = .ok (.iload_n 2, 1) := by decide +kernel
theorem d_M_value_63 : decode (sk_cc m_M_value) 63 = .ok (.iaload, 1) := by decide +kernel
theorem d_M_value_64 : decode (sk_cc m_M_value) 64 = .ok (.ireturn, 1) := by decide +kernel
theorem d_M_noFault_0 : decode (sk_cc m_M_noFault) 0 = .ok (.iload_n 1, 1) := by decide +kernel
theorem d_M_noFault_1 : decode (sk_cc m_M_noFault) 1 = .ok (.ifCond .lt 13, 3) := by decide +kernel
theorem d_M_noFault_4 : decode (sk_cc m_M_noFault) 4 = .ok (.iload_n 1, 1) := by decide +kernel
theorem d_M_noFault_5 : decode (sk_cc m_M_noFault) 5 = .ok (.iconst 2, 1) := by decide +kernel
theorem d_M_noFault_6 : decode (sk_cc m_M_noFault) 6 = .ok (.aload_n 0, 1) := by decide +kernel
theorem d_M_noFault_7 : decode (sk_cc m_M_noFault) 7 = .ok (.getfield 78, 3) := by decide +kernel
theorem d_M_noFault_10 : decode (sk_cc m_M_noFault) 10 = .ok (.imul, 1) := by decide +kernel
theorem d_M_noFault_11 : decode (sk_cc m_M_noFault) 11 = .ok (.if_icmp .lt 7, 3) := by decide +kernel
theorem d_M_noFault_14 : decode (sk_cc m_M_noFault) 14 = .ok (.iconst 1, 1) := by decide +kernel
theorem d_M_noFault_15 : decode (sk_cc m_M_noFault) 15 = .ok (.goto 4, 3) := by decide +kernel
theorem d_M_noFault_18 : decode (sk_cc m_M_noFault) 18 = .ok (.iconst 0, 1) := by decide +kernel
theorem d_M_noFault_19 : decode (sk_cc m_M_noFault) 19 = .ok (.ireturn, 1) := by decide +kernel
theorem d_M_response_0 : decode (sk_cc m_M_response) 0 = .ok (.aload_n 0, 1) := by decide +kernel
theorem d_M_response_1 : decode (sk_cc m_M_response) 1 = .ok (.iload_n 1, 1) := by decide +kernel
theorem d_M_response_2 : decode (sk_cc m_M_response) 2 = .ok (.ifCond .lt 24, 3) := by decide +kernel
theorem d_M_response_5 : decode (sk_cc m_M_response) 5 = .ok (.iload_n 1, 1) := by decide +kernel
theorem d_M_response_6 : decode (sk_cc m_M_response) 6 = .ok (.aload_n 0, 1) := by decide +kernel
theorem d_M_response_7 : decode (sk_cc m_M_response) 7 = .ok (.invokevirtual 108, 3) := by decide +kernel
theorem d_M_response_10 : decode (sk_cc m_M_response) 10 = .ok (.if_icmp .ge 16, 3) := by decide +kernel
theorem d_M_response_13 : decode (sk_cc m_M_response) 13 = .ok (.iload_n 2, 1) := by decide +kernel
theorem d_M_response_14 : decode (sk_cc m_M_response) 14 = .ok (.iconst (-1), 1) := by decide +kernel
theorem d_M_response_15 : decode (sk_cc m_M_response) 15 = .ok (.if_icmp .eq 15, 3) := by decide +kernel
theorem d_M_response_18 : decode (sk_cc m_M_response) 18 = .ok (.aload_n 0, 1) := by decide +kernel
theorem d_M_response_19 : decode (sk_cc m_M_response) 19 = .ok (.iload_n 2, 1) := by decide +kernel
theorem d_M_response_20 : decode (sk_cc m_M_response) 20 = .ok (.invokevirtual 129, 3) := by decide +kernel
theorem d_M_response_23 : decode (sk_cc m_M_response) 23 = .ok (.ifCond .eq 7, 3) := by decide +kernel
theorem d_M_response_26 : decode (sk_cc m_M_response) 26 = .ok (.iconst 1, 1) := by decide +kernel
theorem d_M_response_27 : decode (sk_cc m_M_response) 27 = .ok (.goto 4, 3) := by decide +kernel
theorem d_M_response_30 : decode (sk_cc m_M_response) 30 = .ok (.iconst 0, 1) := by decide +kernel
theorem d_M_response_31 : decode (sk_cc m_M_response) 31 = .ok (.putfield 68, 3) := by decide +kernel
theorem d_M_response_34 : decode (sk_cc m_M_response) 34 = .ok (.aload_n 0, 1) := by decide +kernel
theorem d_M_response_35 : decode (sk_cc m_M_response) 35 = .ok (.getfield 68, 3) := by decide +kernel
theorem d_M_response_38 : decode (sk_cc m_M_response) 38 = .ok (.ifCond .le 5, 3) := by decide +kernel
theorem d_M_response_41 : decode (sk_cc m_M_response) 41 = .ok (.iconst 0, 1) := by decide +kernel
theorem d_M_response_42 : decode (sk_cc m_M_response) 42 = .ok (.ireturn, 1) := by decide +kernel
theorem d_M_response_43 : decode (sk_cc m_M_response) 43 = .ok (.aload_n 0, 1) := by decide +kernel
theorem d_M_response_44 : decode (sk_cc m_M_response) 44 = .ok (.iconst 0, 1) := by decide +kernel
theorem d_M_response_45 : decode (sk_cc m_M_response) 45 = .ok (.iload_n 1, 1) := by decide +kernel
theorem d_M_response_46 : decode (sk_cc m_M_response) 46 = .ok (.iload_n 2, 1) := by decide +kernel
theorem d_M_response_47 : decode (sk_cc m_M_response) 47 = .ok (.invokevirtual 112, 3) := by decide +kernel
theorem d_M_response_50 : decode (sk_cc m_M_response) 50 = .ok (.aload_n 0, 1) := by decide +kernel
theorem d_M_response_51 : decode (sk_cc m_M_response) 51 = .ok (.invokevirtual 116, 3) := by decide +kernel
theorem d_M_response_54 : decode (sk_cc m_M_response) 54 = .ok (.ireturn, 1) := by decide +kernel
theorem d_M_fault_0 : decode (sk_cc m_M_fault) 0 = .ok (.aload_n 0, 1) := by decide +kernel
theorem d_M_fault_1 : decode (sk_cc m_M_fault) 1 = .ok (.iconst 0, 1) := by decide +kernel
theorem d_M_fault_2 : decode (sk_cc m_M_fault) 2 = .ok (.putfield 68, 3) := by decide +kernel
theorem d_M_fault_5 : decode (sk_cc m_M_fault) 5 = .ok (.iload_n 3, 1) := by decide +kernel
theorem d_M_fault_6 : decode (sk_cc m_M_fault) 6 = .ok (.ifCond .lt 8, 3) := by decide +kernel
theorem d_M_fault_9 : decode (sk_cc m_M_fault) 9 = .ok (.iload_n 3, 1) := by decide +kernel
theorem d_M_fault_10 : decode (sk_cc m_M_fault) 10 = .ok (.iconst 1, 1) := by decide +kernel
theorem d_M_fault_11 : decode (sk_cc m_M_fault) 11 = .ok (.if_icmp .le 5, 3) := by decide +kernel
theorem d_M_fault_14 : decode (sk_cc m_M_fault) 14 = .ok (.iconst (-1), 1) := by decide +kernel
theorem d_M_fault_15 : decode (sk_cc m_M_fault) 15 = .ok (.ireturn, 1) := by decide +kernel
theorem d_M_fault_16 : decode (sk_cc m_M_fault) 16 = .ok (.iconst 0, 1) := by decide +kernel
theorem d_M_fault_17 : decode (sk_cc m_M_fault) 17 = .ok (.istore 4, 2) := by decide +kernel
theorem d_M_fault_19 : decode (sk_cc m_M_fault) 19 = .ok (.iload 4, 2) := by decide +kernel
theorem d_M_fault_21 : decode (sk_cc m_M_fault) 21 = .ok (.aload_n 0, 1) := by decide +kernel
theorem d_M_fault_22 : decode (sk_cc m_M_fault) 22 = .ok (.getfield 78, 3) := by decide +kernel
theorem d_M_fault_25 : decode (sk_cc m_M_fault) 25 = .ok (.if_icmp .ge 38, 3) := by decide +kernel
theorem d_M_fault_28 : decode (sk_cc m_M_fault) 28 = .ok (.aload_n 0, 1) := by decide +kernel
theorem d_M_fault_29 : decode (sk_cc m_M_fault) 29 = .ok (.getfield 38, 3) := by decide +kernel
theorem d_M_fault_32 : decode (sk_cc m_M_fault) 32 = .ok (.iload 4, 2) := by decide +kernel
theorem d_M_fault_34 : decode (sk_cc m_M_fault) 34 = .ok (.iaload, 1) := by decide +kernel
theorem d_M_fault_35 : decode (sk_cc m_M_fault) 35 = .ok (.iload_n 1, 1) := by decide +kernel
theorem d_M_fault_36 : decode (sk_cc m_M_fault) 36 = .ok (.if_icmp .ne 21, 3) := by decide +kernel
theorem d_M_fault_39 : decode (sk_cc m_M_fault) 39 = .ok (.aload_n 0, 1) := by decide +kernel
theorem d_M_fault_40 : decode (sk_cc m_M_fault) 40 = .ok (.getfield 41, 3) := by decide +kernel
theorem d_M_fault_43 : decode (sk_cc m_M_fault) 43 = .ok (.iload 4, 2) := by decide +kernel
theorem d_M_fault_45 : decode (sk_cc m_M_fault) 45 = .ok (.iaload, 1) := by decide +kernel
theorem d_M_fault_46 : decode (sk_cc m_M_fault) 46 = .ok (.iload_n 2, 1) := by decide +kernel
theorem d_M_fault_47 : decode (sk_cc m_M_fault) 47 = .ok (.if_icmp .ne 10, 3) := by decide +kernel
theorem d_M_fault_50 : decode (sk_cc m_M_fault) 50 = .ok (.iconst 2, 1) := by decide +kernel
theorem d_M_fault_51 : decode (sk_cc m_M_fault) 51 = .ok (.iload 4, 2) := by decide +kernel
theorem d_M_fault_53 : decode (sk_cc m_M_fault) 53 = .ok (.imul, 1) := by decide +kernel
theorem d_M_fault_54 : decode (sk_cc m_M_fault) 54 = .ok (.iload_n 3, 1) := by decide +kernel
theorem d_M_fault_55 : decode (sk_cc m_M_fault) 55 = .ok (.iadd, 1) := by decide +kernel
theorem d_M_fault_56 : decode (sk_cc m_M_fault) 56 = .ok (.ireturn, 1) := by decide +kernel
theorem d_M_fault_57 : decode (sk_cc m_M_fault) 57 = .ok (.iinc 4 1, 3) := by decide +kernel
theorem d_M_fault_60 : decode (sk_cc m_M_fault) 60 = .ok (.goto (-41), 3) := by decide +kernel
theorem d_M_fault_63 : decode (sk_cc m_M_fault) 63 = .ok (.iconst (-1), 1) := by decide +kernel
theorem d_M_fault_64 : decode (sk_cc m_M_fault) 64 = .ok (.ireturn, 1) := by decide +kernel
theorem d_M_faultAt_0 : decode (sk_cc m_M_faultAt) 0 = .ok (.aload_n 0, 1) := by decide +kernel
theorem d_M_faultAt_1 : decode (sk_cc m_M_faultAt) 1 = .ok (.aload_n 0, 1) := by decide +kernel
theorem d_M_faultAt_2 : decode (sk_cc m_M_faultAt) 2 = .ok (.iload_n 1, 1) := by decide +kernel
theorem d_M_faultAt_3 : decode (sk_cc m_M_faultAt) 3 = .ok (.invokevirtual 129, 3) := by decide +kernel
theorem d_M_faultAt_6 : decode (sk_cc m_M_faultAt) 6 = .ok (.ifCond .eq 7, 3) := by decide +kernel
theorem d_M_faultAt_9 : decode (sk_cc m_M_faultAt) 9 = .ok (.iconst 1, 1) := by decide +kernel
theorem d_M_faultAt_10 : decode (sk_cc m_M_faultAt) 10 = .ok (.goto 17, 3) := by decide +kernel
theorem d_M_faultAt_13 : decode (sk_cc m_M_faultAt) 13 = .ok (.iload_n 2, 1) := by decide +kernel
theorem d_M_faultAt_14 : decode (sk_cc m_M_faultAt) 14 = .ok (.ifCond .lt 8, 3) := by decide +kernel
theorem d_M_faultAt_17 : decode (sk_cc m_M_faultAt) 17 = .ok (.iload_n 2, 1) := by decide +kernel
theorem d_M_faultAt_18 : decode (sk_cc m_M_faultAt) 18 = .ok (.iconst 2, 1) := by decide +kernel
theorem d_M_faultAt_19 : decode (sk_cc m_M_faultAt) 19 = .ok (.if_icmp .le 7, 3) := by decide +kernel
theorem d_M_faultAt_22 : decode (sk_cc m_M_faultAt) 22 = .ok (.iconst 2, 1) := by decide +kernel
theorem d_M_faultAt_23 : decode (sk_cc m_M_faultAt) 23 = .ok (.goto 4, 3) := by decide +kernel
theorem d_M_faultAt_26 : decode (sk_cc m_M_faultAt) 26 = .ok (.iconst 0, 1) := by decide +kernel
theorem d_M_faultAt_27 : decode (sk_cc m_M_faultAt) 27 = .ok (.putfield 68, 3) := by decide +kernel
theorem d_M_faultAt_30 : decode (sk_cc m_M_faultAt) 30 = .ok (.aload_n 0, 1) := by decide +kernel
theorem d_M_faultAt_31 : decode (sk_cc m_M_faultAt) 31 = .ok (.getfield 68, 3) := by decide +kernel
theorem d_M_faultAt_34 : decode (sk_cc m_M_faultAt) 34 = .ok (.ifCond .le 5, 3) := by decide +kernel
theorem d_M_faultAt_37 : decode (sk_cc m_M_faultAt) 37 = .ok (.iconst 0, 1) := by decide +kernel
theorem d_M_faultAt_38 : decode (sk_cc m_M_faultAt) 38 = .ok (.ireturn, 1) := by decide +kernel
theorem d_M_faultAt_39 : decode (sk_cc m_M_faultAt) 39 = .ok (.iload_n 2, 1) := by decide +kernel
theorem d_M_faultAt_40 : decode (sk_cc m_M_faultAt) 40 = .ok (.ifCond .ne 14, 3) := by decide +kernel
theorem d_M_faultAt_43 : decode (sk_cc m_M_faultAt) 43 = .ok (.aload_n 0, 1) := by decide +kernel
theorem d_M_faultAt_44 : decode (sk_cc m_M_faultAt) 44 = .ok (.getfield 38, 3) := by decide +kernel
theorem d_M_faultAt_47 : decode (sk_cc m_M_faultAt) 47 = .ok (.iload_n 1, 1) := by decide +kernel
theorem d_M_faultAt_48 : decode (sk_cc m_M_faultAt) 48 = .ok (.iconst 2, 1) := by decide +kernel
theorem d_M_faultAt_49 : decode (sk_cc m_M_faultAt) 49 = .ok (.idiv, 1) := by decide +kernel
theorem d_M_faultAt_50 : decode (sk_cc m_M_faultAt) 50 = .ok (.iaload, 1) := by decide +kernel
theorem d_M_faultAt_51 : decode (sk_cc m_M_faultAt) 51 = .ok (.goto 22, 3) := by decide +kernel
theorem d_M_faultAt_54 : decode (sk_cc m_M_faultAt) 54 = .ok (.iload_n 2, 1) := by decide +kernel
theorem d_M_faultAt_55 : decode (sk_cc m_M_faultAt) 55 = .ok (.iconst 1, 1) := by decide +kernel
theorem d_M_faultAt_56 : decode (sk_cc m_M_faultAt) 56 = .ok (.if_icmp .ne 14, 3) := by decide +kernel
theorem d_M_faultAt_59 : decode (sk_cc m_M_faultAt) 59 = .ok (.aload_n 0, 1) := by decide +kernel
theorem d_M_faultAt_60 : decode (sk_cc m_M_faultAt) 60 = .ok (.getfield 41, 3) := by decide +kernel
theorem d_M_faultAt_63 : decode (sk_cc m_M_faultAt) 63 = .ok (.iload_n 1, 1) := by decide +kernel
theorem d_M_faultAt_64 : decode (sk_cc m_M_faultAt) 64 = .ok (.iconst 2, 1) := by decide +kernel
theorem d_M_faultAt_65 : decode (sk_cc m_M_faultAt) 65 = .ok (.idiv, 1) := by decide +kernel
theorem d_M_faultAt_66 : decode (sk_cc m_M_faultAt) 66 = .ok (.iaload, 1) := by decide +kernel
theorem d_M_faultAt_67 : decode (sk_cc m_M_faultAt) 67 = .ok (.goto 6, 3) := by decide +kernel
theorem d_M_faultAt_70 : decode (sk_cc m_M_faultAt) 70 = .ok (.iload_n 1, 1) := by decide +kernel
theorem d_M_faultAt_71 : decode (sk_cc m_M_faultAt) 71 = .ok (.iconst 2, 1) := by decide +kernel
theorem d_M_faultAt_72 : decode (sk_cc m_M_faultAt) 72 = .ok (.irem, 1) := by decide +kernel
theorem d_M_faultAt_73 : decode (sk_cc m_M_faultAt) 73 = .ok (.ireturn, 1) := by decide +kernel
theorem d_M_least_0 : decode (sk_cc m_M_least) 0 = .ok (.aload_n 0, 1) := by decide +kernel
theorem d_M_least_1 : decode (sk_cc m_M_least) 1 = .ok (.aload_n 0, 1) := by decide +kernel
theorem d_M_least_2 : decode (sk_cc m_M_least) 2 = .ok (.iload_n 1, 1) := by decide +kernel
theorem d_M_least_3 : decode (sk_cc m_M_least) 3 = .ok (.invokevirtual 129, 3) := by decide +kernel
theorem d_M_least_6 : decode (sk_cc m_M_least) 6 = .ok (.ifCond .eq 7, 3) := by decide +kernel
theorem d_M_least_9 : decode (sk_cc m_M_least) 9 = .ok (.iconst 1, 1) := by decide +kernel
theorem d_M_least_10 : decode (sk_cc m_M_least) 10 = .ok (.goto 4, 3) := by decide +kernel
theorem d_M_least_13 : decode (sk_cc m_M_least) 13 = .ok (.iconst 0, 1) := by decide +kernel
theorem d_M_least_14 : decode (sk_cc m_M_least) 14 = .ok (.putfield 68, 3) := by decide +kernel
theorem d_M_least_17 : decode (sk_cc m_M_least) 17 = .ok (.aload_n 0, 1) := by decide +kernel
theorem d_M_least_18 : decode (sk_cc m_M_least) 18 = .ok (.getfield 68, 3) := by decide +kernel
theorem d_M_least_21 : decode (sk_cc m_M_least) 21 = .ok (.ifCond .le 5, 3) := by decide +kernel
theorem d_M_least_24 : decode (sk_cc m_M_least) 24 = .ok (.iconst 0, 1) := by decide +kernel
theorem d_M_least_25 : decode (sk_cc m_M_least) 25 = .ok (.ireturn, 1) := by decide +kernel
theorem d_M_least_26 : decode (sk_cc m_M_least) 26 = .ok (.aload_n 0, 1) := by decide +kernel
theorem d_M_least_27 : decode (sk_cc m_M_least) 27 = .ok (.invokevirtual 119, 3) := by decide +kernel
theorem d_M_least_30 : decode (sk_cc m_M_least) 30 = .ok (.aload_n 0, 1) := by decide +kernel
theorem d_M_least_31 : decode (sk_cc m_M_least) 31 = .ok (.iload_n 1, 1) := by decide +kernel
theorem d_M_least_32 : decode (sk_cc m_M_least) 32 = .ok (.invokevirtual 122, 3) := by decide +kernel
theorem d_M_least_35 : decode (sk_cc m_M_least) 35 = .ok (.ireturn, 1) := by decide +kernel
theorem d_M_showing_0 : decode (sk_cc m_M_showing) 0 = .ok (.aload_n 0, 1) := by decide +kernel
theorem d_M_showing_1 : decode (sk_cc m_M_showing) 1 = .ok (.aload_n 0, 1) := by decide +kernel
theorem d_M_showing_2 : decode (sk_cc m_M_showing) 2 = .ok (.iload_n 1, 1) := by decide +kernel
theorem d_M_showing_3 : decode (sk_cc m_M_showing) 3 = .ok (.invokevirtual 129, 3) := by decide +kernel
theorem d_M_showing_6 : decode (sk_cc m_M_showing) 6 = .ok (.ifCond .eq 7, 3) := by decide +kernel
theorem d_M_showing_9 : decode (sk_cc m_M_showing) 9 = .ok (.iconst 1, 1) := by decide +kernel
theorem d_M_showing_10 : decode (sk_cc m_M_showing) 10 = .ok (.goto 4, 3) := by decide +kernel
theorem d_M_showing_13 : decode (sk_cc m_M_showing) 13 = .ok (.iconst 0, 1) := by decide +kernel
theorem d_M_showing_14 : decode (sk_cc m_M_showing) 14 = .ok (.putfield 68, 3) := by decide +kernel
theorem d_M_showing_17 : decode (sk_cc m_M_showing) 17 = .ok (.aload_n 0, 1) := by decide +kernel
theorem d_M_showing_18 : decode (sk_cc m_M_showing) 18 = .ok (.getfield 68, 3) := by decide +kernel
theorem d_M_showing_21 : decode (sk_cc m_M_showing) 21 = .ok (.ifCond .le 5, 3) := by decide +kernel
theorem d_M_showing_24 : decode (sk_cc m_M_showing) 24 = .ok (.lconst 0, 1) := by decide +kernel
theorem d_M_showing_25 : decode (sk_cc m_M_showing) 25 = .ok (.lreturn, 1) := by decide +kernel
theorem d_M_showing_26 : decode (sk_cc m_M_showing) 26 = .ok (.aload_n 0, 1) := by decide +kernel
theorem d_M_showing_27 : decode (sk_cc m_M_showing) 27 = .ok (.invokevirtual 119, 3) := by decide +kernel
theorem d_M_showing_30 : decode (sk_cc m_M_showing) 30 = .ok (.lconst 0, 1) := by decide +kernel
theorem d_M_showing_31 : decode (sk_cc m_M_showing) 31 = .ok (.lstore_n 2, 1) := by decide +kernel
theorem d_M_showing_32 : decode (sk_cc m_M_showing) 32 = .ok (.iconst 0, 1) := by decide +kernel
theorem d_M_showing_33 : decode (sk_cc m_M_showing) 33 = .ok (.istore 4, 2) := by decide +kernel
theorem d_M_showing_35 : decode (sk_cc m_M_showing) 35 = .ok (.iload 4, 2) := by decide +kernel
theorem d_M_showing_37 : decode (sk_cc m_M_showing) 37 = .ok (.aload_n 0, 1) := by decide +kernel
theorem d_M_showing_38 : decode (sk_cc m_M_showing) 38 = .ok (.invokevirtual 108, 3) := by decide +kernel
theorem d_M_showing_41 : decode (sk_cc m_M_showing) 41 = .ok (.if_icmp .ge 42, 3) := by decide +kernel
theorem d_M_showing_44 : decode (sk_cc m_M_showing) 44 = .ok (.aload_n 0, 1) := by decide +kernel
theorem d_M_showing_45 : decode (sk_cc m_M_showing) 45 = .ok (.getfield 50, 3) := by decide +kernel
theorem d_M_showing_48 : decode (sk_cc m_M_showing) 48 = .ok (.bipush 64, 2) := by decide +kernel
theorem d_M_showing_50 : decode (sk_cc m_M_showing) 50 = .ok (.iload_n 1, 1) := by decide +kernel
theorem d_M_showing_51 : decode (sk_cc m_M_showing) 51 = .ok (.imul, 1) := by decide +kernel
theorem d_M_showing_52 : decode (sk_cc m_M_showing) 52 = .ok (.iload 4, 2) := by decide +kernel
theorem d_M_showing_54 : decode (sk_cc m_M_showing) 54 = .ok (.iadd, 1) := by decide +kernel
theorem d_M_showing_55 : decode (sk_cc m_M_showing) 55 = .ok (.iaload, 1) := by decide +kernel
theorem d_M_showing_56 : decode (sk_cc m_M_showing) 56 = .ok (.aload_n 0, 1) := by decide +kernel
theorem d_M_showing_57 : decode (sk_cc m_M_showing) 57 = .ok (.getfield 53, 3) := by decide +kernel
theorem d_M_showing_60 : decode (sk_cc m_M_showing) 60 = .ok (.iload 4, 2) := by decide +kernel
theorem d_M_showing_62 : decode (sk_cc m_M_showing) 62 = .ok (.iaload, 1) := by decide +kernel
theorem d_M_showing_63 : decode (sk_cc m_M_showing) 63 = .ok (.if_icmp .eq 12, 3) := by decide +kernel
theorem d_M_showing_66 : decode (sk_cc m_M_showing) 66 = .ok (.lload_n 2, 1) := by decide +kernel
theorem d_M_showing_67 : decode (sk_cc m_M_showing) 67 = .ok (.lconst 1, 1) := by decide +kernel
theorem d_M_showing_68 : decode (sk_cc m_M_showing) 68 = .ok (.iload 4, 2) := by decide +kernel
theorem d_M_showing_70 : decode (sk_cc m_M_showing) 70 = .ok (.lshl, 1) := by decide +kernel
theorem d_M_showing_71 : decode (sk_cc m_M_showing) 71 = .ok (.lor, 1) := by decide +kernel
theorem d_M_showing_72 : decode (sk_cc m_M_showing) 72 = .ok (.goto 4, 3) := by decide +kernel
theorem d_M_showing_75 : decode (sk_cc m_M_showing) 75 = .ok (.lload_n 2, 1) := by decide +kernel
theorem d_M_showing_76 : decode (sk_cc m_M_showing) 76 = .ok (.lstore_n 2, 1) := by decide +kernel
theorem d_M_showing_77 : decode (sk_cc m_M_showing) 77 = .ok (.iinc 4 1, 3) := by decide +kernel
theorem d_M_showing_80 : decode (sk_cc m_M_showing) 80 = .ok (.goto (-45), 3) := by decide +kernel
theorem d_M_showing_83 : decode (sk_cc m_M_showing) 83 = .ok (.lload_n 2, 1) := by decide +kernel
theorem d_M_showing_84 : decode (sk_cc m_M_showing) 84 = .ok (.lreturn, 1) := by decide +kernel
theorem d_M_alike_0 : decode (sk_cc m_M_alike) 0 = .ok (.aload_n 0, 1) := by decide +kernel
theorem d_M_alike_1 : decode (sk_cc m_M_alike) 1 = .ok (.aload_n 0, 1) := by decide +kernel
theorem d_M_alike_2 : decode (sk_cc m_M_alike) 2 = .ok (.iload_n 1, 1) := by decide +kernel
theorem d_M_alike_3 : decode (sk_cc m_M_alike) 3 = .ok (.invokevirtual 129, 3) := by decide +kernel
theorem d_M_alike_6 : decode (sk_cc m_M_alike) 6 = .ok (.ifCond .eq 7, 3) := by decide +kernel
theorem d_M_alike_9 : decode (sk_cc m_M_alike) 9 = .ok (.iconst 1, 1) := by decide +kernel
theorem d_M_alike_10 : decode (sk_cc m_M_alike) 10 = .ok (.goto 4, 3) := by decide +kernel
theorem d_M_alike_13 : decode (sk_cc m_M_alike) 13 = .ok (.iconst 0, 1) := by decide +kernel
theorem d_M_alike_14 : decode (sk_cc m_M_alike) 14 = .ok (.putfield 68, 3) := by decide +kernel
theorem d_M_alike_17 : decode (sk_cc m_M_alike) 17 = .ok (.aload_n 0, 1) := by decide +kernel
theorem d_M_alike_18 : decode (sk_cc m_M_alike) 18 = .ok (.getfield 68, 3) := by decide +kernel
theorem d_M_alike_21 : decode (sk_cc m_M_alike) 21 = .ok (.ifCond .le 5, 3) := by decide +kernel
theorem d_M_alike_24 : decode (sk_cc m_M_alike) 24 = .ok (.iconst 0, 1) := by decide +kernel
theorem d_M_alike_25 : decode (sk_cc m_M_alike) 25 = .ok (.ireturn, 1) := by decide +kernel
theorem d_M_alike_26 : decode (sk_cc m_M_alike) 26 = .ok (.aload_n 0, 1) := by decide +kernel
theorem d_M_alike_27 : decode (sk_cc m_M_alike) 27 = .ok (.invokevirtual 119, 3) := by decide +kernel
theorem d_M_alike_30 : decode (sk_cc m_M_alike) 30 = .ok (.aload_n 0, 1) := by decide +kernel
theorem d_M_alike_31 : decode (sk_cc m_M_alike) 31 = .ok (.iload_n 1, 1) := by decide +kernel
theorem d_M_alike_32 : decode (sk_cc m_M_alike) 32 = .ok (.invokevirtual 126, 3) := by decide +kernel
theorem d_M_alike_35 : decode (sk_cc m_M_alike) 35 = .ok (.ireturn, 1) := by decide +kernel
theorem d_M_ternary_0 : decode (sk_cc m_M_ternary) 0 = .ok (.aload_n 0, 1) := by decide +kernel
theorem d_M_ternary_1 : decode (sk_cc m_M_ternary) 1 = .ok (.iload_n 3, 1) := by decide +kernel
theorem d_M_ternary_2 : decode (sk_cc m_M_ternary) 2 = .ok (.invokevirtual 100, 3) := by decide +kernel
theorem d_M_ternary_5 : decode (sk_cc m_M_ternary) 5 = .ok (.ifCond .ne 18, 3) := by decide +kernel
theorem d_M_ternary_8 : decode (sk_cc m_M_ternary) 8 = .ok (.iload 4, 2) := by decide +kernel
theorem d_M_ternary_10 : decode (sk_cc m_M_ternary) 10 = .ok (.iconst (-1), 1) := by decide +kernel
theorem d_M_ternary_11 : decode (sk_cc m_M_ternary) 11 = .ok (.if_icmp .eq 16, 3) := by decide +kernel
theorem d_M_ternary_14 : decode (sk_cc m_M_ternary) 14 = .ok (.aload_n 0, 1) := by decide +kernel
theorem d_M_ternary_15 : decode (sk_cc m_M_ternary) 15 = .ok (.iload 4, 2) := by decide +kernel
theorem d_M_ternary_17 : decode (sk_cc m_M_ternary) 17 = .ok (.invokevirtual 129, 3) := by decide +kernel
theorem d_M_ternary_20 : decode (sk_cc m_M_ternary) 20 = .ok (.ifCond .eq 7, 3) := by decide +kernel
theorem d_M_ternary_23 : decode (sk_cc m_M_ternary) 23 = .ok (.iconst 1, 1) := by decide +kernel
theorem d_M_ternary_24 : decode (sk_cc m_M_ternary) 24 = .ok (.goto 4, 3) := by decide +kernel
theorem d_M_ternary_27 : decode (sk_cc m_M_ternary) 27 = .ok (.iconst 0, 1) := by decide +kernel
theorem d_M_ternary_28 : decode (sk_cc m_M_ternary) 28 = .ok (.istore 5, 2) := by decide +kernel
theorem d_M_ternary_30 : decode (sk_cc m_M_ternary) 30 = .ok (.iload_n 1, 1) := by decide +kernel
theorem d_M_ternary_31 : decode (sk_cc m_M_ternary) 31 = .ok (.ifCond .lt 29, 3) := by decide +kernel
theorem d_M_ternary_34 : decode (sk_cc m_M_ternary) 34 = .ok (.iload_n 1, 1) := by decide +kernel
theorem d_M_ternary_35 : decode (sk_cc m_M_ternary) 35 = .ok (.aload_n 0, 1) := by decide +kernel
theorem d_M_ternary_36 : decode (sk_cc m_M_ternary) 36 = .ok (.invokevirtual 108, 3) := by decide +kernel
theorem d_M_ternary_39 : decode (sk_cc m_M_ternary) 39 = .ok (.if_icmp .ge 21, 3) := by decide +kernel
theorem d_M_ternary_42 : decode (sk_cc m_M_ternary) 42 = .ok (.iload_n 2, 1) := by decide +kernel
theorem d_M_ternary_43 : decode (sk_cc m_M_ternary) 43 = .ok (.ifCond .lt 17, 3) := by decide +kernel
theorem d_M_ternary_46 : decode (sk_cc m_M_ternary) 46 = .ok (.iload_n 2, 1) := by decide +kernel
theorem d_M_ternary_47 : decode (sk_cc m_M_ternary) 47 = .ok (.aload_n 0, 1) := by decide +kernel
theorem d_M_ternary_48 : decode (sk_cc m_M_ternary) 48 = .ok (.invokevirtual 108, 3) := by decide +kernel
theorem d_M_ternary_51 : decode (sk_cc m_M_ternary) 51 = .ok (.if_icmp .ge 9, 3) := by decide +kernel
theorem d_M_ternary_54 : decode (sk_cc m_M_ternary) 54 = .ok (.iload_n 1, 1) := by decide +kernel
theorem d_M_ternary_55 : decode (sk_cc m_M_ternary) 55 = .ok (.iload_n 2, 1) := by decide +kernel
theorem d_M_ternary_56 : decode (sk_cc m_M_ternary) 56 = .ok (.iand, 1) := by decide +kernel
theorem d_M_ternary_57 : decode (sk_cc m_M_ternary) 57 = .ok (.ifCond .eq 7, 3) := by decide +kernel
theorem d_M_ternary_60 : decode (sk_cc m_M_ternary) 60 = .ok (.iconst 1, 1) := by decide +kernel
theorem d_M_ternary_61 : decode (sk_cc m_M_ternary) 61 = .ok (.goto 4, 3) := by decide +kernel
theorem d_M_ternary_64 : decode (sk_cc m_M_ternary) 64 = .ok (.iconst 0, 1) := by decide +kernel
theorem d_M_ternary_65 : decode (sk_cc m_M_ternary) 65 = .ok (.istore 6, 2) := by decide +kernel
theorem d_M_ternary_67 : decode (sk_cc m_M_ternary) 67 = .ok (.aload_n 0, 1) := by decide +kernel
theorem d_M_ternary_68 : decode (sk_cc m_M_ternary) 68 = .ok (.iload 5, 2) := by decide +kernel
theorem d_M_ternary_70 : decode (sk_cc m_M_ternary) 70 = .ok (.ifCond .eq 7, 3) := by decide +kernel
theorem d_M_ternary_73 : decode (sk_cc m_M_ternary) 73 = .ok (.iconst 1, 1) := by decide +kernel
theorem d_M_ternary_74 : decode (sk_cc m_M_ternary) 74 = .ok (.goto 13, 3) := by decide +kernel
theorem d_M_ternary_77 : decode (sk_cc m_M_ternary) 77 = .ok (.iload 6, 2) := by decide +kernel
theorem d_M_ternary_79 : decode (sk_cc m_M_ternary) 79 = .ok (.ifCond .eq 7, 3) := by decide +kernel
theorem d_M_ternary_82 : decode (sk_cc m_M_ternary) 82 = .ok (.iconst 2, 1) := by decide +kernel
theorem d_M_ternary_83 : decode (sk_cc m_M_ternary) 83 = .ok (.goto 4, 3) := by decide +kernel
theorem d_M_ternary_86 : decode (sk_cc m_M_ternary) 86 = .ok (.iconst 0, 1) := by decide +kernel
theorem d_M_ternary_87 : decode (sk_cc m_M_ternary) 87 = .ok (.putfield 68, 3) := by decide +kernel
theorem d_M_ternary_90 : decode (sk_cc m_M_ternary) 90 = .ok (.aload_n 0, 1) := by decide +kernel
theorem d_M_ternary_91 : decode (sk_cc m_M_ternary) 91 = .ok (.getfield 68, 3) := by decide +kernel
theorem d_M_ternary_94 : decode (sk_cc m_M_ternary) 94 = .ok (.ifCond .le 5, 3) := by decide +kernel
theorem d_M_ternary_97 : decode (sk_cc m_M_ternary) 97 = .ok (.iconst 0, 1) := by decide +kernel
theorem d_M_ternary_98 : decode (sk_cc m_M_ternary) 98 = .ok (.ireturn, 1) := by decide +kernel
theorem d_M_ternary_99 : decode (sk_cc m_M_ternary) 99 = .ok (.aload_n 0, 1) := by decide +kernel
theorem d_M_ternary_100 : decode (sk_cc m_M_ternary) 100 = .ok (.iload_n 1, 1) := by decide +kernel
theorem d_M_ternary_101 : decode (sk_cc m_M_ternary) 101 = .ok (.iload_n 2, 1) := by decide +kernel
theorem d_M_ternary_102 : decode (sk_cc m_M_ternary) 102 = .ok (.iload 4, 2) := by decide +kernel
theorem d_M_ternary_104 : decode (sk_cc m_M_ternary) 104 = .ok (.invokevirtual 112, 3) := by decide +kernel
theorem d_M_ternary_107 : decode (sk_cc m_M_ternary) 107 = .ok (.aload_n 0, 1) := by decide +kernel
theorem d_M_ternary_108 : decode (sk_cc m_M_ternary) 108 = .ok (.getfield 44, 3) := by decide +kernel
theorem d_M_ternary_111 : decode (sk_cc m_M_ternary) 111 = .ok (.iload_n 3, 1) := by decide +kernel
theorem d_M_ternary_112 : decode (sk_cc m_M_ternary) 112 = .ok (.iaload, 1) := by decide +kernel
theorem d_M_ternary_113 : decode (sk_cc m_M_ternary) 113 = .ok (.ireturn, 1) := by decide +kernel
theorem d_M_cube_0 : decode (sk_cc m_M_cube) 0 = .ok (.aload_n 0, 1) := by decide +kernel
theorem d_M_cube_1 : decode (sk_cc m_M_cube) 1 = .ok (.aload_n 0, 1) := by decide +kernel
theorem d_M_cube_2 : decode (sk_cc m_M_cube) 2 = .ok (.iload_n 1, 1) := by decide +kernel
theorem d_M_cube_3 : decode (sk_cc m_M_cube) 3 = .ok (.invokevirtual 129, 3) := by decide +kernel
theorem d_M_cube_6 : decode (sk_cc m_M_cube) 6 = .ok (.ifCond .eq 7, 3) := by decide +kernel
theorem d_M_cube_9 : decode (sk_cc m_M_cube) 9 = .ok (.iconst 1, 1) := by decide +kernel
theorem d_M_cube_10 : decode (sk_cc m_M_cube) 10 = .ok (.goto 4, 3) := by decide +kernel
theorem d_M_cube_13 : decode (sk_cc m_M_cube) 13 = .ok (.iconst 0, 1) := by decide +kernel
theorem d_M_cube_14 : decode (sk_cc m_M_cube) 14 = .ok (.putfield 68, 3) := by decide +kernel
theorem d_M_cube_17 : decode (sk_cc m_M_cube) 17 = .ok (.aload_n 0, 1) := by decide +kernel
theorem d_M_cube_18 : decode (sk_cc m_M_cube) 18 = .ok (.getfield 68, 3) := by decide +kernel
theorem d_M_cube_21 : decode (sk_cc m_M_cube) 21 = .ok (.ifCond .le 5, 3) := by decide +kernel
theorem d_M_cube_24 : decode (sk_cc m_M_cube) 24 = .ok (.iconst 0, 1) := by decide +kernel
theorem d_M_cube_25 : decode (sk_cc m_M_cube) 25 = .ok (.ireturn, 1) := by decide +kernel
theorem d_M_cube_26 : decode (sk_cc m_M_cube) 26 = .ok (.aload_n 0, 1) := by decide +kernel
theorem d_M_cube_27 : decode (sk_cc m_M_cube) 27 = .ok (.invokevirtual 119, 3) := by decide +kernel
theorem d_M_cube_30 : decode (sk_cc m_M_cube) 30 = .ok (.aload_n 0, 1) := by decide +kernel
theorem d_M_cube_31 : decode (sk_cc m_M_cube) 31 = .ok (.iload_n 1, 1) := by decide +kernel
theorem d_M_cube_32 : decode (sk_cc m_M_cube) 32 = .ok (.invokevirtual 122, 3) := by decide +kernel
theorem d_M_cube_35 : decode (sk_cc m_M_cube) 35 = .ok (.istore_n 2, 1) := by decide +kernel
theorem d_M_cube_36 : decode (sk_cc m_M_cube) 36 = .ok (.iload_n 2, 1) := by decide +kernel
theorem d_M_cube_37 : decode (sk_cc m_M_cube) 37 = .ok (.ifCond .ge 5, 3) := by decide +kernel
theorem d_M_cube_40 : decode (sk_cc m_M_cube) 40 = .ok (.iconst (-1), 1) := by decide +kernel
theorem d_M_cube_41 : decode (sk_cc m_M_cube) 41 = .ok (.ireturn, 1) := by decide +kernel
theorem d_M_cube_42 : decode (sk_cc m_M_cube) 42 = .ok (.iconst 0, 1) := by decide +kernel
theorem d_M_cube_43 : decode (sk_cc m_M_cube) 43 = .ok (.istore_n 3, 1) := by decide +kernel
theorem d_M_cube_44 : decode (sk_cc m_M_cube) 44 = .ok (.iconst 0, 1) := by decide +kernel
theorem d_M_cube_45 : decode (sk_cc m_M_cube) 45 = .ok (.istore 4, 2) := by decide +kernel
theorem d_M_cube_47 : decode (sk_cc m_M_cube) 47 = .ok (.iload 4, 2) := by decide +kernel
theorem d_M_cube_49 : decode (sk_cc m_M_cube) 49 = .ok (.aload_n 0, 1) := by decide +kernel
theorem d_M_cube_50 : decode (sk_cc m_M_cube) 50 = .ok (.getfield 75, 3) := by decide +kernel
theorem d_M_cube_53 : decode (sk_cc m_M_cube) 53 = .ok (.if_icmp .ge 45, 3) := by decide +kernel
theorem d_M_cube_56 : decode (sk_cc m_M_cube) 56 = .ok (.iconst 1, 1) := by decide +kernel
theorem d_M_cube_57 : decode (sk_cc m_M_cube) 57 = .ok (.iload 4, 2) := by decide +kernel
theorem d_M_cube_59 : decode (sk_cc m_M_cube) 59 = .ok (.ishl, 1) := by decide +kernel
theorem d_M_cube_60 : decode (sk_cc m_M_cube) 60 = .ok (.istore 5, 2) := by decide +kernel
theorem d_M_cube_62 : decode (sk_cc m_M_cube) 62 = .ok (.aload_n 0, 1) := by decide +kernel
theorem d_M_cube_63 : decode (sk_cc m_M_cube) 63 = .ok (.iload_n 3, 1) := by decide +kernel
theorem d_M_cube_64 : decode (sk_cc m_M_cube) 64 = .ok (.iload 5, 2) := by decide +kernel
theorem d_M_cube_66 : decode (sk_cc m_M_cube) 66 = .ok (.ior, 1) := by decide +kernel
theorem d_M_cube_67 : decode (sk_cc m_M_cube) 67 = .ok (.iload_n 2, 1) := by decide +kernel
theorem d_M_cube_68 : decode (sk_cc m_M_cube) 68 = .ok (.iload 5, 2) := by decide +kernel
theorem d_M_cube_70 : decode (sk_cc m_M_cube) 70 = .ok (.iconst (-1), 1) := by decide +kernel
theorem d_M_cube_71 : decode (sk_cc m_M_cube) 71 = .ok (.ixor, 1) := by decide +kernel
theorem d_M_cube_72 : decode (sk_cc m_M_cube) 72 = .ok (.iand, 1) := by decide +kernel
theorem d_M_cube_73 : decode (sk_cc m_M_cube) 73 = .ok (.iload_n 1, 1) := by decide +kernel
theorem d_M_cube_74 : decode (sk_cc m_M_cube) 74 = .ok (.invokevirtual 132, 3) := by decide +kernel
theorem d_M_cube_77 : decode (sk_cc m_M_cube) 77 = .ok (.ifCond .eq 15, 3) := by decide +kernel
theorem d_M_cube_80 : decode (sk_cc m_M_cube) 80 = .ok (.iload_n 3, 1) := by decide +kernel
theorem d_M_cube_81 : decode (sk_cc m_M_cube) 81 = .ok (.iload 5, 2) := by decide +kernel
theorem d_M_cube_83 : decode (sk_cc m_M_cube) 83 = .ok (.ior, 1) := by decide +kernel
theorem d_M_cube_84 : decode (sk_cc m_M_cube) 84 = .ok (.istore_n 3, 1) := by decide +kernel
theorem d_M_cube_85 : decode (sk_cc m_M_cube) 85 = .ok (.iload_n 2, 1) := by decide +kernel
theorem d_M_cube_86 : decode (sk_cc m_M_cube) 86 = .ok (.iload 5, 2) := by decide +kernel
theorem d_M_cube_88 : decode (sk_cc m_M_cube) 88 = .ok (.iconst (-1), 1) := by decide +kernel
theorem d_M_cube_89 : decode (sk_cc m_M_cube) 89 = .ok (.ixor, 1) := by decide +kernel
theorem d_M_cube_90 : decode (sk_cc m_M_cube) 90 = .ok (.iand, 1) := by decide +kernel
theorem d_M_cube_91 : decode (sk_cc m_M_cube) 91 = .ok (.istore_n 2, 1) := by decide +kernel
theorem d_M_cube_92 : decode (sk_cc m_M_cube) 92 = .ok (.iinc 4 1, 3) := by decide +kernel
theorem d_M_cube_95 : decode (sk_cc m_M_cube) 95 = .ok (.goto (-48), 3) := by decide +kernel
theorem d_M_cube_98 : decode (sk_cc m_M_cube) 98 = .ok (.bipush 64, 2) := by decide +kernel
theorem d_M_cube_100 : decode (sk_cc m_M_cube) 100 = .ok (.iload_n 3, 1) := by decide +kernel
theorem d_M_cube_101 : decode (sk_cc m_M_cube) 101 = .ok (.imul, 1) := by decide +kernel
theorem d_M_cube_102 : decode (sk_cc m_M_cube) 102 = .ok (.iload_n 2, 1) := by decide +kernel
theorem d_M_cube_103 : decode (sk_cc m_M_cube) 103 = .ok (.iadd, 1) := by decide +kernel
theorem d_M_cube_104 : decode (sk_cc m_M_cube) 104 = .ok (.ireturn, 1) := by decide +kernel
theorem d_M_tells_0 : decode (sk_cc m_M_tells) 0 = .ok (.aload_n 0, 1) := by decide +kernel
theorem d_M_tells_1 : decode (sk_cc m_M_tells) 1 = .ok (.iload_n 1, 1) := by decide +kernel
theorem d_M_tells_2 : decode (sk_cc m_M_tells) 2 = .ok (.iload_n 2, 1) := by decide +kernel
theorem d_M_tells_3 : decode (sk_cc m_M_tells) 3 = .ok (.iconst (-1), 1) := by decide +kernel
theorem d_M_tells_4 : decode (sk_cc m_M_tells) 4 = .ok (.invokevirtual 112, 3) := by decide +kernel
theorem d_M_tells_7 : decode (sk_cc m_M_tells) 7 = .ok (.iconst 0, 1) := by decide +kernel
theorem d_M_tells_8 : decode (sk_cc m_M_tells) 8 = .ok (.istore 4, 2) := by decide +kernel
theorem d_M_tells_10 : decode (sk_cc m_M_tells) 10 = .ok (.iload 4, 2) := by decide +kernel
theorem d_M_tells_12 : decode (sk_cc m_M_tells) 12 = .ok (.aload_n 0, 1) := by decide +kernel
theorem d_M_tells_13 : decode (sk_cc m_M_tells) 13 = .ok (.getfield 91, 3) := by decide +kernel
theorem d_M_tells_16 : decode (sk_cc m_M_tells) 16 = .ok (.if_icmp .ge 28, 3) := by decide +kernel
theorem d_M_tells_19 : decode (sk_cc m_M_tells) 19 = .ok (.aload_n 0, 1) := by decide +kernel
theorem d_M_tells_20 : decode (sk_cc m_M_tells) 20 = .ok (.getfield 47, 3) := by decide +kernel
theorem d_M_tells_23 : decode (sk_cc m_M_tells) 23 = .ok (.iload 4, 2) := by decide +kernel
theorem d_M_tells_25 : decode (sk_cc m_M_tells) 25 = .ok (.aload_n 0, 1) := by decide +kernel
theorem d_M_tells_26 : decode (sk_cc m_M_tells) 26 = .ok (.getfield 44, 3) := by decide +kernel
theorem d_M_tells_29 : decode (sk_cc m_M_tells) 29 = .ok (.aload_n 0, 1) := by decide +kernel
theorem d_M_tells_30 : decode (sk_cc m_M_tells) 30 = .ok (.getfield 35, 3) := by decide +kernel
theorem d_M_tells_33 : decode (sk_cc m_M_tells) 33 = .ok (.iload 4, 2) := by decide +kernel
theorem d_M_tells_35 : decode (sk_cc m_M_tells) 35 = .ok (.iaload, 1) := by decide +kernel
theorem d_M_tells_36 : decode (sk_cc m_M_tells) 36 = .ok (.iaload, 1) := by decide +kernel
theorem d_M_tells_37 : decode (sk_cc m_M_tells) 37 = .ok (.iastore, 1) := by decide +kernel
theorem d_M_tells_38 : decode (sk_cc m_M_tells) 38 = .ok (.iinc 4 1, 3) := by decide +kernel
theorem d_M_tells_41 : decode (sk_cc m_M_tells) 41 = .ok (.goto (-31), 3) := by decide +kernel
theorem d_M_tells_44 : decode (sk_cc m_M_tells) 44 = .ok (.aload_n 0, 1) := by decide +kernel
theorem d_M_tells_45 : decode (sk_cc m_M_tells) 45 = .ok (.iload_n 1, 1) := by decide +kernel
theorem d_M_tells_46 : decode (sk_cc m_M_tells) 46 = .ok (.iload_n 2, 1) := by decide +kernel
theorem d_M_tells_47 : decode (sk_cc m_M_tells) 47 = .ok (.iload_n 3, 1) := by decide +kernel
theorem d_M_tells_48 : decode (sk_cc m_M_tells) 48 = .ok (.invokevirtual 112, 3) := by decide +kernel
theorem d_M_tells_51 : decode (sk_cc m_M_tells) 51 = .ok (.iconst 0, 1) := by decide +kernel
theorem d_M_tells_52 : decode (sk_cc m_M_tells) 52 = .ok (.istore 4, 2) := by decide +kernel
theorem d_M_tells_54 : decode (sk_cc m_M_tells) 54 = .ok (.iconst 0, 1) := by decide +kernel
theorem d_M_tells_55 : decode (sk_cc m_M_tells) 55 = .ok (.istore 5, 2) := by decide +kernel
theorem d_M_tells_57 : decode (sk_cc m_M_tells) 57 = .ok (.iload 5, 2) := by decide +kernel
theorem d_M_tells_59 : decode (sk_cc m_M_tells) 59 = .ok (.aload_n 0, 1) := by decide +kernel
theorem d_M_tells_60 : decode (sk_cc m_M_tells) 60 = .ok (.getfield 91, 3) := by decide +kernel
theorem d_M_tells_63 : decode (sk_cc m_M_tells) 63 = .ok (.if_icmp .ge 55, 3) := by decide +kernel
theorem d_M_tells_66 : decode (sk_cc m_M_tells) 66 = .ok (.aload_n 0, 1) := by decide +kernel
theorem d_M_tells_67 : decode (sk_cc m_M_tells) 67 = .ok (.getfield 44, 3) := by decide +kernel
theorem d_M_tells_70 : decode (sk_cc m_M_tells) 70 = .ok (.aload_n 0, 1) := by decide +kernel
theorem d_M_tells_71 : decode (sk_cc m_M_tells) 71 = .ok (.getfield 35, 3) := by decide +kernel
theorem d_M_tells_74 : decode (sk_cc m_M_tells) 74 = .ok (.iload 5, 2) := by decide +kernel
theorem d_M_tells_76 : decode (sk_cc m_M_tells) 76 = .ok (.iaload, 1) := by decide +kernel
theorem d_M_tells_77 : decode (sk_cc m_M_tells) 77 = .ok (.iaload, 1) := by decide +kernel
theorem d_M_tells_78 : decode (sk_cc m_M_tells) 78 = .ok (.istore 6, 2) := by decide +kernel
theorem d_M_tells_80 : decode (sk_cc m_M_tells) 80 = .ok (.iload 4, 2) := by decide +kernel
theorem d_M_tells_82 : decode (sk_cc m_M_tells) 82 = .ok (.ifCond .ne 23, 3) := by decide +kernel
theorem d_M_tells_85 : decode (sk_cc m_M_tells) 85 = .ok (.iload 6, 2) := by decide +kernel
theorem d_M_tells_87 : decode (sk_cc m_M_tells) 87 = .ok (.iconst 2, 1) := by decide +kernel
theorem d_M_tells_88 : decode (sk_cc m_M_tells) 88 = .ok (.if_icmp .ge 21, 3) := by decide +kernel
theorem d_M_tells_91 : decode (sk_cc m_M_tells) 91 = .ok (.aload_n 0, 1) := by decide +kernel
theorem d_M_tells_92 : decode (sk_cc m_M_tells) 92 = .ok (.getfield 47, 3) := by decide +kernel
theorem d_M_tells_95 : decode (sk_cc m_M_tells) 95 = .ok (.iload 5, 2) := by decide +kernel
theorem d_M_tells_97 : decode (sk_cc m_M_tells) 97 = .ok (.iaload, 1) := by decide +kernel
theorem d_M_tells_98 : decode (sk_cc m_M_tells) 98 = .ok (.iconst 1, 1) := by decide +kernel
theorem d_M_tells_99 : decode (sk_cc m_M_tells) 99 = .ok (.iload 6, 2) := by decide +kernel
theorem d_M_tells_101 : decode (sk_cc m_M_tells) 101 = .ok (.isub, 1) := by decide +kernel
theorem d_M_tells_102 : decode (sk_cc m_M_tells) 102 = .ok (.if_icmp .ne 7, 3) := by decide +kernel
theorem d_M_tells_105 : decode (sk_cc m_M_tells) 105 = .ok (.iconst 1, 1) := by decide +kernel
theorem d_M_tells_106 : decode (sk_cc m_M_tells) 106 = .ok (.goto 4, 3) := by decide +kernel
theorem d_M_tells_109 : decode (sk_cc m_M_tells) 109 = .ok (.iconst 0, 1) := by decide +kernel
theorem d_M_tells_110 : decode (sk_cc m_M_tells) 110 = .ok (.istore 4, 2) := by decide +kernel
theorem d_M_tells_112 : decode (sk_cc m_M_tells) 112 = .ok (.iinc 5 1, 3) := by decide +kernel
theorem d_M_tells_115 : decode (sk_cc m_M_tells) 115 = .ok (.goto (-58), 3) := by decide +kernel
theorem d_M_tells_118 : decode (sk_cc m_M_tells) 118 = .ok (.iload 4, 2) := by decide +kernel
theorem d_M_tells_120 : decode (sk_cc m_M_tells) 120 = .ok (.ireturn, 1) := by decide +kernel
theorem d_M_packed_0 : decode (sk_cc m_M_packed) 0 = .ok (.aload_n 0, 1) := by decide +kernel
theorem d_M_packed_1 : decode (sk_cc m_M_packed) 1 = .ok (.iconst 0, 1) := by decide +kernel
theorem d_M_packed_2 : decode (sk_cc m_M_packed) 2 = .ok (.putfield 68, 3) := by decide +kernel
theorem d_M_packed_5 : decode (sk_cc m_M_packed) 5 = .ok (.aload_n 0, 1) := by decide +kernel
theorem d_M_packed_6 : decode (sk_cc m_M_packed) 6 = .ok (.invokevirtual 143, 3) := by decide +kernel
theorem d_M_packed_9 : decode (sk_cc m_M_packed) 9 = .ok (.iconst 0, 1) := by decide +kernel
theorem d_M_packed_10 : decode (sk_cc m_M_packed) 10 = .ok (.istore_n 2, 1) := by decide +kernel
theorem d_M_packed_11 : decode (sk_cc m_M_packed) 11 = .ok (.iconst 0, 1) := by decide +kernel
theorem d_M_packed_12 : decode (sk_cc m_M_packed) 12 = .ok (.istore_n 3, 1) := by decide +kernel
theorem d_M_packed_13 : decode (sk_cc m_M_packed) 13 = .ok (.iload_n 3, 1) := by decide +kernel
theorem d_M_packed_14 : decode (sk_cc m_M_packed) 14 = .ok (.aload_n 0, 1) := by decide +kernel
theorem d_M_packed_15 : decode (sk_cc m_M_packed) 15 = .ok (.getfield 136, 3) := by decide +kernel
theorem d_M_packed_18 : decode (sk_cc m_M_packed) 18 = .ok (.if_icmp .ge 33, 3) := by decide +kernel
theorem d_M_packed_21 : decode (sk_cc m_M_packed) 21 = .ok (.aload_n 0, 1) := by decide +kernel
theorem d_M_packed_22 : decode (sk_cc m_M_packed) 22 = .ok (.getfield 59, 3) := by decide +kernel
theorem d_M_packed_25 : decode (sk_cc m_M_packed) 25 = .ok (.iload_n 3, 1) := by decide +kernel
theorem d_M_packed_26 : decode (sk_cc m_M_packed) 26 = .ok (.baload, 1) := by decide +kernel
theorem d_M_packed_27 : decode (sk_cc m_M_packed) 27 = .ok (.ifCond .ne 18, 3) := by decide +kernel
theorem d_M_packed_30 : decode (sk_cc m_M_packed) 30 = .ok (.iload_n 2, 1) := by decide +kernel
theorem d_M_packed_31 : decode (sk_cc m_M_packed) 31 = .ok (.iload_n 1, 1) := by decide +kernel
theorem d_M_packed_32 : decode (sk_cc m_M_packed) 32 = .ok (.if_icmp .ne 10, 3) := by decide +kernel
theorem d_M_packed_35 : decode (sk_cc m_M_packed) 35 = .ok (.aload_n 0, 1) := by decide +kernel
theorem d_M_packed_36 : decode (sk_cc m_M_packed) 36 = .ok (.getfield 56, 3) := by decide +kernel
theorem d_M_packed_39 : decode (sk_cc m_M_packed) 39 = .ok (.iload_n 3, 1) := by decide +kernel
theorem d_M_packed_40 : decode (sk_cc m_M_packed) 40 = .ok (.iaload, 1) := by decide +kernel
theorem d_M_packed_41 : decode (sk_cc m_M_packed) 41 = .ok (.ireturn, 1) := by decide +kernel
theorem d_M_packed_42 : decode (sk_cc m_M_packed) 42 = .ok (.iinc 2 1, 3) := by decide +kernel
theorem d_M_packed_45 : decode (sk_cc m_M_packed) 45 = .ok (.iinc 3 1, 3) := by decide +kernel
theorem d_M_packed_48 : decode (sk_cc m_M_packed) 48 = .ok (.goto (-35), 3) := by decide +kernel
theorem d_M_packed_51 : decode (sk_cc m_M_packed) 51 = .ok (.iconst (-1), 1) := by decide +kernel
theorem d_M_packed_52 : decode (sk_cc m_M_packed) 52 = .ok (.ireturn, 1) := by decide +kernel
theorem d_M_pack_0 : decode (sk_cc m_M_pack) 0 = .ok (.aload_n 0, 1) := by decide +kernel
theorem d_M_pack_1 : decode (sk_cc m_M_pack) 1 = .ok (.getfield 85, 3) := by decide +kernel
theorem d_M_pack_4 : decode (sk_cc m_M_pack) 4 = .ok (.ifCond .eq 4, 3) := by decide +kernel
theorem d_M_pack_7 : decode (sk_cc m_M_pack) 7 = .ok (.return_, 1) := by decide +kernel
theorem d_M_pack_8 : decode (sk_cc m_M_pack) 8 = .ok (.aload_n 0, 1) := by decide +kernel
theorem d_M_pack_9 : decode (sk_cc m_M_pack) 9 = .ok (.iconst 1, 1) := by decide +kernel
theorem d_M_pack_10 : decode (sk_cc m_M_pack) 10 = .ok (.putfield 85, 3) := by decide +kernel
theorem d_M_pack_13 : decode (sk_cc m_M_pack) 13 = .ok (.aload_n 0, 1) := by decide +kernel
theorem d_M_pack_14 : decode (sk_cc m_M_pack) 14 = .ok (.invokevirtual 119, 3) := by decide +kernel
theorem d_M_pack_17 : decode (sk_cc m_M_pack) 17 = .ok (.aload_n 0, 1) := by decide +kernel
theorem d_M_pack_18 : decode (sk_cc m_M_pack) 18 = .ok (.iconst 0, 1) := by decide +kernel
theorem d_M_pack_19 : decode (sk_cc m_M_pack) 19 = .ok (.putfield 136, 3) := by decide +kernel
theorem d_M_pack_22 : decode (sk_cc m_M_pack) 22 = .ok (.iconst 0, 1) := by decide +kernel
theorem d_M_pack_23 : decode (sk_cc m_M_pack) 23 = .ok (.istore_n 1, 1) := by decide +kernel
theorem d_M_pack_24 : decode (sk_cc m_M_pack) 24 = .ok (.iload_n 1, 1) := by decide +kernel
theorem d_M_pack_25 : decode (sk_cc m_M_pack) 25 = .ok (.iconst 2, 1) := by decide +kernel
theorem d_M_pack_26 : decode (sk_cc m_M_pack) 26 = .ok (.aload_n 0, 1) := by decide +kernel
theorem d_M_pack_27 : decode (sk_cc m_M_pack) 27 = .ok (.getfield 78, 3) := by decide +kernel
theorem d_M_pack_30 : decode (sk_cc m_M_pack) 30 = .ok (.imul, 1) := by decide +kernel
theorem d_M_pack_31 : decode (sk_cc m_M_pack) 31 = .ok (.if_icmp .ge 58, 3) := by decide +kernel
theorem d_M_pack_34 : decode (sk_cc m_M_pack) 34 = .ok (.aload_n 0, 1) := by decide +kernel
theorem d_M_pack_35 : decode (sk_cc m_M_pack) 35 = .ok (.iload_n 1, 1) := by decide +kernel
theorem d_M_pack_36 : decode (sk_cc m_M_pack) 36 = .ok (.invokevirtual 122, 3) := by decide +kernel
theorem d_M_pack_39 : decode (sk_cc m_M_pack) 39 = .ok (.istore_n 2, 1) := by decide +kernel
theorem d_M_pack_40 : decode (sk_cc m_M_pack) 40 = .ok (.iload_n 2, 1) := by decide +kernel
theorem d_M_pack_41 : decode (sk_cc m_M_pack) 41 = .ok (.ifCond .lt 42, 3) := by decide +kernel
theorem d_M_pack_44 : decode (sk_cc m_M_pack) 44 = .ok (.aload_n 0, 1) := by decide +kernel
theorem d_M_pack_45 : decode (sk_cc m_M_pack) 45 = .ok (.iload_n 1, 1) := by decide +kernel
theorem d_M_pack_46 : decode (sk_cc m_M_pack) 46 = .ok (.iconst (-1), 1) := by decide +kernel
theorem d_M_pack_47 : decode (sk_cc m_M_pack) 47 = .ok (.invokevirtual 139, 3) := by decide +kernel
theorem d_M_pack_50 : decode (sk_cc m_M_pack) 50 = .ok (.ifCond .ne 33, 3) := by decide +kernel
theorem d_M_pack_53 : decode (sk_cc m_M_pack) 53 = .ok (.aload_n 0, 1) := by decide +kernel
theorem d_M_pack_54 : decode (sk_cc m_M_pack) 54 = .ok (.getfield 56, 3) := by decide +kernel
theorem d_M_pack_57 : decode (sk_cc m_M_pack) 57 = .ok (.aload_n 0, 1) := by decide +kernel
theorem d_M_pack_58 : decode (sk_cc m_M_pack) 58 = .ok (.getfield 136, 3) := by decide +kernel
theorem d_M_pack_61 : decode (sk_cc m_M_pack) 61 = .ok (.iload_n 2, 1) := by decide +kernel
theorem d_M_pack_62 : decode (sk_cc m_M_pack) 62 = .ok (.iastore, 1) := by decide +kernel
theorem d_M_pack_63 : decode (sk_cc m_M_pack) 63 = .ok (.aload_n 0, 1) := by decide +kernel
theorem d_M_pack_64 : decode (sk_cc m_M_pack) 64 = .ok (.getfield 59, 3) := by decide +kernel
theorem d_M_pack_67 : decode (sk_cc m_M_pack) 67 = .ok (.aload_n 0, 1) := by decide +kernel
theorem d_M_pack_68 : decode (sk_cc m_M_pack) 68 = .ok (.getfield 136, 3) := by decide +kernel
theorem d_M_pack_71 : decode (sk_cc m_M_pack) 71 = .ok (.iconst 0, 1) := by decide +kernel
theorem d_M_pack_72 : decode (sk_cc m_M_pack) 72 = .ok (.bastore, 1) := by decide +kernel
theorem d_M_pack_73 : decode (sk_cc m_M_pack) 73 = .ok (.aload_n 0, 1) := by decide +kernel
theorem d_M_pack_74 : decode (sk_cc m_M_pack) 74 = .ok (.dup, 1) := by decide +kernel
theorem d_M_pack_75 : decode (sk_cc m_M_pack) 75 = .ok (.getfield 136, 3) := by decide +kernel
theorem d_M_pack_78 : decode (sk_cc m_M_pack) 78 = .ok (.iconst 1, 1) := by decide +kernel
theorem d_M_pack_79 : decode (sk_cc m_M_pack) 79 = .ok (.iadd, 1) := by decide +kernel
theorem d_M_pack_80 : decode (sk_cc m_M_pack) 80 = .ok (.putfield 136, 3) := by decide +kernel
theorem d_M_pack_83 : decode (sk_cc m_M_pack) 83 = .ok (.iinc 1 1, 3) := by decide +kernel
theorem d_M_pack_86 : decode (sk_cc m_M_pack) 86 = .ok (.goto (-62), 3) := by decide +kernel
theorem d_M_pack_89 : decode (sk_cc m_M_pack) 89 = .ok (.aload_n 0, 1) := by decide +kernel
theorem d_M_pack_90 : decode (sk_cc m_M_pack) 90 = .ok (.getfield 136, 3) := by decide +kernel
theorem d_M_pack_93 : decode (sk_cc m_M_pack) 93 = .ok (.iconst 1, 1) := by decide +kernel
theorem d_M_pack_94 : decode (sk_cc m_M_pack) 94 = .ok (.isub, 1) := by decide +kernel
theorem d_M_pack_95 : decode (sk_cc m_M_pack) 95 = .ok (.istore_n 1, 1) := by decide +kernel
theorem d_M_pack_96 : decode (sk_cc m_M_pack) 96 = .ok (.iload_n 1, 1) := by decide +kernel
theorem d_M_pack_97 : decode (sk_cc m_M_pack) 97 = .ok (.ifCond .lt 63, 3) := by decide +kernel
theorem d_M_pack_100 : decode (sk_cc m_M_pack) 100 = .ok (.iconst 1, 1) := by decide +kernel
theorem d_M_pack_101 : decode (sk_cc m_M_pack) 101 = .ok (.istore_n 2, 1) := by decide +kernel
theorem d_M_pack_102 : decode (sk_cc m_M_pack) 102 = .ok (.iconst 0, 1) := by decide +kernel
theorem d_M_pack_103 : decode (sk_cc m_M_pack) 103 = .ok (.istore_n 3, 1) := by decide +kernel
theorem d_M_pack_104 : decode (sk_cc m_M_pack) 104 = .ok (.iload_n 3, 1) := by decide +kernel
theorem d_M_pack_105 : decode (sk_cc m_M_pack) 105 = .ok (.iconst 2, 1) := by decide +kernel
theorem d_M_pack_106 : decode (sk_cc m_M_pack) 106 = .ok (.aload_n 0, 1) := by decide +kernel
theorem d_M_pack_107 : decode (sk_cc m_M_pack) 107 = .ok (.getfield 78, 3) := by decide +kernel
theorem d_M_pack_110 : decode (sk_cc m_M_pack) 110 = .ok (.imul, 1) := by decide +kernel
theorem d_M_pack_111 : decode (sk_cc m_M_pack) 111 = .ok (.if_icmp .ge 36, 3) := by decide +kernel
theorem d_M_pack_114 : decode (sk_cc m_M_pack) 114 = .ok (.iload_n 2, 1) := by decide +kernel
theorem d_M_pack_115 : decode (sk_cc m_M_pack) 115 = .ok (.ifCond .eq 24, 3) := by decide +kernel
theorem d_M_pack_118 : decode (sk_cc m_M_pack) 118 = .ok (.aload_n 0, 1) := by decide +kernel
theorem d_M_pack_119 : decode (sk_cc m_M_pack) 119 = .ok (.iload_n 3, 1) := by decide +kernel
theorem d_M_pack_120 : decode (sk_cc m_M_pack) 120 = .ok (.invokevirtual 122, 3) := by decide +kernel
theorem d_M_pack_123 : decode (sk_cc m_M_pack) 123 = .ok (.ifCond .lt 12, 3) := by decide +kernel
theorem d_M_pack_126 : decode (sk_cc m_M_pack) 126 = .ok (.aload_n 0, 1) := by decide +kernel
theorem d_M_pack_127 : decode (sk_cc m_M_pack) 127 = .ok (.iload_n 3, 1) := by decide +kernel
theorem d_M_pack_128 : decode (sk_cc m_M_pack) 128 = .ok (.iload_n 1, 1) := by decide +kernel
theorem d_M_pack_129 : decode (sk_cc m_M_pack) 129 = .ok (.invokevirtual 139, 3) := by decide +kernel
theorem d_M_pack_132 : decode (sk_cc m_M_pack) 132 = .ok (.ifCond .eq 7, 3) := by decide +kernel
theorem d_M_pack_135 : decode (sk_cc m_M_pack) 135 = .ok (.iconst 1, 1) := by decide +kernel
theorem d_M_pack_136 : decode (sk_cc m_M_pack) 136 = .ok (.goto 4, 3) := by decide +kernel
theorem d_M_pack_139 : decode (sk_cc m_M_pack) 139 = .ok (.iconst 0, 1) := by decide +kernel
theorem d_M_pack_140 : decode (sk_cc m_M_pack) 140 = .ok (.istore_n 2, 1) := by decide +kernel
theorem d_M_pack_141 : decode (sk_cc m_M_pack) 141 = .ok (.iinc 3 1, 3) := by decide +kernel
theorem d_M_pack_144 : decode (sk_cc m_M_pack) 144 = .ok (.goto (-40), 3) := by decide +kernel
theorem d_M_pack_147 : decode (sk_cc m_M_pack) 147 = .ok (.aload_n 0, 1) := by decide +kernel
theorem d_M_pack_148 : decode (sk_cc m_M_pack) 148 = .ok (.getfield 59, 3) := by decide +kernel
theorem d_M_pack_151 : decode (sk_cc m_M_pack) 151 = .ok (.iload_n 1, 1) := by decide +kernel
theorem d_M_pack_152 : decode (sk_cc m_M_pack) 152 = .ok (.iload_n 2, 1) := by decide +kernel
theorem d_M_pack_153 : decode (sk_cc m_M_pack) 153 = .ok (.bastore, 1) := by decide +kernel
theorem d_M_pack_154 : decode (sk_cc m_M_pack) 154 = .ok (.iinc 1 (-1), 3) := by decide +kernel
theorem d_M_pack_157 : decode (sk_cc m_M_pack) 157 = .ok (.goto (-61), 3) := by decide +kernel
theorem d_M_pack_160 : decode (sk_cc m_M_pack) 160 = .ok (.return_, 1) := by decide +kernel
theorem d_M_covered_0 : decode (sk_cc m_M_covered) 0 = .ok (.iconst 0, 1) := by decide +kernel
theorem d_M_covered_1 : decode (sk_cc m_M_covered) 1 = .ok (.istore_n 3, 1) := by decide +kernel
theorem d_M_covered_2 : decode (sk_cc m_M_covered) 2 = .ok (.iconst 0, 1) := by decide +kernel
theorem d_M_covered_3 : decode (sk_cc m_M_covered) 3 = .ok (.istore 4, 2) := by decide +kernel
theorem d_M_covered_5 : decode (sk_cc m_M_covered) 5 = .ok (.iload 4, 2) := by decide +kernel
theorem d_M_covered_7 : decode (sk_cc m_M_covered) 7 = .ok (.aload_n 0, 1) := by decide +kernel
theorem d_M_covered_8 : decode (sk_cc m_M_covered) 8 = .ok (.getfield 136, 3) := by decide +kernel
theorem d_M_covered_11 : decode (sk_cc m_M_covered) 11 = .ok (.if_icmp .ge 67, 3) := by decide +kernel
theorem d_M_covered_14 : decode (sk_cc m_M_covered) 14 = .ok (.iload_n 3, 1) := by decide +kernel
theorem d_M_covered_15 : decode (sk_cc m_M_covered) 15 = .ok (.ifCond .ne 51, 3) := by decide +kernel
theorem d_M_covered_18 : decode (sk_cc m_M_covered) 18 = .ok (.iload 4, 2) := by decide +kernel
theorem d_M_covered_20 : decode (sk_cc m_M_covered) 20 = .ok (.iload_n 2, 1) := by decide +kernel
theorem d_M_covered_21 : decode (sk_cc m_M_covered) 21 = .ok (.if_icmp .eq 49, 3) := by decide +kernel
theorem d_M_covered_24 : decode (sk_cc m_M_covered) 24 = .ok (.aload_n 0, 1) := by decide +kernel
theorem d_M_covered_25 : decode (sk_cc m_M_covered) 25 = .ok (.getfield 59, 3) := by decide +kernel
theorem d_M_covered_28 : decode (sk_cc m_M_covered) 28 = .ok (.iload 4, 2) := by decide +kernel
theorem d_M_covered_30 : decode (sk_cc m_M_covered) 30 = .ok (.baload, 1) := by decide +kernel
theorem d_M_covered_31 : decode (sk_cc m_M_covered) 31 = .ok (.ifCond .ne 39, 3) := by decide +kernel
theorem d_M_covered_34 : decode (sk_cc m_M_covered) 34 = .ok (.aload_n 0, 1) := by decide +kernel
theorem d_M_covered_35 : decode (sk_cc m_M_covered) 35 = .ok (.getfield 50, 3) := by decide +kernel
theorem d_M_covered_38 : decode (sk_cc m_M_covered) 38 = .ok (.bipush 64, 2) := by decide +kernel
theorem d_M_covered_40 : decode (sk_cc m_M_covered) 40 = .ok (.iload_n 1, 1) := by decide +kernel
theorem d_M_covered_41 : decode (sk_cc m_M_covered) 41 = .ok (.imul, 1) := by decide +kernel
theorem d_M_covered_42 : decode (sk_cc m_M_covered) 42 = .ok (.aload_n 0, 1) := by decide +kernel
theorem d_M_covered_43 : decode (sk_cc m_M_covered) 43 = .ok (.getfield 56, 3) := by decide +kernel
theorem d_M_covered_46 : decode (sk_cc m_M_covered) 46 = .ok (.iload 4, 2) := by decide +kernel
theorem d_M_covered_48 : decode (sk_cc m_M_covered) 48 = .ok (.iaload, 1) := by decide +kernel
theorem d_M_covered_49 : decode (sk_cc m_M_covered) 49 = .ok (.iadd, 1) := by decide +kernel
theorem d_M_covered_50 : decode (sk_cc m_M_covered) 50 = .ok (.iaload, 1) := by decide +kernel
theorem d_M_covered_51 : decode (sk_cc m_M_covered) 51 = .ok (.aload_n 0, 1) := by decide +kernel
theorem d_M_covered_52 : decode (sk_cc m_M_covered) 52 = .ok (.getfield 53, 3) := by decide +kernel
theorem d_M_covered_55 : decode (sk_cc m_M_covered) 55 = .ok (.aload_n 0, 1) := by decide +kernel
theorem d_M_covered_56 : decode (sk_cc m_M_covered) 56 = .ok (.getfield 56, 3) := by decide +kernel
theorem d_M_covered_59 : decode (sk_cc m_M_covered) 59 = .ok (.iload 4, 2) := by decide +kernel
theorem d_M_covered_61 : decode (sk_cc m_M_covered) 61 = .ok (.iaload, 1) := by decide +kernel
theorem d_M_covered_62 : decode (sk_cc m_M_covered) 62 = .ok (.iaload, 1) := by decide +kernel
theorem d_M_covered_63 : decode (sk_cc m_M_covered) 63 = .ok (.if_icmp .eq 7, 3) := by decide +kernel
theorem d_M_covered_66 : decode (sk_cc m_M_covered) 66 = .ok (.iconst 1, 1) := by decide +kernel
theorem d_M_covered_67 : decode (sk_cc m_M_covered) 67 = .ok (.goto 4, 3) := by decide +kernel
theorem d_M_covered_70 : decode (sk_cc m_M_covered) 70 = .ok (.iconst 0, 1) := by decide +kernel
theorem d_M_covered_71 : decode (sk_cc m_M_covered) 71 = .ok (.istore_n 3, 1) := by decide +kernel
theorem d_M_covered_72 : decode (sk_cc m_M_covered) 72 = .ok (.iinc 4 1, 3) := by decide +kernel
theorem d_M_covered_75 : decode (sk_cc m_M_covered) 75 = .ok (.goto (-70), 3) := by decide +kernel
theorem d_M_covered_78 : decode (sk_cc m_M_covered) 78 = .ok (.iload_n 3, 1) := by decide +kernel
theorem d_M_covered_79 : decode (sk_cc m_M_covered) 79 = .ok (.ireturn, 1) := by decide +kernel
theorem d_M_log_0 : decode (sk_cc m_M_log) 0 = .ok (.aload_n 0, 1) := by decide +kernel
theorem d_M_log_1 : decode (sk_cc m_M_log) 1 = .ok (.iload_n 1, 1) := by decide +kernel
theorem d_M_log_2 : decode (sk_cc m_M_log) 2 = .ok (.ifCond .lt 11, 3) := by decide +kernel
theorem d_M_log_5 : decode (sk_cc m_M_log) 5 = .ok (.iload_n 1, 1) := by decide +kernel
theorem d_M_log_6 : decode (sk_cc m_M_log) 6 = .ok (.aload_n 0, 1) := by decide +kernel
theorem d_M_log_7 : decode (sk_cc m_M_log) 7 = .ok (.invokevirtual 108, 3) := by decide +kernel
theorem d_M_log_10 : decode (sk_cc m_M_log) 10 = .ok (.if_icmp .lt 7, 3) := by decide +kernel
theorem d_M_log_13 : decode (sk_cc m_M_log) 13 = .ok (.iconst 1, 1) := by decide +kernel
theorem d_M_log_14 : decode (sk_cc m_M_log) 14 = .ok (.goto 32, 3) := by decide +kernel
theorem d_M_log_17 : decode (sk_cc m_M_log) 17 = .ok (.iload_n 2, 1) := by decide +kernel
theorem d_M_log_18 : decode (sk_cc m_M_log) 18 = .ok (.ifCond .lt 10, 3) := by decide +kernel
theorem d_M_log_21 : decode (sk_cc m_M_log) 21 = .ok (.iload_n 2, 1) := by decide +kernel
theorem d_M_log_22 : decode (sk_cc m_M_log) 22 = .ok (.sipush 4095, 3) := by decide +kernel
theorem d_M_log_25 : decode (sk_cc m_M_log) 25 = .ok (.if_icmp .le 7, 3) := by decide +kernel
theorem d_M_log_28 : decode (sk_cc m_M_log) 28 = .ok (.iconst 2, 1) := by decide +kernel
theorem d_M_log_29 : decode (sk_cc m_M_log) 29 = .ok (.goto 17, 3) := by decide +kernel
theorem d_M_log_32 : decode (sk_cc m_M_log) 32 = .ok (.aload_n 0, 1) := by decide +kernel
theorem d_M_log_33 : decode (sk_cc m_M_log) 33 = .ok (.getfield 88, 3) := by decide +kernel
theorem d_M_log_36 : decode (sk_cc m_M_log) 36 = .ok (.bipush 16, 2) := by decide +kernel
theorem d_M_log_38 : decode (sk_cc m_M_log) 38 = .ok (.if_icmp .ne 7, 3) := by decide +kernel
theorem d_M_log_41 : decode (sk_cc m_M_log) 41 = .ok (.iconst 3, 1) := by decide +kernel
theorem d_M_log_42 : decode (sk_cc m_M_log) 42 = .ok (.goto 4, 3) := by decide +kernel
theorem d_M_log_45 : decode (sk_cc m_M_log) 45 = .ok (.iconst 0, 1) := by decide +kernel
theorem d_M_log_46 : decode (sk_cc m_M_log) 46 = .ok (.putfield 68, 3) := by decide +kernel
theorem d_M_log_49 : decode (sk_cc m_M_log) 49 = .ok (.aload_n 0, 1) := by decide +kernel
theorem d_M_log_50 : decode (sk_cc m_M_log) 50 = .ok (.getfield 68, 3) := by decide +kernel
theorem d_M_log_53 : decode (sk_cc m_M_log) 53 = .ok (.ifCond .le 5, 3) := by decide +kernel
theorem d_M_log_56 : decode (sk_cc m_M_log) 56 = .ok (.iconst 0, 1) := by decide +kernel
theorem d_M_log_57 : decode (sk_cc m_M_log) 57 = .ok (.ireturn, 1) := by decide +kernel
theorem d_M_log_58 : decode (sk_cc m_M_log) 58 = .ok (.aload_n 0, 1) := by decide +kernel
theorem d_M_log_59 : decode (sk_cc m_M_log) 59 = .ok (.getfield 62, 3) := by decide +kernel
theorem d_M_log_62 : decode (sk_cc m_M_log) 62 = .ok (.aload_n 0, 1) := by decide +kernel
theorem d_M_log_63 : decode (sk_cc m_M_log) 63 = .ok (.getfield 88, 3) := by decide +kernel
theorem d_M_log_66 : decode (sk_cc m_M_log) 66 = .ok (.iload_n 1, 1) := by decide +kernel
theorem d_M_log_67 : decode (sk_cc m_M_log) 67 = .ok (.iastore, 1) := by decide +kernel
theorem d_M_log_68 : decode (sk_cc m_M_log) 68 = .ok (.aload_n 0, 1) := by decide +kernel
theorem d_M_log_69 : decode (sk_cc m_M_log) 69 = .ok (.getfield 65, 3) := by decide +kernel
theorem d_M_log_72 : decode (sk_cc m_M_log) 72 = .ok (.aload_n 0, 1) := by decide +kernel
theorem d_M_log_73 : decode (sk_cc m_M_log) 73 = .ok (.getfield 88, 3) := by decide +kernel
theorem d_M_log_76 : decode (sk_cc m_M_log) 76 = .ok (.iload_n 2, 1) := by decide +kernel
theorem d_M_log_77 : decode (sk_cc m_M_log) 77 = .ok (.iastore, 1) := by decide +kernel
theorem d_M_log_78 : decode (sk_cc m_M_log) 78 = .ok (.aload_n 0, 1) := by decide +kernel
theorem d_M_log_79 : decode (sk_cc m_M_log) 79 = .ok (.dup, 1) := by decide +kernel
theorem d_M_log_80 : decode (sk_cc m_M_log) 80 = .ok (.getfield 88, 3) := by decide +kernel
theorem d_M_log_83 : decode (sk_cc m_M_log) 83 = .ok (.iconst 1, 1) := by decide +kernel
theorem d_M_log_84 : decode (sk_cc m_M_log) 84 = .ok (.iadd, 1) := by decide +kernel
theorem d_M_log_85 : decode (sk_cc m_M_log) 85 = .ok (.putfield 88, 3) := by decide +kernel
theorem d_M_log_88 : decode (sk_cc m_M_log) 88 = .ok (.aload_n 0, 1) := by decide +kernel
theorem d_M_log_89 : decode (sk_cc m_M_log) 89 = .ok (.getfield 88, 3) := by decide +kernel
theorem d_M_log_92 : decode (sk_cc m_M_log) 92 = .ok (.ireturn, 1) := by decide +kernel
theorem d_M_forget_0 : decode (sk_cc m_M_forget) 0 = .ok (.aload_n 0, 1) := by decide +kernel
theorem d_M_forget_1 : decode (sk_cc m_M_forget) 1 = .ok (.iconst 0, 1) := by decide +kernel
theorem d_M_forget_2 : decode (sk_cc m_M_forget) 2 = .ok (.putfield 68, 3) := by decide +kernel
theorem d_M_forget_5 : decode (sk_cc m_M_forget) 5 = .ok (.aload_n 0, 1) := by decide +kernel
theorem d_M_forget_6 : decode (sk_cc m_M_forget) 6 = .ok (.getfield 88, 3) := by decide +kernel
theorem d_M_forget_9 : decode (sk_cc m_M_forget) 9 = .ok (.istore_n 1, 1) := by decide +kernel
theorem d_M_forget_10 : decode (sk_cc m_M_forget) 10 = .ok (.aload_n 0, 1) := by decide +kernel
theorem d_M_forget_11 : decode (sk_cc m_M_forget) 11 = .ok (.iconst 0, 1) := by decide +kernel
theorem d_M_forget_12 : decode (sk_cc m_M_forget) 12 = .ok (.putfield 88, 3) := by decide +kernel
theorem d_M_forget_15 : decode (sk_cc m_M_forget) 15 = .ok (.iload_n 1, 1) := by decide +kernel
theorem d_M_forget_16 : decode (sk_cc m_M_forget) 16 = .ok (.ireturn, 1) := by decide +kernel
theorem d_M_explains_0 : decode (sk_cc m_M_explains) 0 = .ok (.aload_n 0, 1) := by decide +kernel
theorem d_M_explains_1 : decode (sk_cc m_M_explains) 1 = .ok (.iconst 0, 1) := by decide +kernel
theorem d_M_explains_2 : decode (sk_cc m_M_explains) 2 = .ok (.putfield 68, 3) := by decide +kernel
theorem d_M_explains_5 : decode (sk_cc m_M_explains) 5 = .ok (.aload_n 0, 1) := by decide +kernel
theorem d_M_explains_6 : decode (sk_cc m_M_explains) 6 = .ok (.invokevirtual 119, 3) := by decide +kernel
theorem d_M_explains_9 : decode (sk_cc m_M_explains) 9 = .ok (.iload_n 1, 1) := by decide +kernel
theorem d_M_explains_10 : decode (sk_cc m_M_explains) 10 = .ok (.iconst (-1), 1) := by decide +kernel
theorem d_M_explains_11 : decode (sk_cc m_M_explains) 11 = .ok (.if_icmp .ne 17, 3) := by decide +kernel
theorem d_M_explains_14 : decode (sk_cc m_M_explains) 14 = .ok (.aload_n 0, 1) := by decide +kernel
theorem d_M_explains_15 : decode (sk_cc m_M_explains) 15 = .ok (.iconst (-1), 1) := by decide +kernel
theorem d_M_explains_16 : decode (sk_cc m_M_explains) 16 = .ok (.invokevirtual 146, 3) := by decide +kernel
theorem d_M_explains_19 : decode (sk_cc m_M_explains) 19 = .ok (.ifCond .eq 7, 3) := by decide +kernel
theorem d_M_explains_22 : decode (sk_cc m_M_explains) 22 = .ok (.iconst 1, 1) := by decide +kernel
theorem d_M_explains_23 : decode (sk_cc m_M_explains) 23 = .ok (.goto 4, 3) := by decide +kernel
theorem d_M_explains_26 : decode (sk_cc m_M_explains) 26 = .ok (.iconst 0, 1) := by decide +kernel
theorem d_M_explains_27 : decode (sk_cc m_M_explains) 27 = .ok (.ireturn, 1) := by decide +kernel
theorem d_M_explains_28 : decode (sk_cc m_M_explains) 28 = .ok (.iconst 0, 1) := by decide +kernel
theorem d_M_explains_29 : decode (sk_cc m_M_explains) 29 = .ok (.istore_n 2, 1) := by decide +kernel
theorem d_M_explains_30 : decode (sk_cc m_M_explains) 30 = .ok (.iconst 0, 1) := by decide +kernel
theorem d_M_explains_31 : decode (sk_cc m_M_explains) 31 = .ok (.istore_n 3, 1) := by decide +kernel
theorem d_M_explains_32 : decode (sk_cc m_M_explains) 32 = .ok (.iload_n 3, 1) := by decide +kernel
theorem d_M_explains_33 : decode (sk_cc m_M_explains) 33 = .ok (.iconst 2, 1) := by decide +kernel
theorem d_M_explains_34 : decode (sk_cc m_M_explains) 34 = .ok (.aload_n 0, 1) := by decide +kernel
theorem d_M_explains_35 : decode (sk_cc m_M_explains) 35 = .ok (.getfield 78, 3) := by decide +kernel
theorem d_M_explains_38 : decode (sk_cc m_M_explains) 38 = .ok (.imul, 1) := by decide +kernel
theorem d_M_explains_39 : decode (sk_cc m_M_explains) 39 = .ok (.if_icmp .ge 27, 3) := by decide +kernel
theorem d_M_explains_42 : decode (sk_cc m_M_explains) 42 = .ok (.aload_n 0, 1) := by decide +kernel
theorem d_M_explains_43 : decode (sk_cc m_M_explains) 43 = .ok (.iload_n 3, 1) := by decide +kernel
theorem d_M_explains_44 : decode (sk_cc m_M_explains) 44 = .ok (.invokevirtual 146, 3) := by decide +kernel
theorem d_M_explains_47 : decode (sk_cc m_M_explains) 47 = .ok (.ifCond .eq 13, 3) := by decide +kernel
theorem d_M_explains_50 : decode (sk_cc m_M_explains) 50 = .ok (.iload_n 2, 1) := by decide +kernel
theorem d_M_explains_51 : decode (sk_cc m_M_explains) 51 = .ok (.iload_n 1, 1) := by decide +kernel
theorem d_M_explains_52 : decode (sk_cc m_M_explains) 52 = .ok (.if_icmp .ne 5, 3) := by decide +kernel
theorem d_M_explains_55 : decode (sk_cc m_M_explains) 55 = .ok (.iload_n 3, 1) := by decide +kernel
theorem d_M_explains_56 : decode (sk_cc m_M_explains) 56 = .ok (.ireturn, 1) := by decide +kernel
theorem d_M_explains_57 : decode (sk_cc m_M_explains) 57 = .ok (.iinc 2 1, 3) := by decide +kernel
theorem d_M_explains_60 : decode (sk_cc m_M_explains) 60 = .ok (.iinc 3 1, 3) := by decide +kernel
theorem d_M_explains_63 : decode (sk_cc m_M_explains) 63 = .ok (.goto (-31), 3) := by decide +kernel
theorem d_M_explains_66 : decode (sk_cc m_M_explains) 66 = .ok (.iconst (-1), 1) := by decide +kernel
theorem d_M_explains_67 : decode (sk_cc m_M_explains) 67 = .ok (.ireturn, 1) := by decide +kernel
theorem d_M_gives_0 : decode (sk_cc m_M_gives) 0 = .ok (.iconst 1, 1) := by decide +kernel
theorem d_M_gives_1 : decode (sk_cc m_M_gives) 1 = .ok (.istore_n 2, 1) := by decide +kernel
theorem d_M_gives_2 : decode (sk_cc m_M_gives) 2 = .ok (.iconst 0, 1) := by decide +kernel
theorem d_M_gives_3 : decode (sk_cc m_M_gives) 3 = .ok (.istore_n 3, 1) := by decide +kernel
theorem d_M_gives_4 : decode (sk_cc m_M_gives) 4 = .ok (.iload_n 3, 1) := by decide +kernel
theorem d_M_gives_5 : decode (sk_cc m_M_gives) 5 = .ok (.aload_n 0, 1) := by decide +kernel
theorem d_M_gives_6 : decode (sk_cc m_M_gives) 6 = .ok (.getfield 88, 3) := by decide +kernel
theorem d_M_gives_9 : decode (sk_cc m_M_gives) 9 = .ok (.if_icmp .ge 66, 3) := by decide +kernel
theorem d_M_gives_12 : decode (sk_cc m_M_gives) 12 = .ok (.iload_n 1, 1) := by decide +kernel
theorem d_M_gives_13 : decode (sk_cc m_M_gives) 13 = .ok (.ifCond .ge 17, 3) := by decide +kernel
theorem d_M_gives_16 : decode (sk_cc m_M_gives) 16 = .ok (.aload_n 0, 1) := by decide +kernel
theorem d_M_gives_17 : decode (sk_cc m_M_gives) 17 = .ok (.getfield 53, 3) := by decide +kernel
theorem d_M_gives_20 : decode (sk_cc m_M_gives) 20 = .ok (.aload_n 0, 1) := by decide +kernel
theorem d_M_gives_21 : decode (sk_cc m_M_gives) 21 = .ok (.getfield 62, 3) := by decide +kernel
theorem d_M_gives_24 : decode (sk_cc m_M_gives) 24 = .ok (.iload_n 3, 1) := by decide +kernel
theorem d_M_gives_25 : decode (sk_cc m_M_gives) 25 = .ok (.iaload, 1) := by decide +kernel
theorem d_M_gives_26 : decode (sk_cc m_M_gives) 26 = .ok (.iaload, 1) := by decide +kernel
theorem d_M_gives_27 : decode (sk_cc m_M_gives) 27 = .ok (.goto 19, 3) := by decide +kernel
theorem d_M_gives_30 : decode (sk_cc m_M_gives) 30 = .ok (.aload_n 0, 1) := by decide +kernel
theorem d_M_gives_31 : decode (sk_cc m_M_gives) 31 = .ok (.getfield 50, 3) := by decide +kernel
theorem d_M_gives_34 : decode (sk_cc m_M_gives) 34 = .ok (.bipush 64, 2) := by decide +kernel
theorem d_M_gives_36 : decode (sk_cc m_M_gives) 36 = .ok (.iload_n 1, 1) := by decide +kernel
theorem d_M_gives_37 : decode (sk_cc m_M_gives) 37 = .ok (.imul, 1) := by decide +kernel
theorem d_M_gives_38 : decode (sk_cc m_M_gives) 38 = .ok (.aload_n 0, 1) := by decide +kernel
theorem d_M_gives_39 : decode (sk_cc m_M_gives) 39 = .ok (.getfield 62, 3) := by decide +kernel
theorem d_M_gives_42 : decode (sk_cc m_M_gives) 42 = .ok (.iload_n 3, 1) := by decide +kernel
theorem d_M_gives_43 : decode (sk_cc m_M_gives) 43 = .ok (.iaload, 1) := by decide +kernel
theorem d_M_gives_44 : decode (sk_cc m_M_gives) 44 = .ok (.iadd, 1) := by decide +kernel
theorem d_M_gives_45 : decode (sk_cc m_M_gives) 45 = .ok (.iaload, 1) := by decide +kernel
theorem d_M_gives_46 : decode (sk_cc m_M_gives) 46 = .ok (.istore 4, 2) := by decide +kernel
theorem d_M_gives_48 : decode (sk_cc m_M_gives) 48 = .ok (.iload_n 2, 1) := by decide +kernel
theorem d_M_gives_49 : decode (sk_cc m_M_gives) 49 = .ok (.ifCond .eq 18, 3) := by decide +kernel
theorem d_M_gives_52 : decode (sk_cc m_M_gives) 52 = .ok (.iload 4, 2) := by decide +kernel
theorem d_M_gives_54 : decode (sk_cc m_M_gives) 54 = .ok (.aload_n 0, 1) := by decide +kernel
theorem d_M_gives_55 : decode (sk_cc m_M_gives) 55 = .ok (.getfield 65, 3) := by decide +kernel
theorem d_M_gives_58 : decode (sk_cc m_M_gives) 58 = .ok (.iload_n 3, 1) := by decide +kernel
theorem d_M_gives_59 : decode (sk_cc m_M_gives) 59 = .ok (.iaload, 1) := by decide +kernel
theorem d_M_gives_60 : decode (sk_cc m_M_gives) 60 = .ok (.if_icmp .ne 7, 3) := by decide +kernel
theorem d_M_gives_63 : decode (sk_cc m_M_gives) 63 = .ok (.iconst 1, 1) := by decide +kernel
theorem d_M_gives_64 : decode (sk_cc m_M_gives) 64 = .ok (.goto 4, 3) := by decide +kernel
theorem d_M_gives_67 : decode (sk_cc m_M_gives) 67 = .ok (.iconst 0, 1) := by decide +kernel
theorem d_M_gives_68 : decode (sk_cc m_M_gives) 68 = .ok (.istore_n 2, 1) := by decide +kernel
theorem d_M_gives_69 : decode (sk_cc m_M_gives) 69 = .ok (.iinc 3 1, 3) := by decide +kernel
theorem d_M_gives_72 : decode (sk_cc m_M_gives) 72 = .ok (.goto (-68), 3) := by decide +kernel
theorem d_M_gives_75 : decode (sk_cc m_M_gives) 75 = .ok (.iload_n 2, 1) := by decide +kernel
theorem d_M_gives_76 : decode (sk_cc m_M_gives) 76 = .ok (.ireturn, 1) := by decide +kernel
theorem d_law_0 : decode (sk_cc m_law) 0 = .ok (.new 8, 3) := by decide +kernel
theorem d_law_3 : decode (sk_cc m_law) 3 = .ok (.dup, 1) := by decide +kernel
theorem d_law_4 : decode (sk_cc m_law) 4 = .ok (.invokespecial 64, 3) := by decide +kernel
theorem d_law_7 : decode (sk_cc m_law) 7 = .ok (.astore_n 1, 1) := by decide +kernel
theorem d_law_8 : decode (sk_cc m_law) 8 = .ok (.new 65, 3) := by decide +kernel
theorem d_law_11 : decode (sk_cc m_law) 11 = .ok (.dup, 1) := by decide +kernel
theorem d_law_12 : decode (sk_cc m_law) 12 = .ok (.invokespecial 67, 3) := by decide +kernel
theorem d_law_15 : decode (sk_cc m_law) 15 = .ok (.astore_n 2, 1) := by decide +kernel
theorem d_law_16 : decode (sk_cc m_law) 16 = .ok (.iconst 1, 1) := by decide +kernel
theorem d_law_17 : decode (sk_cc m_law) 17 = .ok (.newarray .long, 2) := by decide +kernel
theorem d_law_19 : decode (sk_cc m_law) 19 = .ok (.astore_n 3, 1) := by decide +kernel
theorem d_law_20 : decode (sk_cc m_law) 20 = .ok (.iconst 0, 1) := by decide +kernel
theorem d_law_21 : decode (sk_cc m_law) 21 = .ok (.istore 4, 2) := by decide +kernel
theorem d_law_23 : decode (sk_cc m_law) 23 = .ok (.iload 4, 2) := by decide +kernel
theorem d_law_25 : decode (sk_cc m_law) 25 = .ok (.aload_n 0, 1) := by decide +kernel
theorem d_law_26 : decode (sk_cc m_law) 26 = .ok (.arraylength, 1) := by decide +kernel
theorem d_law_27 : decode (sk_cc m_law) 27 = .ok (.iconst 5, 1) := by decide +kernel
theorem d_law_28 : decode (sk_cc m_law) 28 = .ok (.isub, 1) := by decide +kernel
theorem d_law_29 : decode (sk_cc m_law) 29 = .ok (.if_icmp .gt 1151, 3) := by decide +kernel
theorem d_law_32 : decode (sk_cc m_law) 32 = .ok (.aload_n 0, 1) := by decide +kernel
theorem d_law_33 : decode (sk_cc m_law) 33 = .ok (.iload 4, 2) := by decide +kernel
theorem d_law_35 : decode (sk_cc m_law) 35 = .ok (.iaload, 1) := by decide +kernel
theorem d_law_36 : decode (sk_cc m_law) 36 = .ok (.bipush 31, 2) := by decide +kernel
theorem d_law_38 : decode (sk_cc m_law) 38 = .ok (.iand, 1) := by decide +kernel
theorem d_law_39 : decode (sk_cc m_law) 39 = .ok (.tableswitch 1135 0 18 #[89, 100, 172, 264, 320, 368, 424, 504, 572, 621, 689, 745, 800, 856, 948, 1004, 1029, 1097, 1110], 89) := by decide +kernel
theorem d_law_128 : decode (sk_cc m_law) 128 = .ok (.aload_n 1, 1) := by decide +kernel
theorem d_law_129 : decode (sk_cc m_law) 129 = .ok (.invokevirtual 68, 3) := by decide +kernel
theorem d_law_132 : decode (sk_cc m_law) 132 = .ok (.aload_n 2, 1) := by decide +kernel
theorem d_law_133 : decode (sk_cc m_law) 133 = .ok (.invokevirtual 71, 3) := by decide +kernel
theorem d_law_136 : decode (sk_cc m_law) 136 = .ok (.goto 1038, 3) := by decide +kernel
theorem d_law_139 : decode (sk_cc m_law) 139 = .ok (.aload_n 1, 1) := by decide +kernel
end
section
/-! decode rows -/
theorem d_law_140 : decode (sk_cc m_law) 140 = .ok (.aload_n 0, 1) := by decide +kernel
theorem d_law_141 : decode (sk_cc m_law) 141 = .ok (.iload 4, 2) := by decide +kernel
theorem d_law_143 : decode (sk_cc m_law) 143 = .ok (.iconst 1, 1) := by decide +kernel
theorem d_law_144 : decode (sk_cc m_law) 144 = .ok (.iadd, 1) := by decide +kernel
theorem d_law_145 : decode (sk_cc m_law) 145 = .ok (.iaload, 1) := by decide +kernel
theorem d_law_146 : decode (sk_cc m_law) 146 = .ok (.ifCond .eq 7, 3) := by decide +kernel
theorem d_law_149 : decode (sk_cc m_law) 149 = .ok (.iconst 1, 1) := by decide +kernel
theorem d_law_150 : decode (sk_cc m_law) 150 = .ok (.goto 4, 3) := by decide +kernel
theorem d_law_153 : decode (sk_cc m_law) 153 = .ok (.iconst 0, 1) := by decide +kernel
theorem d_law_154 : decode (sk_cc m_law) 154 = .ok (.aload_n 3, 1) := by decide +kernel
theorem d_law_155 : decode (sk_cc m_law) 155 = .ok (.invokestatic 72, 3) := by decide +kernel
theorem d_law_158 : decode (sk_cc m_law) 158 = .ok (.istore 5, 2) := by decide +kernel
theorem d_law_160 : decode (sk_cc m_law) 160 = .ok (.aload_n 2, 1) := by decide +kernel
theorem d_law_161 : decode (sk_cc m_law) 161 = .ok (.aload_n 0, 1) := by decide +kernel
theorem d_law_162 : decode (sk_cc m_law) 162 = .ok (.iload 4, 2) := by decide +kernel
theorem d_law_164 : decode (sk_cc m_law) 164 = .ok (.iconst 1, 1) := by decide +kernel
theorem d_law_165 : decode (sk_cc m_law) 165 = .ok (.iadd, 1) := by decide +kernel
theorem d_law_166 : decode (sk_cc m_law) 166 = .ok (.iaload, 1) := by decide +kernel
theorem d_law_167 : decode (sk_cc m_law) 167 = .ok (.ifCond .eq 7, 3) := by decide +kernel
theorem d_law_170 : decode (sk_cc m_law) 170 = .ok (.iconst 1, 1) := by decide +kernel
theorem d_law_171 : decode (sk_cc m_law) 171 = .ok (.goto 4, 3) := by decide +kernel
theorem d_law_174 : decode (sk_cc m_law) 174 = .ok (.iconst 0, 1) := by decide +kernel
theorem d_law_175 : decode (sk_cc m_law) 175 = .ok (.invokevirtual 77, 3) := by decide +kernel
theorem d_law_178 : decode (sk_cc m_law) 178 = .ok (.istore 6, 2) := by decide +kernel
theorem d_law_180 : decode (sk_cc m_law) 180 = .ok (.aload_n 2, 1) := by decide +kernel
theorem d_law_181 : decode (sk_cc m_law) 181 = .ok (.invokevirtual 78, 3) := by decide +kernel
theorem d_law_184 : decode (sk_cc m_law) 184 = .ok (.iload 5, 2) := by decide +kernel
theorem d_law_186 : decode (sk_cc m_law) 186 = .ok (.if_icmp .eq 5, 3) := by decide +kernel
theorem d_law_189 : decode (sk_cc m_law) 189 = .ok (.iconst 0, 1) := by decide +kernel
theorem d_law_190 : decode (sk_cc m_law) 190 = .ok (.ireturn, 1) := by decide +kernel
theorem d_law_191 : decode (sk_cc m_law) 191 = .ok (.iload 5, 2) := by decide +kernel
theorem d_law_193 : decode (sk_cc m_law) 193 = .ok (.ifCond .ne 15, 3) := by decide +kernel
theorem d_law_196 : decode (sk_cc m_law) 196 = .ok (.aload_n 3, 1) := by decide +kernel
theorem d_law_197 : decode (sk_cc m_law) 197 = .ok (.iconst 0, 1) := by decide +kernel
theorem d_law_198 : decode (sk_cc m_law) 198 = .ok (.laload, 1) := by decide +kernel
theorem d_law_199 : decode (sk_cc m_law) 199 = .ok (.iload 6, 2) := by decide +kernel
theorem d_law_201 : decode (sk_cc m_law) 201 = .ok (.i2l, 1) := by decide +kernel
theorem d_law_202 : decode (sk_cc m_law) 202 = .ok (.lcmp, 1) := by decide +kernel
theorem d_law_203 : decode (sk_cc m_law) 203 = .ok (.ifCond .eq 5, 3) := by decide +kernel
theorem d_law_206 : decode (sk_cc m_law) 206 = .ok (.iconst 0, 1) := by decide +kernel
theorem d_law_207 : decode (sk_cc m_law) 207 = .ok (.ireturn, 1) := by decide +kernel
theorem d_law_208 : decode (sk_cc m_law) 208 = .ok (.goto 966, 3) := by decide +kernel
theorem d_law_211 : decode (sk_cc m_law) 211 = .ok (.aload_n 1, 1) := by decide +kernel
theorem d_law_212 : decode (sk_cc m_law) 212 = .ok (.aload_n 0, 1) := by decide +kernel
theorem d_law_213 : decode (sk_cc m_law) 213 = .ok (.iload 4, 2) := by decide +kernel
theorem d_law_215 : decode (sk_cc m_law) 215 = .ok (.iconst 1, 1) := by decide +kernel
theorem d_law_216 : decode (sk_cc m_law) 216 = .ok (.iadd, 1) := by decide +kernel
theorem d_law_217 : decode (sk_cc m_law) 217 = .ok (.iaload, 1) := by decide +kernel
theorem d_law_218 : decode (sk_cc m_law) 218 = .ok (.aload_n 0, 1) := by decide +kernel
theorem d_law_219 : decode (sk_cc m_law) 219 = .ok (.iload 4, 2) := by decide +kernel
theorem d_law_221 : decode (sk_cc m_law) 221 = .ok (.iconst 2, 1) := by decide +kernel
theorem d_law_222 : decode (sk_cc m_law) 222 = .ok (.iadd, 1) := by decide +kernel
theorem d_law_223 : decode (sk_cc m_law) 223 = .ok (.iaload, 1) := by decide +kernel
theorem d_law_224 : decode (sk_cc m_law) 224 = .ok (.aload_n 0, 1) := by decide +kernel
theorem d_law_225 : decode (sk_cc m_law) 225 = .ok (.iload 4, 2) := by decide +kernel
theorem d_law_227 : decode (sk_cc m_law) 227 = .ok (.iconst 3, 1) := by decide +kernel
theorem d_law_228 : decode (sk_cc m_law) 228 = .ok (.iadd, 1) := by decide +kernel
theorem d_law_229 : decode (sk_cc m_law) 229 = .ok (.iaload, 1) := by decide +kernel
theorem d_law_230 : decode (sk_cc m_law) 230 = .ok (.aload_n 0, 1) := by decide +kernel
theorem d_law_231 : decode (sk_cc m_law) 231 = .ok (.iload 4, 2) := by decide +kernel
theorem d_law_233 : decode (sk_cc m_law) 233 = .ok (.iconst 4, 1) := by decide +kernel
theorem d_law_234 : decode (sk_cc m_law) 234 = .ok (.iadd, 1) := by decide +kernel
theorem d_law_235 : decode (sk_cc m_law) 235 = .ok (.iaload, 1) := by decide +kernel
theorem d_law_236 : decode (sk_cc m_law) 236 = .ok (.aload_n 3, 1) := by decide +kernel
theorem d_law_237 : decode (sk_cc m_law) 237 = .ok (.invokestatic 82, 3) := by decide +kernel
theorem d_law_240 : decode (sk_cc m_law) 240 = .ok (.istore 5, 2) := by decide +kernel
theorem d_law_242 : decode (sk_cc m_law) 242 = .ok (.aload_n 2, 1) := by decide +kernel
theorem d_law_243 : decode (sk_cc m_law) 243 = .ok (.aload_n 0, 1) := by decide +kernel
theorem d_law_244 : decode (sk_cc m_law) 244 = .ok (.iload 4, 2) := by decide +kernel
theorem d_law_246 : decode (sk_cc m_law) 246 = .ok (.iconst 1, 1) := by decide +kernel
theorem d_law_247 : decode (sk_cc m_law) 247 = .ok (.iadd, 1) := by decide +kernel
theorem d_law_248 : decode (sk_cc m_law) 248 = .ok (.iaload, 1) := by decide +kernel
theorem d_law_249 : decode (sk_cc m_law) 249 = .ok (.aload_n 0, 1) := by decide +kernel
theorem d_law_250 : decode (sk_cc m_law) 250 = .ok (.iload 4, 2) := by decide +kernel
theorem d_law_252 : decode (sk_cc m_law) 252 = .ok (.iconst 2, 1) := by decide +kernel
theorem d_law_253 : decode (sk_cc m_law) 253 = .ok (.iadd, 1) := by decide +kernel
theorem d_law_254 : decode (sk_cc m_law) 254 = .ok (.iaload, 1) := by decide +kernel
theorem d_law_255 : decode (sk_cc m_law) 255 = .ok (.aload_n 0, 1) := by decide +kernel
theorem d_law_256 : decode (sk_cc m_law) 256 = .ok (.iload 4, 2) := by decide +kernel
theorem d_law_258 : decode (sk_cc m_law) 258 = .ok (.iconst 3, 1) := by decide +kernel
theorem d_law_259 : decode (sk_cc m_law) 259 = .ok (.iadd, 1) := by decide +kernel
theorem d_law_260 : decode (sk_cc m_law) 260 = .ok (.iaload, 1) := by decide +kernel
theorem d_law_261 : decode (sk_cc m_law) 261 = .ok (.aload_n 0, 1) := by decide +kernel
theorem d_law_262 : decode (sk_cc m_law) 262 = .ok (.iload 4, 2) := by decide +kernel
theorem d_law_264 : decode (sk_cc m_law) 264 = .ok (.iconst 4, 1) := by decide +kernel
theorem d_law_265 : decode (sk_cc m_law) 265 = .ok (.iadd, 1) := by decide +kernel
theorem d_law_266 : decode (sk_cc m_law) 266 = .ok (.iaload, 1) := by decide +kernel
theorem d_law_267 : decode (sk_cc m_law) 267 = .ok (.invokevirtual 85, 3) := by decide +kernel
theorem d_law_270 : decode (sk_cc m_law) 270 = .ok (.istore 6, 2) := by decide +kernel
theorem d_law_272 : decode (sk_cc m_law) 272 = .ok (.aload_n 2, 1) := by decide +kernel
theorem d_law_273 : decode (sk_cc m_law) 273 = .ok (.invokevirtual 78, 3) := by decide +kernel
theorem d_law_276 : decode (sk_cc m_law) 276 = .ok (.iload 5, 2) := by decide +kernel
theorem d_law_278 : decode (sk_cc m_law) 278 = .ok (.if_icmp .eq 5, 3) := by decide +kernel
theorem d_law_281 : decode (sk_cc m_law) 281 = .ok (.iconst 0, 1) := by decide +kernel
theorem d_law_282 : decode (sk_cc m_law) 282 = .ok (.ireturn, 1) := by decide +kernel
theorem d_law_283 : decode (sk_cc m_law) 283 = .ok (.iload 5, 2) := by decide +kernel
theorem d_law_285 : decode (sk_cc m_law) 285 = .ok (.ifCond .ne 15, 3) := by decide +kernel
theorem d_law_288 : decode (sk_cc m_law) 288 = .ok (.aload_n 3, 1) := by decide +kernel
theorem d_law_289 : decode (sk_cc m_law) 289 = .ok (.iconst 0, 1) := by decide +kernel
theorem d_law_290 : decode (sk_cc m_law) 290 = .ok (.laload, 1) := by decide +kernel
theorem d_law_291 : decode (sk_cc m_law) 291 = .ok (.iload 6, 2) := by decide +kernel
theorem d_law_293 : decode (sk_cc m_law) 293 = .ok (.i2l, 1) := by decide +kernel
theorem d_law_294 : decode (sk_cc m_law) 294 = .ok (.lcmp, 1) := by decide +kernel
theorem d_law_295 : decode (sk_cc m_law) 295 = .ok (.ifCond .eq 5, 3) := by decide +kernel
theorem d_law_298 : decode (sk_cc m_law) 298 = .ok (.iconst 0, 1) := by decide +kernel
theorem d_law_299 : decode (sk_cc m_law) 299 = .ok (.ireturn, 1) := by decide +kernel
theorem d_law_300 : decode (sk_cc m_law) 300 = .ok (.goto 874, 3) := by decide +kernel
theorem d_law_303 : decode (sk_cc m_law) 303 = .ok (.aload_n 1, 1) := by decide +kernel
theorem d_law_304 : decode (sk_cc m_law) 304 = .ok (.aload_n 0, 1) := by decide +kernel
theorem d_law_305 : decode (sk_cc m_law) 305 = .ok (.iload 4, 2) := by decide +kernel
theorem d_law_307 : decode (sk_cc m_law) 307 = .ok (.iconst 1, 1) := by decide +kernel
theorem d_law_308 : decode (sk_cc m_law) 308 = .ok (.iadd, 1) := by decide +kernel
theorem d_law_309 : decode (sk_cc m_law) 309 = .ok (.iaload, 1) := by decide +kernel
theorem d_law_310 : decode (sk_cc m_law) 310 = .ok (.aload_n 3, 1) := by decide +kernel
theorem d_law_311 : decode (sk_cc m_law) 311 = .ok (.invokestatic 86, 3) := by decide +kernel
theorem d_law_314 : decode (sk_cc m_law) 314 = .ok (.istore 5, 2) := by decide +kernel
theorem d_law_316 : decode (sk_cc m_law) 316 = .ok (.aload_n 2, 1) := by decide +kernel
theorem d_law_317 : decode (sk_cc m_law) 317 = .ok (.aload_n 0, 1) := by decide +kernel
theorem d_law_318 : decode (sk_cc m_law) 318 = .ok (.iload 4, 2) := by decide +kernel
theorem d_law_320 : decode (sk_cc m_law) 320 = .ok (.iconst 1, 1) := by decide +kernel
theorem d_law_321 : decode (sk_cc m_law) 321 = .ok (.iadd, 1) := by decide +kernel
theorem d_law_322 : decode (sk_cc m_law) 322 = .ok (.iaload, 1) := by decide +kernel
theorem d_law_323 : decode (sk_cc m_law) 323 = .ok (.invokevirtual 89, 3) := by decide +kernel
theorem d_law_326 : decode (sk_cc m_law) 326 = .ok (.istore 6, 2) := by decide +kernel
theorem d_law_328 : decode (sk_cc m_law) 328 = .ok (.aload_n 2, 1) := by decide +kernel
theorem d_law_329 : decode (sk_cc m_law) 329 = .ok (.invokevirtual 78, 3) := by decide +kernel
theorem d_law_332 : decode (sk_cc m_law) 332 = .ok (.iload 5, 2) := by decide +kernel
theorem d_law_334 : decode (sk_cc m_law) 334 = .ok (.if_icmp .eq 5, 3) := by decide +kernel
theorem d_law_337 : decode (sk_cc m_law) 337 = .ok (.iconst 0, 1) := by decide +kernel
theorem d_law_338 : decode (sk_cc m_law) 338 = .ok (.ireturn, 1) := by decide +kernel
theorem d_law_339 : decode (sk_cc m_law) 339 = .ok (.iload 5, 2) := by decide +kernel
theorem d_law_341 : decode (sk_cc m_law) 341 = .ok (.ifCond .ne 15, 3) := by decide +kernel
theorem d_law_344 : decode (sk_cc m_law) 344 = .ok (.aload_n 3, 1) := by decide +kernel
theorem d_law_345 : decode (sk_cc m_law) 345 = .ok (.iconst 0, 1) := by decide +kernel
theorem d_law_346 : decode (sk_cc m_law) 346 = .ok (.laload, 1) := by decide +kernel
theorem d_law_347 : decode (sk_cc m_law) 347 = .ok (.iload 6, 2) := by decide +kernel
theorem d_law_349 : decode (sk_cc m_law) 349 = .ok (.i2l, 1) := by decide +kernel
theorem d_law_350 : decode (sk_cc m_law) 350 = .ok (.lcmp, 1) := by decide +kernel
theorem d_law_351 : decode (sk_cc m_law) 351 = .ok (.ifCond .eq 5, 3) := by decide +kernel
theorem d_law_354 : decode (sk_cc m_law) 354 = .ok (.iconst 0, 1) := by decide +kernel
theorem d_law_355 : decode (sk_cc m_law) 355 = .ok (.ireturn, 1) := by decide +kernel
theorem d_law_356 : decode (sk_cc m_law) 356 = .ok (.goto 818, 3) := by decide +kernel
theorem d_law_359 : decode (sk_cc m_law) 359 = .ok (.aload_n 1, 1) := by decide +kernel
theorem d_law_360 : decode (sk_cc m_law) 360 = .ok (.aload_n 0, 1) := by decide +kernel
theorem d_law_361 : decode (sk_cc m_law) 361 = .ok (.iload 4, 2) := by decide +kernel
theorem d_law_363 : decode (sk_cc m_law) 363 = .ok (.iconst 1, 1) := by decide +kernel
theorem d_law_364 : decode (sk_cc m_law) 364 = .ok (.iadd, 1) := by decide +kernel
theorem d_law_365 : decode (sk_cc m_law) 365 = .ok (.iaload, 1) := by decide +kernel
theorem d_law_366 : decode (sk_cc m_law) 366 = .ok (.aload_n 0, 1) := by decide +kernel
theorem d_law_367 : decode (sk_cc m_law) 367 = .ok (.iload 4, 2) := by decide +kernel
theorem d_law_369 : decode (sk_cc m_law) 369 = .ok (.iconst 2, 1) := by decide +kernel
theorem d_law_370 : decode (sk_cc m_law) 370 = .ok (.iadd, 1) := by decide +kernel
theorem d_law_371 : decode (sk_cc m_law) 371 = .ok (.iaload, 1) := by decide +kernel
theorem d_law_372 : decode (sk_cc m_law) 372 = .ok (.invokestatic 90, 3) := by decide +kernel
theorem d_law_375 : decode (sk_cc m_law) 375 = .ok (.istore 5, 2) := by decide +kernel
theorem d_law_377 : decode (sk_cc m_law) 377 = .ok (.aload_n 2, 1) := by decide +kernel
theorem d_law_378 : decode (sk_cc m_law) 378 = .ok (.aload_n 0, 1) := by decide +kernel
theorem d_law_379 : decode (sk_cc m_law) 379 = .ok (.iload 4, 2) := by decide +kernel
theorem d_law_381 : decode (sk_cc m_law) 381 = .ok (.iconst 1, 1) := by decide +kernel
theorem d_law_382 : decode (sk_cc m_law) 382 = .ok (.iadd, 1) := by decide +kernel
theorem d_law_383 : decode (sk_cc m_law) 383 = .ok (.iaload, 1) := by decide +kernel
theorem d_law_384 : decode (sk_cc m_law) 384 = .ok (.aload_n 0, 1) := by decide +kernel
theorem d_law_385 : decode (sk_cc m_law) 385 = .ok (.iload 4, 2) := by decide +kernel
theorem d_law_387 : decode (sk_cc m_law) 387 = .ok (.iconst 2, 1) := by decide +kernel
theorem d_law_388 : decode (sk_cc m_law) 388 = .ok (.iadd, 1) := by decide +kernel
theorem d_law_389 : decode (sk_cc m_law) 389 = .ok (.iaload, 1) := by decide +kernel
theorem d_law_390 : decode (sk_cc m_law) 390 = .ok (.invokevirtual 93, 3) := by decide +kernel
theorem d_law_393 : decode (sk_cc m_law) 393 = .ok (.aload_n 2, 1) := by decide +kernel
theorem d_law_394 : decode (sk_cc m_law) 394 = .ok (.invokevirtual 78, 3) := by decide +kernel
theorem d_law_397 : decode (sk_cc m_law) 397 = .ok (.iload 5, 2) := by decide +kernel
theorem d_law_399 : decode (sk_cc m_law) 399 = .ok (.if_icmp .eq 5, 3) := by decide +kernel
theorem d_law_402 : decode (sk_cc m_law) 402 = .ok (.iconst 0, 1) := by decide +kernel
theorem d_law_403 : decode (sk_cc m_law) 403 = .ok (.ireturn, 1) := by decide +kernel
theorem d_law_404 : decode (sk_cc m_law) 404 = .ok (.goto 770, 3) := by decide +kernel
theorem d_law_407 : decode (sk_cc m_law) 407 = .ok (.aload_n 1, 1) := by decide +kernel
theorem d_law_408 : decode (sk_cc m_law) 408 = .ok (.aload_n 0, 1) := by decide +kernel
theorem d_law_409 : decode (sk_cc m_law) 409 = .ok (.iload 4, 2) := by decide +kernel
theorem d_law_411 : decode (sk_cc m_law) 411 = .ok (.iconst 1, 1) := by decide +kernel
theorem d_law_412 : decode (sk_cc m_law) 412 = .ok (.iadd, 1) := by decide +kernel
theorem d_law_413 : decode (sk_cc m_law) 413 = .ok (.iaload, 1) := by decide +kernel
theorem d_law_414 : decode (sk_cc m_law) 414 = .ok (.aload_n 3, 1) := by decide +kernel
theorem d_law_415 : decode (sk_cc m_law) 415 = .ok (.invokestatic 94, 3) := by decide +kernel
theorem d_law_418 : decode (sk_cc m_law) 418 = .ok (.istore 5, 2) := by decide +kernel
theorem d_law_420 : decode (sk_cc m_law) 420 = .ok (.aload_n 2, 1) := by decide +kernel
theorem d_law_421 : decode (sk_cc m_law) 421 = .ok (.aload_n 0, 1) := by decide +kernel
theorem d_law_422 : decode (sk_cc m_law) 422 = .ok (.iload 4, 2) := by decide +kernel
theorem d_law_424 : decode (sk_cc m_law) 424 = .ok (.iconst 1, 1) := by decide +kernel
theorem d_law_425 : decode (sk_cc m_law) 425 = .ok (.iadd, 1) := by decide +kernel
theorem d_law_426 : decode (sk_cc m_law) 426 = .ok (.iaload, 1) := by decide +kernel
theorem d_law_427 : decode (sk_cc m_law) 427 = .ok (.invokevirtual 96, 3) := by decide +kernel
theorem d_law_430 : decode (sk_cc m_law) 430 = .ok (.istore 6, 2) := by decide +kernel
theorem d_law_432 : decode (sk_cc m_law) 432 = .ok (.aload_n 2, 1) := by decide +kernel
theorem d_law_433 : decode (sk_cc m_law) 433 = .ok (.invokevirtual 78, 3) := by decide +kernel
theorem d_law_436 : decode (sk_cc m_law) 436 = .ok (.iload 5, 2) := by decide +kernel
theorem d_law_438 : decode (sk_cc m_law) 438 = .ok (.if_icmp .eq 5, 3) := by decide +kernel
theorem d_law_441 : decode (sk_cc m_law) 441 = .ok (.iconst 0, 1) := by decide +kernel
theorem d_law_442 : decode (sk_cc m_law) 442 = .ok (.ireturn, 1) := by decide +kernel
theorem d_law_443 : decode (sk_cc m_law) 443 = .ok (.iload 5, 2) := by decide +kernel
theorem d_law_445 : decode (sk_cc m_law) 445 = .ok (.ifCond .ne 15, 3) := by decide +kernel
theorem d_law_448 : decode (sk_cc m_law) 448 = .ok (.aload_n 3, 1) := by decide +kernel
theorem d_law_449 : decode (sk_cc m_law) 449 = .ok (.iconst 0, 1) := by decide +kernel
theorem d_law_450 : decode (sk_cc m_law) 450 = .ok (.laload, 1) := by decide +kernel
theorem d_law_451 : decode (sk_cc m_law) 451 = .ok (.iload 6, 2) := by decide +kernel
theorem d_law_453 : decode (sk_cc m_law) 453 = .ok (.i2l, 1) := by decide +kernel
theorem d_law_454 : decode (sk_cc m_law) 454 = .ok (.lcmp, 1) := by decide +kernel
theorem d_law_455 : decode (sk_cc m_law) 455 = .ok (.ifCond .eq 5, 3) := by decide +kernel
theorem d_law_458 : decode (sk_cc m_law) 458 = .ok (.iconst 0, 1) := by decide +kernel
theorem d_law_459 : decode (sk_cc m_law) 459 = .ok (.ireturn, 1) := by decide +kernel
theorem d_law_460 : decode (sk_cc m_law) 460 = .ok (.goto 714, 3) := by decide +kernel
theorem d_law_463 : decode (sk_cc m_law) 463 = .ok (.aload_n 1, 1) := by decide +kernel
theorem d_law_464 : decode (sk_cc m_law) 464 = .ok (.aload_n 0, 1) := by decide +kernel
theorem d_law_465 : decode (sk_cc m_law) 465 = .ok (.iload 4, 2) := by decide +kernel
theorem d_law_467 : decode (sk_cc m_law) 467 = .ok (.iconst 1, 1) := by decide +kernel
theorem d_law_468 : decode (sk_cc m_law) 468 = .ok (.iadd, 1) := by decide +kernel
theorem d_law_469 : decode (sk_cc m_law) 469 = .ok (.iaload, 1) := by decide +kernel
theorem d_law_470 : decode (sk_cc m_law) 470 = .ok (.aload_n 0, 1) := by decide +kernel
theorem d_law_471 : decode (sk_cc m_law) 471 = .ok (.iload 4, 2) := by decide +kernel
theorem d_law_473 : decode (sk_cc m_law) 473 = .ok (.iconst 2, 1) := by decide +kernel
theorem d_law_474 : decode (sk_cc m_law) 474 = .ok (.iadd, 1) := by decide +kernel
theorem d_law_475 : decode (sk_cc m_law) 475 = .ok (.iaload, 1) := by decide +kernel
theorem d_law_476 : decode (sk_cc m_law) 476 = .ok (.aload_n 0, 1) := by decide +kernel
theorem d_law_477 : decode (sk_cc m_law) 477 = .ok (.iload 4, 2) := by decide +kernel
theorem d_law_479 : decode (sk_cc m_law) 479 = .ok (.iconst 3, 1) := by decide +kernel
theorem d_law_480 : decode (sk_cc m_law) 480 = .ok (.iadd, 1) := by decide +kernel
theorem d_law_481 : decode (sk_cc m_law) 481 = .ok (.iaload, 1) := by decide +kernel
theorem d_law_482 : decode (sk_cc m_law) 482 = .ok (.aload_n 3, 1) := by decide +kernel
theorem d_law_483 : decode (sk_cc m_law) 483 = .ok (.invokestatic 97, 3) := by decide +kernel
theorem d_law_486 : decode (sk_cc m_law) 486 = .ok (.istore 5, 2) := by decide +kernel
theorem d_law_488 : decode (sk_cc m_law) 488 = .ok (.aload_n 2, 1) := by decide +kernel
theorem d_law_489 : decode (sk_cc m_law) 489 = .ok (.aload_n 0, 1) := by decide +kernel
theorem d_law_490 : decode (sk_cc m_law) 490 = .ok (.iload 4, 2) := by decide +kernel
theorem d_law_492 : decode (sk_cc m_law) 492 = .ok (.iconst 1, 1) := by decide +kernel
theorem d_law_493 : decode (sk_cc m_law) 493 = .ok (.iadd, 1) := by decide +kernel
theorem d_law_494 : decode (sk_cc m_law) 494 = .ok (.iaload, 1) := by decide +kernel
theorem d_law_495 : decode (sk_cc m_law) 495 = .ok (.aload_n 0, 1) := by decide +kernel
theorem d_law_496 : decode (sk_cc m_law) 496 = .ok (.iload 4, 2) := by decide +kernel
theorem d_law_498 : decode (sk_cc m_law) 498 = .ok (.iconst 2, 1) := by decide +kernel
theorem d_law_499 : decode (sk_cc m_law) 499 = .ok (.iadd, 1) := by decide +kernel
theorem d_law_500 : decode (sk_cc m_law) 500 = .ok (.iaload, 1) := by decide +kernel
theorem d_law_501 : decode (sk_cc m_law) 501 = .ok (.aload_n 0, 1) := by decide +kernel
theorem d_law_502 : decode (sk_cc m_law) 502 = .ok (.iload 4, 2) := by decide +kernel
theorem d_law_504 : decode (sk_cc m_law) 504 = .ok (.iconst 3, 1) := by decide +kernel
theorem d_law_505 : decode (sk_cc m_law) 505 = .ok (.iadd, 1) := by decide +kernel
theorem d_law_506 : decode (sk_cc m_law) 506 = .ok (.iaload, 1) := by decide +kernel
theorem d_law_507 : decode (sk_cc m_law) 507 = .ok (.invokevirtual 100, 3) := by decide +kernel
theorem d_law_510 : decode (sk_cc m_law) 510 = .ok (.istore 6, 2) := by decide +kernel
theorem d_law_512 : decode (sk_cc m_law) 512 = .ok (.aload_n 2, 1) := by decide +kernel
theorem d_law_513 : decode (sk_cc m_law) 513 = .ok (.invokevirtual 78, 3) := by decide +kernel
theorem d_law_516 : decode (sk_cc m_law) 516 = .ok (.iload 5, 2) := by decide +kernel
theorem d_law_518 : decode (sk_cc m_law) 518 = .ok (.if_icmp .eq 5, 3) := by decide +kernel
theorem d_law_521 : decode (sk_cc m_law) 521 = .ok (.iconst 0, 1) := by decide +kernel
theorem d_law_522 : decode (sk_cc m_law) 522 = .ok (.ireturn, 1) := by decide +kernel
theorem d_law_523 : decode (sk_cc m_law) 523 = .ok (.iload 5, 2) := by decide +kernel
theorem d_law_525 : decode (sk_cc m_law) 525 = .ok (.ifCond .ne 15, 3) := by decide +kernel
theorem d_law_528 : decode (sk_cc m_law) 528 = .ok (.aload_n 3, 1) := by decide +kernel
theorem d_law_529 : decode (sk_cc m_law) 529 = .ok (.iconst 0, 1) := by decide +kernel
theorem d_law_530 : decode (sk_cc m_law) 530 = .ok (.laload, 1) := by decide +kernel
theorem d_law_531 : decode (sk_cc m_law) 531 = .ok (.iload 6, 2) := by decide +kernel
theorem d_law_533 : decode (sk_cc m_law) 533 = .ok (.i2l, 1) := by decide +kernel
theorem d_law_534 : decode (sk_cc m_law) 534 = .ok (.lcmp, 1) := by decide +kernel
theorem d_law_535 : decode (sk_cc m_law) 535 = .ok (.ifCond .eq 5, 3) := by decide +kernel
theorem d_law_538 : decode (sk_cc m_law) 538 = .ok (.iconst 0, 1) := by decide +kernel
theorem d_law_539 : decode (sk_cc m_law) 539 = .ok (.ireturn, 1) := by decide +kernel
theorem d_law_540 : decode (sk_cc m_law) 540 = .ok (.goto 634, 3) := by decide +kernel
theorem d_law_543 : decode (sk_cc m_law) 543 = .ok (.aload_n 1, 1) := by decide +kernel
theorem d_law_544 : decode (sk_cc m_law) 544 = .ok (.aload_n 0, 1) := by decide +kernel
theorem d_law_545 : decode (sk_cc m_law) 545 = .ok (.iload 4, 2) := by decide +kernel
theorem d_law_547 : decode (sk_cc m_law) 547 = .ok (.iconst 1, 1) := by decide +kernel
theorem d_law_548 : decode (sk_cc m_law) 548 = .ok (.iadd, 1) := by decide +kernel
theorem d_law_549 : decode (sk_cc m_law) 549 = .ok (.iaload, 1) := by decide +kernel
theorem d_law_550 : decode (sk_cc m_law) 550 = .ok (.aload_n 0, 1) := by decide +kernel
theorem d_law_551 : decode (sk_cc m_law) 551 = .ok (.iload 4, 2) := by decide +kernel
theorem d_law_553 : decode (sk_cc m_law) 553 = .ok (.iconst 2, 1) := by decide +kernel
theorem d_law_554 : decode (sk_cc m_law) 554 = .ok (.iadd, 1) := by decide +kernel
theorem d_law_555 : decode (sk_cc m_law) 555 = .ok (.iaload, 1) := by decide +kernel
theorem d_law_556 : decode (sk_cc m_law) 556 = .ok (.aload_n 3, 1) := by decide +kernel
theorem d_law_557 : decode (sk_cc m_law) 557 = .ok (.invokestatic 101, 3) := by decide +kernel
theorem d_law_560 : decode (sk_cc m_law) 560 = .ok (.istore 5, 2) := by decide +kernel
theorem d_law_562 : decode (sk_cc m_law) 562 = .ok (.aload_n 2, 1) := by decide +kernel
theorem d_law_563 : decode (sk_cc m_law) 563 = .ok (.aload_n 0, 1) := by decide +kernel
theorem d_law_564 : decode (sk_cc m_law) 564 = .ok (.iload 4, 2) := by decide +kernel
theorem d_law_566 : decode (sk_cc m_law) 566 = .ok (.iconst 1, 1) := by decide +kernel
theorem d_law_567 : decode (sk_cc m_law) 567 = .ok (.iadd, 1) := by decide +kernel
theorem d_law_568 : decode (sk_cc m_law) 568 = .ok (.iaload, 1) := by decide +kernel
theorem d_law_569 : decode (sk_cc m_law) 569 = .ok (.aload_n 0, 1) := by decide +kernel
theorem d_law_570 : decode (sk_cc m_law) 570 = .ok (.iload 4, 2) := by decide +kernel
theorem d_law_572 : decode (sk_cc m_law) 572 = .ok (.iconst 2, 1) := by decide +kernel
theorem d_law_573 : decode (sk_cc m_law) 573 = .ok (.iadd, 1) := by decide +kernel
theorem d_law_574 : decode (sk_cc m_law) 574 = .ok (.iaload, 1) := by decide +kernel
theorem d_law_575 : decode (sk_cc m_law) 575 = .ok (.invokevirtual 104, 3) := by decide +kernel
theorem d_law_578 : decode (sk_cc m_law) 578 = .ok (.istore 6, 2) := by decide +kernel
theorem d_law_580 : decode (sk_cc m_law) 580 = .ok (.aload_n 2, 1) := by decide +kernel
theorem d_law_581 : decode (sk_cc m_law) 581 = .ok (.invokevirtual 78, 3) := by decide +kernel
theorem d_law_584 : decode (sk_cc m_law) 584 = .ok (.iload 5, 2) := by decide +kernel
theorem d_law_586 : decode (sk_cc m_law) 586 = .ok (.if_icmp .eq 5, 3) := by decide +kernel
theorem d_law_589 : decode (sk_cc m_law) 589 = .ok (.iconst 0, 1) := by decide +kernel
theorem d_law_590 : decode (sk_cc m_law) 590 = .ok (.ireturn, 1) := by decide +kernel
theorem d_law_591 : decode (sk_cc m_law) 591 = .ok (.iload 5, 2) := by decide +kernel
theorem d_law_593 : decode (sk_cc m_law) 593 = .ok (.ifCond .ne 15, 3) := by decide +kernel
theorem d_law_596 : decode (sk_cc m_law) 596 = .ok (.aload_n 3, 1) := by decide +kernel
theorem d_law_597 : decode (sk_cc m_law) 597 = .ok (.iconst 0, 1) := by decide +kernel
theorem d_law_598 : decode (sk_cc m_law) 598 = .ok (.laload, 1) := by decide +kernel
theorem d_law_599 : decode (sk_cc m_law) 599 = .ok (.iload 6, 2) := by decide +kernel
theorem d_law_601 : decode (sk_cc m_law) 601 = .ok (.i2l, 1) := by decide +kernel
theorem d_law_602 : decode (sk_cc m_law) 602 = .ok (.lcmp, 1) := by decide +kernel
theorem d_law_603 : decode (sk_cc m_law) 603 = .ok (.ifCond .eq 5, 3) := by decide +kernel
theorem d_law_606 : decode (sk_cc m_law) 606 = .ok (.iconst 0, 1) := by decide +kernel
theorem d_law_607 : decode (sk_cc m_law) 607 = .ok (.ireturn, 1) := by decide +kernel
theorem d_law_608 : decode (sk_cc m_law) 608 = .ok (.goto 566, 3) := by decide +kernel
theorem d_law_611 : decode (sk_cc m_law) 611 = .ok (.aload_n 1, 1) := by decide +kernel
theorem d_law_612 : decode (sk_cc m_law) 612 = .ok (.aload_n 0, 1) := by decide +kernel
theorem d_law_613 : decode (sk_cc m_law) 613 = .ok (.iload 4, 2) := by decide +kernel
theorem d_law_615 : decode (sk_cc m_law) 615 = .ok (.iconst 1, 1) := by decide +kernel
theorem d_law_616 : decode (sk_cc m_law) 616 = .ok (.iadd, 1) := by decide +kernel
theorem d_law_617 : decode (sk_cc m_law) 617 = .ok (.iaload, 1) := by decide +kernel
theorem d_law_618 : decode (sk_cc m_law) 618 = .ok (.aload_n 0, 1) := by decide +kernel
theorem d_law_619 : decode (sk_cc m_law) 619 = .ok (.iload 4, 2) := by decide +kernel
theorem d_law_621 : decode (sk_cc m_law) 621 = .ok (.iconst 2, 1) := by decide +kernel
theorem d_law_622 : decode (sk_cc m_law) 622 = .ok (.iadd, 1) := by decide +kernel
theorem d_law_623 : decode (sk_cc m_law) 623 = .ok (.iaload, 1) := by decide +kernel
theorem d_law_624 : decode (sk_cc m_law) 624 = .ok (.aload_n 0, 1) := by decide +kernel
theorem d_law_625 : decode (sk_cc m_law) 625 = .ok (.iload 4, 2) := by decide +kernel
theorem d_law_627 : decode (sk_cc m_law) 627 = .ok (.iconst 3, 1) := by decide +kernel
theorem d_law_628 : decode (sk_cc m_law) 628 = .ok (.iadd, 1) := by decide +kernel
theorem d_law_629 : decode (sk_cc m_law) 629 = .ok (.iaload, 1) := by decide +kernel
theorem d_law_630 : decode (sk_cc m_law) 630 = .ok (.invokevirtual 105, 3) := by decide +kernel
theorem d_law_633 : decode (sk_cc m_law) 633 = .ok (.aload_n 2, 1) := by decide +kernel
theorem d_law_634 : decode (sk_cc m_law) 634 = .ok (.aload_n 0, 1) := by decide +kernel
theorem d_law_635 : decode (sk_cc m_law) 635 = .ok (.iload 4, 2) := by decide +kernel
theorem d_law_637 : decode (sk_cc m_law) 637 = .ok (.iconst 1, 1) := by decide +kernel
theorem d_law_638 : decode (sk_cc m_law) 638 = .ok (.iadd, 1) := by decide +kernel
theorem d_law_639 : decode (sk_cc m_law) 639 = .ok (.iaload, 1) := by decide +kernel
theorem d_law_640 : decode (sk_cc m_law) 640 = .ok (.aload_n 0, 1) := by decide +kernel
theorem d_law_641 : decode (sk_cc m_law) 641 = .ok (.iload 4, 2) := by decide +kernel
theorem d_law_643 : decode (sk_cc m_law) 643 = .ok (.iconst 2, 1) := by decide +kernel
theorem d_law_644 : decode (sk_cc m_law) 644 = .ok (.iadd, 1) := by decide +kernel
theorem d_law_645 : decode (sk_cc m_law) 645 = .ok (.iaload, 1) := by decide +kernel
theorem d_law_646 : decode (sk_cc m_law) 646 = .ok (.aload_n 0, 1) := by decide +kernel
theorem d_law_647 : decode (sk_cc m_law) 647 = .ok (.iload 4, 2) := by decide +kernel
theorem d_law_649 : decode (sk_cc m_law) 649 = .ok (.iconst 3, 1) := by decide +kernel
theorem d_law_650 : decode (sk_cc m_law) 650 = .ok (.iadd, 1) := by decide +kernel
theorem d_law_651 : decode (sk_cc m_law) 651 = .ok (.iaload, 1) := by decide +kernel
theorem d_law_652 : decode (sk_cc m_law) 652 = .ok (.invokevirtual 108, 3) := by decide +kernel
theorem d_law_655 : decode (sk_cc m_law) 655 = .ok (.if_icmp .eq 519, 3) := by decide +kernel
theorem d_law_658 : decode (sk_cc m_law) 658 = .ok (.iconst 0, 1) := by decide +kernel
theorem d_law_659 : decode (sk_cc m_law) 659 = .ok (.ireturn, 1) := by decide +kernel
theorem d_law_660 : decode (sk_cc m_law) 660 = .ok (.aload_n 1, 1) := by decide +kernel
theorem d_law_661 : decode (sk_cc m_law) 661 = .ok (.aload_n 0, 1) := by decide +kernel
theorem d_law_662 : decode (sk_cc m_law) 662 = .ok (.iload 4, 2) := by decide +kernel
theorem d_law_664 : decode (sk_cc m_law) 664 = .ok (.iconst 1, 1) := by decide +kernel
theorem d_law_665 : decode (sk_cc m_law) 665 = .ok (.iadd, 1) := by decide +kernel
theorem d_law_666 : decode (sk_cc m_law) 666 = .ok (.iaload, 1) := by decide +kernel
theorem d_law_667 : decode (sk_cc m_law) 667 = .ok (.aload_n 0, 1) := by decide +kernel
theorem d_law_668 : decode (sk_cc m_law) 668 = .ok (.iload 4, 2) := by decide +kernel
theorem d_law_670 : decode (sk_cc m_law) 670 = .ok (.iconst 2, 1) := by decide +kernel
theorem d_law_671 : decode (sk_cc m_law) 671 = .ok (.iadd, 1) := by decide +kernel
theorem d_law_672 : decode (sk_cc m_law) 672 = .ok (.iaload, 1) := by decide +kernel
theorem d_law_673 : decode (sk_cc m_law) 673 = .ok (.aload_n 3, 1) := by decide +kernel
theorem d_law_674 : decode (sk_cc m_law) 674 = .ok (.invokestatic 109, 3) := by decide +kernel
theorem d_law_677 : decode (sk_cc m_law) 677 = .ok (.istore 5, 2) := by decide +kernel
theorem d_law_679 : decode (sk_cc m_law) 679 = .ok (.aload_n 2, 1) := by decide +kernel
theorem d_law_680 : decode (sk_cc m_law) 680 = .ok (.aload_n 0, 1) := by decide +kernel
theorem d_law_681 : decode (sk_cc m_law) 681 = .ok (.iload 4, 2) := by decide +kernel
theorem d_law_683 : decode (sk_cc m_law) 683 = .ok (.iconst 1, 1) := by decide +kernel
theorem d_law_684 : decode (sk_cc m_law) 684 = .ok (.iadd, 1) := by decide +kernel
theorem d_law_685 : decode (sk_cc m_law) 685 = .ok (.iaload, 1) := by decide +kernel
theorem d_law_686 : decode (sk_cc m_law) 686 = .ok (.aload_n 0, 1) := by decide +kernel
theorem d_law_687 : decode (sk_cc m_law) 687 = .ok (.iload 4, 2) := by decide +kernel
theorem d_law_689 : decode (sk_cc m_law) 689 = .ok (.iconst 2, 1) := by decide +kernel
theorem d_law_690 : decode (sk_cc m_law) 690 = .ok (.iadd, 1) := by decide +kernel
theorem d_law_691 : decode (sk_cc m_law) 691 = .ok (.iaload, 1) := by decide +kernel
theorem d_law_692 : decode (sk_cc m_law) 692 = .ok (.invokevirtual 111, 3) := by decide +kernel
theorem d_law_695 : decode (sk_cc m_law) 695 = .ok (.istore 6, 2) := by decide +kernel
theorem d_law_697 : decode (sk_cc m_law) 697 = .ok (.aload_n 2, 1) := by decide +kernel
theorem d_law_698 : decode (sk_cc m_law) 698 = .ok (.invokevirtual 78, 3) := by decide +kernel
theorem d_law_701 : decode (sk_cc m_law) 701 = .ok (.iload 5, 2) := by decide +kernel
theorem d_law_703 : decode (sk_cc m_law) 703 = .ok (.if_icmp .eq 5, 3) := by decide +kernel
theorem d_law_706 : decode (sk_cc m_law) 706 = .ok (.iconst 0, 1) := by decide +kernel
theorem d_law_707 : decode (sk_cc m_law) 707 = .ok (.ireturn, 1) := by decide +kernel
theorem d_law_708 : decode (sk_cc m_law) 708 = .ok (.iload 5, 2) := by decide +kernel
theorem d_law_710 : decode (sk_cc m_law) 710 = .ok (.ifCond .ne 15, 3) := by decide +kernel
theorem d_law_713 : decode (sk_cc m_law) 713 = .ok (.aload_n 3, 1) := by decide +kernel
theorem d_law_714 : decode (sk_cc m_law) 714 = .ok (.iconst 0, 1) := by decide +kernel
theorem d_law_715 : decode (sk_cc m_law) 715 = .ok (.laload, 1) := by decide +kernel
theorem d_law_716 : decode (sk_cc m_law) 716 = .ok (.iload 6, 2) := by decide +kernel
theorem d_law_718 : decode (sk_cc m_law) 718 = .ok (.i2l, 1) := by decide +kernel
theorem d_law_719 : decode (sk_cc m_law) 719 = .ok (.lcmp, 1) := by decide +kernel
theorem d_law_720 : decode (sk_cc m_law) 720 = .ok (.ifCond .eq 5, 3) := by decide +kernel
theorem d_law_723 : decode (sk_cc m_law) 723 = .ok (.iconst 0, 1) := by decide +kernel
theorem d_law_724 : decode (sk_cc m_law) 724 = .ok (.ireturn, 1) := by decide +kernel
theorem d_law_725 : decode (sk_cc m_law) 725 = .ok (.goto 449, 3) := by decide +kernel
theorem d_law_728 : decode (sk_cc m_law) 728 = .ok (.aload_n 1, 1) := by decide +kernel
theorem d_law_729 : decode (sk_cc m_law) 729 = .ok (.aload_n 0, 1) := by decide +kernel
theorem d_law_730 : decode (sk_cc m_law) 730 = .ok (.iload 4, 2) := by decide +kernel
theorem d_law_732 : decode (sk_cc m_law) 732 = .ok (.iconst 1, 1) := by decide +kernel
theorem d_law_733 : decode (sk_cc m_law) 733 = .ok (.iadd, 1) := by decide +kernel
theorem d_law_734 : decode (sk_cc m_law) 734 = .ok (.iaload, 1) := by decide +kernel
theorem d_law_735 : decode (sk_cc m_law) 735 = .ok (.aload_n 3, 1) := by decide +kernel
theorem d_law_736 : decode (sk_cc m_law) 736 = .ok (.invokestatic 112, 3) := by decide +kernel
theorem d_law_739 : decode (sk_cc m_law) 739 = .ok (.istore 5, 2) := by decide +kernel
theorem d_law_741 : decode (sk_cc m_law) 741 = .ok (.aload_n 2, 1) := by decide +kernel
theorem d_law_742 : decode (sk_cc m_law) 742 = .ok (.aload_n 0, 1) := by decide +kernel
theorem d_law_743 : decode (sk_cc m_law) 743 = .ok (.iload 4, 2) := by decide +kernel
theorem d_law_745 : decode (sk_cc m_law) 745 = .ok (.iconst 1, 1) := by decide +kernel
theorem d_law_746 : decode (sk_cc m_law) 746 = .ok (.iadd, 1) := by decide +kernel
theorem d_law_747 : decode (sk_cc m_law) 747 = .ok (.iaload, 1) := by decide +kernel
theorem d_law_748 : decode (sk_cc m_law) 748 = .ok (.invokevirtual 114, 3) := by decide +kernel
theorem d_law_751 : decode (sk_cc m_law) 751 = .ok (.istore 6, 2) := by decide +kernel
theorem d_law_753 : decode (sk_cc m_law) 753 = .ok (.aload_n 2, 1) := by decide +kernel
theorem d_law_754 : decode (sk_cc m_law) 754 = .ok (.invokevirtual 78, 3) := by decide +kernel
theorem d_law_757 : decode (sk_cc m_law) 757 = .ok (.iload 5, 2) := by decide +kernel
theorem d_law_759 : decode (sk_cc m_law) 759 = .ok (.if_icmp .eq 5, 3) := by decide +kernel
theorem d_law_762 : decode (sk_cc m_law) 762 = .ok (.iconst 0, 1) := by decide +kernel
theorem d_law_763 : decode (sk_cc m_law) 763 = .ok (.ireturn, 1) := by decide +kernel
theorem d_law_764 : decode (sk_cc m_law) 764 = .ok (.iload 5, 2) := by decide +kernel
theorem d_law_766 : decode (sk_cc m_law) 766 = .ok (.ifCond .ne 15, 3) := by decide +kernel
theorem d_law_769 : decode (sk_cc m_law) 769 = .ok (.aload_n 3, 1) := by decide +kernel
theorem d_law_770 : decode (sk_cc m_law) 770 = .ok (.iconst 0, 1) := by decide +kernel
theorem d_law_771 : decode (sk_cc m_law) 771 = .ok (.laload, 1) := by decide +kernel
theorem d_law_772 : decode (sk_cc m_law) 772 = .ok (.iload 6, 2) := by decide +kernel
theorem d_law_774 : decode (sk_cc m_law) 774 = .ok (.i2l, 1) := by decide +kernel
theorem d_law_775 : decode (sk_cc m_law) 775 = .ok (.lcmp, 1) := by decide +kernel
theorem d_law_776 : decode (sk_cc m_law) 776 = .ok (.ifCond .eq 5, 3) := by decide +kernel
theorem d_law_779 : decode (sk_cc m_law) 779 = .ok (.iconst 0, 1) := by decide +kernel
theorem d_law_780 : decode (sk_cc m_law) 780 = .ok (.ireturn, 1) := by decide +kernel
theorem d_law_781 : decode (sk_cc m_law) 781 = .ok (.goto 393, 3) := by decide +kernel
theorem d_law_784 : decode (sk_cc m_law) 784 = .ok (.aload_n 1, 1) := by decide +kernel
theorem d_law_785 : decode (sk_cc m_law) 785 = .ok (.aload_n 0, 1) := by decide +kernel
theorem d_law_786 : decode (sk_cc m_law) 786 = .ok (.iload 4, 2) := by decide +kernel
theorem d_law_788 : decode (sk_cc m_law) 788 = .ok (.iconst 1, 1) := by decide +kernel
theorem d_law_789 : decode (sk_cc m_law) 789 = .ok (.iadd, 1) := by decide +kernel
theorem d_law_790 : decode (sk_cc m_law) 790 = .ok (.iaload, 1) := by decide +kernel
theorem d_law_791 : decode (sk_cc m_law) 791 = .ok (.aload_n 3, 1) := by decide +kernel
theorem d_law_792 : decode (sk_cc m_law) 792 = .ok (.invokestatic 115, 3) := by decide +kernel
theorem d_law_795 : decode (sk_cc m_law) 795 = .ok (.istore 5, 2) := by decide +kernel
theorem d_law_797 : decode (sk_cc m_law) 797 = .ok (.aload_n 2, 1) := by decide +kernel
theorem d_law_798 : decode (sk_cc m_law) 798 = .ok (.aload_n 0, 1) := by decide +kernel
theorem d_law_799 : decode (sk_cc m_law) 799 = .ok (.iload 4, 2) := by decide +kernel
theorem d_law_801 : decode (sk_cc m_law) 801 = .ok (.iconst 1, 1) := by decide +kernel
theorem d_law_802 : decode (sk_cc m_law) 802 = .ok (.iadd, 1) := by decide +kernel
theorem d_law_803 : decode (sk_cc m_law) 803 = .ok (.iaload, 1) := by decide +kernel
theorem d_law_804 : decode (sk_cc m_law) 804 = .ok (.invokevirtual 117, 3) := by decide +kernel
theorem d_law_807 : decode (sk_cc m_law) 807 = .ok (.lstore 6, 2) := by decide +kernel
theorem d_law_809 : decode (sk_cc m_law) 809 = .ok (.aload_n 2, 1) := by decide +kernel
theorem d_law_810 : decode (sk_cc m_law) 810 = .ok (.invokevirtual 78, 3) := by decide +kernel
theorem d_law_813 : decode (sk_cc m_law) 813 = .ok (.iload 5, 2) := by decide +kernel
theorem d_law_815 : decode (sk_cc m_law) 815 = .ok (.if_icmp .eq 5, 3) := by decide +kernel
theorem d_law_818 : decode (sk_cc m_law) 818 = .ok (.iconst 0, 1) := by decide +kernel
theorem d_law_819 : decode (sk_cc m_law) 819 = .ok (.ireturn, 1) := by decide +kernel
theorem d_law_820 : decode (sk_cc m_law) 820 = .ok (.iload 5, 2) := by decide +kernel
theorem d_law_822 : decode (sk_cc m_law) 822 = .ok (.ifCond .ne 14, 3) := by decide +kernel
theorem d_law_825 : decode (sk_cc m_law) 825 = .ok (.aload_n 3, 1) := by decide +kernel
theorem d_law_826 : decode (sk_cc m_law) 826 = .ok (.iconst 0, 1) := by decide +kernel
theorem d_law_827 : decode (sk_cc m_law) 827 = .ok (.laload, 1) := by decide +kernel
theorem d_law_828 : decode (sk_cc m_law) 828 = .ok (.lload 6, 2) := by decide +kernel
theorem d_law_830 : decode (sk_cc m_law) 830 = .ok (.lcmp, 1) := by decide +kernel
theorem d_law_831 : decode (sk_cc m_law) 831 = .ok (.ifCond .eq 5, 3) := by decide +kernel
theorem d_law_834 : decode (sk_cc m_law) 834 = .ok (.iconst 0, 1) := by decide +kernel
theorem d_law_835 : decode (sk_cc m_law) 835 = .ok (.ireturn, 1) := by decide +kernel
theorem d_law_836 : decode (sk_cc m_law) 836 = .ok (.goto 338, 3) := by decide +kernel
theorem d_law_839 : decode (sk_cc m_law) 839 = .ok (.aload_n 1, 1) := by decide +kernel
theorem d_law_840 : decode (sk_cc m_law) 840 = .ok (.aload_n 0, 1) := by decide +kernel
theorem d_law_841 : decode (sk_cc m_law) 841 = .ok (.iload 4, 2) := by decide +kernel
theorem d_law_843 : decode (sk_cc m_law) 843 = .ok (.iconst 1, 1) := by decide +kernel
theorem d_law_844 : decode (sk_cc m_law) 844 = .ok (.iadd, 1) := by decide +kernel
theorem d_law_845 : decode (sk_cc m_law) 845 = .ok (.iaload, 1) := by decide +kernel
theorem d_law_846 : decode (sk_cc m_law) 846 = .ok (.aload_n 3, 1) := by decide +kernel
theorem d_law_847 : decode (sk_cc m_law) 847 = .ok (.invokestatic 118, 3) := by decide +kernel
theorem d_law_850 : decode (sk_cc m_law) 850 = .ok (.istore 5, 2) := by decide +kernel
theorem d_law_852 : decode (sk_cc m_law) 852 = .ok (.aload_n 2, 1) := by decide +kernel
theorem d_law_853 : decode (sk_cc m_law) 853 = .ok (.aload_n 0, 1) := by decide +kernel
theorem d_law_854 : decode (sk_cc m_law) 854 = .ok (.iload 4, 2) := by decide +kernel
theorem d_law_856 : decode (sk_cc m_law) 856 = .ok (.iconst 1, 1) := by decide +kernel
theorem d_law_857 : decode (sk_cc m_law) 857 = .ok (.iadd, 1) := by decide +kernel
theorem d_law_858 : decode (sk_cc m_law) 858 = .ok (.iaload, 1) := by decide +kernel
theorem d_law_859 : decode (sk_cc m_law) 859 = .ok (.invokevirtual 120, 3) := by decide +kernel
theorem d_law_862 : decode (sk_cc m_law) 862 = .ok (.istore 6, 2) := by decide +kernel
theorem d_law_864 : decode (sk_cc m_law) 864 = .ok (.aload_n 2, 1) := by decide +kernel
theorem d_law_865 : decode (sk_cc m_law) 865 = .ok (.invokevirtual 78, 3) := by decide +kernel
theorem d_law_868 : decode (sk_cc m_law) 868 = .ok (.iload 5, 2) := by decide +kernel
theorem d_law_870 : decode (sk_cc m_law) 870 = .ok (.if_icmp .eq 5, 3) := by decide +kernel
theorem d_law_873 : decode (sk_cc m_law) 873 = .ok (.iconst 0, 1) := by decide +kernel
theorem d_law_874 : decode (sk_cc m_law) 874 = .ok (.ireturn, 1) := by decide +kernel
theorem d_law_875 : decode (sk_cc m_law) 875 = .ok (.iload 5, 2) := by decide +kernel
theorem d_law_877 : decode (sk_cc m_law) 877 = .ok (.ifCond .ne 15, 3) := by decide +kernel
theorem d_law_880 : decode (sk_cc m_law) 880 = .ok (.aload_n 3, 1) := by decide +kernel
theorem d_law_881 : decode (sk_cc m_law) 881 = .ok (.iconst 0, 1) := by decide +kernel
theorem d_law_882 : decode (sk_cc m_law) 882 = .ok (.laload, 1) := by decide +kernel
theorem d_law_883 : decode (sk_cc m_law) 883 = .ok (.iload 6, 2) := by decide +kernel
theorem d_law_885 : decode (sk_cc m_law) 885 = .ok (.i2l, 1) := by decide +kernel
theorem d_law_886 : decode (sk_cc m_law) 886 = .ok (.lcmp, 1) := by decide +kernel
theorem d_law_887 : decode (sk_cc m_law) 887 = .ok (.ifCond .eq 5, 3) := by decide +kernel
theorem d_law_890 : decode (sk_cc m_law) 890 = .ok (.iconst 0, 1) := by decide +kernel
theorem d_law_891 : decode (sk_cc m_law) 891 = .ok (.ireturn, 1) := by decide +kernel
theorem d_law_892 : decode (sk_cc m_law) 892 = .ok (.goto 282, 3) := by decide +kernel
theorem d_law_895 : decode (sk_cc m_law) 895 = .ok (.aload_n 1, 1) := by decide +kernel
theorem d_law_896 : decode (sk_cc m_law) 896 = .ok (.aload_n 0, 1) := by decide +kernel
theorem d_law_897 : decode (sk_cc m_law) 897 = .ok (.iload 4, 2) := by decide +kernel
theorem d_law_899 : decode (sk_cc m_law) 899 = .ok (.iconst 1, 1) := by decide +kernel
theorem d_law_900 : decode (sk_cc m_law) 900 = .ok (.iadd, 1) := by decide +kernel
theorem d_law_901 : decode (sk_cc m_law) 901 = .ok (.iaload, 1) := by decide +kernel
theorem d_law_902 : decode (sk_cc m_law) 902 = .ok (.aload_n 0, 1) := by decide +kernel
theorem d_law_903 : decode (sk_cc m_law) 903 = .ok (.iload 4, 2) := by decide +kernel
theorem d_law_905 : decode (sk_cc m_law) 905 = .ok (.iconst 2, 1) := by decide +kernel
theorem d_law_906 : decode (sk_cc m_law) 906 = .ok (.iadd, 1) := by decide +kernel
theorem d_law_907 : decode (sk_cc m_law) 907 = .ok (.iaload, 1) := by decide +kernel
theorem d_law_908 : decode (sk_cc m_law) 908 = .ok (.aload_n 0, 1) := by decide +kernel
theorem d_law_909 : decode (sk_cc m_law) 909 = .ok (.iload 4, 2) := by decide +kernel
theorem d_law_911 : decode (sk_cc m_law) 911 = .ok (.iconst 3, 1) := by decide +kernel
theorem d_law_912 : decode (sk_cc m_law) 912 = .ok (.iadd, 1) := by decide +kernel
theorem d_law_913 : decode (sk_cc m_law) 913 = .ok (.iaload, 1) := by decide +kernel
theorem d_law_914 : decode (sk_cc m_law) 914 = .ok (.aload_n 0, 1) := by decide +kernel
theorem d_law_915 : decode (sk_cc m_law) 915 = .ok (.iload 4, 2) := by decide +kernel
theorem d_law_917 : decode (sk_cc m_law) 917 = .ok (.iconst 4, 1) := by decide +kernel
theorem d_law_918 : decode (sk_cc m_law) 918 = .ok (.iadd, 1) := by decide +kernel
theorem d_law_919 : decode (sk_cc m_law) 919 = .ok (.iaload, 1) := by decide +kernel
theorem d_law_920 : decode (sk_cc m_law) 920 = .ok (.aload_n 3, 1) := by decide +kernel
theorem d_law_921 : decode (sk_cc m_law) 921 = .ok (.invokestatic 121, 3) := by decide +kernel
theorem d_law_924 : decode (sk_cc m_law) 924 = .ok (.istore 5, 2) := by decide +kernel
theorem d_law_926 : decode (sk_cc m_law) 926 = .ok (.aload_n 2, 1) := by decide +kernel
theorem d_law_927 : decode (sk_cc m_law) 927 = .ok (.aload_n 0, 1) := by decide +kernel
theorem d_law_928 : decode (sk_cc m_law) 928 = .ok (.iload 4, 2) := by decide +kernel
theorem d_law_930 : decode (sk_cc m_law) 930 = .ok (.iconst 1, 1) := by decide +kernel
theorem d_law_931 : decode (sk_cc m_law) 931 = .ok (.iadd, 1) := by decide +kernel
theorem d_law_932 : decode (sk_cc m_law) 932 = .ok (.iaload, 1) := by decide +kernel
theorem d_law_933 : decode (sk_cc m_law) 933 = .ok (.aload_n 0, 1) := by decide +kernel
theorem d_law_934 : decode (sk_cc m_law) 934 = .ok (.iload 4, 2) := by decide +kernel
theorem d_law_936 : decode (sk_cc m_law) 936 = .ok (.iconst 2, 1) := by decide +kernel
theorem d_law_937 : decode (sk_cc m_law) 937 = .ok (.iadd, 1) := by decide +kernel
theorem d_law_938 : decode (sk_cc m_law) 938 = .ok (.iaload, 1) := by decide +kernel
theorem d_law_939 : decode (sk_cc m_law) 939 = .ok (.aload_n 0, 1) := by decide +kernel
theorem d_law_940 : decode (sk_cc m_law) 940 = .ok (.iload 4, 2) := by decide +kernel
theorem d_law_942 : decode (sk_cc m_law) 942 = .ok (.iconst 3, 1) := by decide +kernel
theorem d_law_943 : decode (sk_cc m_law) 943 = .ok (.iadd, 1) := by decide +kernel
theorem d_law_944 : decode (sk_cc m_law) 944 = .ok (.iaload, 1) := by decide +kernel
theorem d_law_945 : decode (sk_cc m_law) 945 = .ok (.aload_n 0, 1) := by decide +kernel
theorem d_law_946 : decode (sk_cc m_law) 946 = .ok (.iload 4, 2) := by decide +kernel
theorem d_law_948 : decode (sk_cc m_law) 948 = .ok (.iconst 4, 1) := by decide +kernel
theorem d_law_949 : decode (sk_cc m_law) 949 = .ok (.iadd, 1) := by decide +kernel
theorem d_law_950 : decode (sk_cc m_law) 950 = .ok (.iaload, 1) := by decide +kernel
theorem d_law_951 : decode (sk_cc m_law) 951 = .ok (.invokevirtual 123, 3) := by decide +kernel
theorem d_law_954 : decode (sk_cc m_law) 954 = .ok (.istore 6, 2) := by decide +kernel
theorem d_law_956 : decode (sk_cc m_law) 956 = .ok (.aload_n 2, 1) := by decide +kernel
theorem d_law_957 : decode (sk_cc m_law) 957 = .ok (.invokevirtual 78, 3) := by decide +kernel
theorem d_law_960 : decode (sk_cc m_law) 960 = .ok (.iload 5, 2) := by decide +kernel
theorem d_law_962 : decode (sk_cc m_law) 962 = .ok (.if_icmp .eq 5, 3) := by decide +kernel
theorem d_law_965 : decode (sk_cc m_law) 965 = .ok (.iconst 0, 1) := by decide +kernel
theorem d_law_966 : decode (sk_cc m_law) 966 = .ok (.ireturn, 1) := by decide +kernel
theorem d_law_967 : decode (sk_cc m_law) 967 = .ok (.iload 5, 2) := by decide +kernel
theorem d_law_969 : decode (sk_cc m_law) 969 = .ok (.ifCond .ne 15, 3) := by decide +kernel
theorem d_law_972 : decode (sk_cc m_law) 972 = .ok (.aload_n 3, 1) := by decide +kernel
theorem d_law_973 : decode (sk_cc m_law) 973 = .ok (.iconst 0, 1) := by decide +kernel
theorem d_law_974 : decode (sk_cc m_law) 974 = .ok (.laload, 1) := by decide +kernel
theorem d_law_975 : decode (sk_cc m_law) 975 = .ok (.iload 6, 2) := by decide +kernel
theorem d_law_977 : decode (sk_cc m_law) 977 = .ok (.i2l, 1) := by decide +kernel
theorem d_law_978 : decode (sk_cc m_law) 978 = .ok (.lcmp, 1) := by decide +kernel
theorem d_law_979 : decode (sk_cc m_law) 979 = .ok (.ifCond .eq 5, 3) := by decide +kernel
theorem d_law_982 : decode (sk_cc m_law) 982 = .ok (.iconst 0, 1) := by decide +kernel
theorem d_law_983 : decode (sk_cc m_law) 983 = .ok (.ireturn, 1) := by decide +kernel
theorem d_law_984 : decode (sk_cc m_law) 984 = .ok (.goto 190, 3) := by decide +kernel
theorem d_law_987 : decode (sk_cc m_law) 987 = .ok (.aload_n 1, 1) := by decide +kernel
theorem d_law_988 : decode (sk_cc m_law) 988 = .ok (.aload_n 0, 1) := by decide +kernel
theorem d_law_989 : decode (sk_cc m_law) 989 = .ok (.iload 4, 2) := by decide +kernel
theorem d_law_991 : decode (sk_cc m_law) 991 = .ok (.iconst 1, 1) := by decide +kernel
theorem d_law_992 : decode (sk_cc m_law) 992 = .ok (.iadd, 1) := by decide +kernel
theorem d_law_993 : decode (sk_cc m_law) 993 = .ok (.iaload, 1) := by decide +kernel
theorem d_law_994 : decode (sk_cc m_law) 994 = .ok (.aload_n 3, 1) := by decide +kernel
theorem d_law_995 : decode (sk_cc m_law) 995 = .ok (.invokestatic 124, 3) := by decide +kernel
theorem d_law_998 : decode (sk_cc m_law) 998 = .ok (.istore 5, 2) := by decide +kernel
theorem d_law_1000 : decode (sk_cc m_law) 1000 = .ok (.aload_n 2, 1) := by decide +kernel
theorem d_law_1001 : decode (sk_cc m_law) 1001 = .ok (.aload_n 0, 1) := by decide +kernel
theorem d_law_1002 : decode (sk_cc m_law) 1002 = .ok (.iload 4, 2) := by decide +kernel
theorem d_law_1004 : decode (sk_cc m_law) 1004 = .ok (.iconst 1, 1) := by decide +kernel
theorem d_law_1005 : decode (sk_cc m_law) 1005 = .ok (.iadd, 1) := by decide +kernel
theorem d_law_1006 : decode (sk_cc m_law) 1006 = .ok (.iaload, 1) := by decide +kernel
theorem d_law_1007 : decode (sk_cc m_law) 1007 = .ok (.invokevirtual 126, 3) := by decide +kernel
theorem d_law_1010 : decode (sk_cc m_law) 1010 = .ok (.istore 6, 2) := by decide +kernel
theorem d_law_1012 : decode (sk_cc m_law) 1012 = .ok (.aload_n 2, 1) := by decide +kernel
theorem d_law_1013 : decode (sk_cc m_law) 1013 = .ok (.invokevirtual 78, 3) := by decide +kernel
theorem d_law_1016 : decode (sk_cc m_law) 1016 = .ok (.iload 5, 2) := by decide +kernel
theorem d_law_1018 : decode (sk_cc m_law) 1018 = .ok (.if_icmp .eq 5, 3) := by decide +kernel
theorem d_law_1021 : decode (sk_cc m_law) 1021 = .ok (.iconst 0, 1) := by decide +kernel
theorem d_law_1022 : decode (sk_cc m_law) 1022 = .ok (.ireturn, 1) := by decide +kernel
theorem d_law_1023 : decode (sk_cc m_law) 1023 = .ok (.iload 5, 2) := by decide +kernel
theorem d_law_1025 : decode (sk_cc m_law) 1025 = .ok (.ifCond .ne 15, 3) := by decide +kernel
theorem d_law_1028 : decode (sk_cc m_law) 1028 = .ok (.aload_n 3, 1) := by decide +kernel
theorem d_law_1029 : decode (sk_cc m_law) 1029 = .ok (.iconst 0, 1) := by decide +kernel
theorem d_law_1030 : decode (sk_cc m_law) 1030 = .ok (.laload, 1) := by decide +kernel
theorem d_law_1031 : decode (sk_cc m_law) 1031 = .ok (.iload 6, 2) := by decide +kernel
theorem d_law_1033 : decode (sk_cc m_law) 1033 = .ok (.i2l, 1) := by decide +kernel
theorem d_law_1034 : decode (sk_cc m_law) 1034 = .ok (.lcmp, 1) := by decide +kernel
theorem d_law_1035 : decode (sk_cc m_law) 1035 = .ok (.ifCond .eq 5, 3) := by decide +kernel
theorem d_law_1038 : decode (sk_cc m_law) 1038 = .ok (.iconst 0, 1) := by decide +kernel
theorem d_law_1039 : decode (sk_cc m_law) 1039 = .ok (.ireturn, 1) := by decide +kernel
theorem d_law_1040 : decode (sk_cc m_law) 1040 = .ok (.goto 134, 3) := by decide +kernel
theorem d_law_1043 : decode (sk_cc m_law) 1043 = .ok (.aload_n 1, 1) := by decide +kernel
theorem d_law_1044 : decode (sk_cc m_law) 1044 = .ok (.aload_n 0, 1) := by decide +kernel
theorem d_law_1045 : decode (sk_cc m_law) 1045 = .ok (.iload 4, 2) := by decide +kernel
theorem d_law_1047 : decode (sk_cc m_law) 1047 = .ok (.iconst 1, 1) := by decide +kernel
theorem d_law_1048 : decode (sk_cc m_law) 1048 = .ok (.iadd, 1) := by decide +kernel
theorem d_law_1049 : decode (sk_cc m_law) 1049 = .ok (.iaload, 1) := by decide +kernel
theorem d_law_1050 : decode (sk_cc m_law) 1050 = .ok (.invokevirtual 127, 3) := by decide +kernel
theorem d_law_1053 : decode (sk_cc m_law) 1053 = .ok (.aload_n 2, 1) := by decide +kernel
theorem d_law_1054 : decode (sk_cc m_law) 1054 = .ok (.aload_n 0, 1) := by decide +kernel
theorem d_law_1055 : decode (sk_cc m_law) 1055 = .ok (.iload 4, 2) := by decide +kernel
theorem d_law_1057 : decode (sk_cc m_law) 1057 = .ok (.iconst 1, 1) := by decide +kernel
theorem d_law_1058 : decode (sk_cc m_law) 1058 = .ok (.iadd, 1) := by decide +kernel
theorem d_law_1059 : decode (sk_cc m_law) 1059 = .ok (.iaload, 1) := by decide +kernel
theorem d_law_1060 : decode (sk_cc m_law) 1060 = .ok (.invokevirtual 130, 3) := by decide +kernel
theorem d_law_1063 : decode (sk_cc m_law) 1063 = .ok (.if_icmp .eq 111, 3) := by decide +kernel
theorem d_law_1066 : decode (sk_cc m_law) 1066 = .ok (.iconst 0, 1) := by decide +kernel
theorem d_law_1067 : decode (sk_cc m_law) 1067 = .ok (.ireturn, 1) := by decide +kernel
theorem d_law_1068 : decode (sk_cc m_law) 1068 = .ok (.aload_n 1, 1) := by decide +kernel
theorem d_law_1069 : decode (sk_cc m_law) 1069 = .ok (.aload_n 0, 1) := by decide +kernel
theorem d_law_1070 : decode (sk_cc m_law) 1070 = .ok (.iload 4, 2) := by decide +kernel
theorem d_law_1072 : decode (sk_cc m_law) 1072 = .ok (.iconst 1, 1) := by decide +kernel
theorem d_law_1073 : decode (sk_cc m_law) 1073 = .ok (.iadd, 1) := by decide +kernel
theorem d_law_1074 : decode (sk_cc m_law) 1074 = .ok (.iaload, 1) := by decide +kernel
theorem d_law_1075 : decode (sk_cc m_law) 1075 = .ok (.aload_n 0, 1) := by decide +kernel
theorem d_law_1076 : decode (sk_cc m_law) 1076 = .ok (.iload 4, 2) := by decide +kernel
theorem d_law_1078 : decode (sk_cc m_law) 1078 = .ok (.iconst 2, 1) := by decide +kernel
theorem d_law_1079 : decode (sk_cc m_law) 1079 = .ok (.iadd, 1) := by decide +kernel
theorem d_law_1080 : decode (sk_cc m_law) 1080 = .ok (.iaload, 1) := by decide +kernel
theorem d_law_1081 : decode (sk_cc m_law) 1081 = .ok (.aload_n 3, 1) := by decide +kernel
theorem d_law_1082 : decode (sk_cc m_law) 1082 = .ok (.invokestatic 131, 3) := by decide +kernel
theorem d_law_1085 : decode (sk_cc m_law) 1085 = .ok (.istore 5, 2) := by decide +kernel
theorem d_law_1087 : decode (sk_cc m_law) 1087 = .ok (.aload_n 2, 1) := by decide +kernel
theorem d_law_1088 : decode (sk_cc m_law) 1088 = .ok (.aload_n 0, 1) := by decide +kernel
theorem d_law_1089 : decode (sk_cc m_law) 1089 = .ok (.iload 4, 2) := by decide +kernel
theorem d_law_1091 : decode (sk_cc m_law) 1091 = .ok (.iconst 1, 1) := by decide +kernel
theorem d_law_1092 : decode (sk_cc m_law) 1092 = .ok (.iadd, 1) := by decide +kernel
theorem d_law_1093 : decode (sk_cc m_law) 1093 = .ok (.iaload, 1) := by decide +kernel
theorem d_law_1094 : decode (sk_cc m_law) 1094 = .ok (.aload_n 0, 1) := by decide +kernel
theorem d_law_1095 : decode (sk_cc m_law) 1095 = .ok (.iload 4, 2) := by decide +kernel
theorem d_law_1097 : decode (sk_cc m_law) 1097 = .ok (.iconst 2, 1) := by decide +kernel
theorem d_law_1098 : decode (sk_cc m_law) 1098 = .ok (.iadd, 1) := by decide +kernel
theorem d_law_1099 : decode (sk_cc m_law) 1099 = .ok (.iaload, 1) := by decide +kernel
theorem d_law_1100 : decode (sk_cc m_law) 1100 = .ok (.invokevirtual 133, 3) := by decide +kernel
theorem d_law_1103 : decode (sk_cc m_law) 1103 = .ok (.istore 6, 2) := by decide +kernel
theorem d_law_1105 : decode (sk_cc m_law) 1105 = .ok (.aload_n 2, 1) := by decide +kernel
theorem d_law_1106 : decode (sk_cc m_law) 1106 = .ok (.invokevirtual 78, 3) := by decide +kernel
theorem d_law_1109 : decode (sk_cc m_law) 1109 = .ok (.iload 5, 2) := by decide +kernel
theorem d_law_1111 : decode (sk_cc m_law) 1111 = .ok (.if_icmp .eq 5, 3) := by decide +kernel
theorem d_law_1114 : decode (sk_cc m_law) 1114 = .ok (.iconst 0, 1) := by decide +kernel
theorem d_law_1115 : decode (sk_cc m_law) 1115 = .ok (.ireturn, 1) := by decide +kernel
theorem d_law_1116 : decode (sk_cc m_law) 1116 = .ok (.iload 5, 2) := by decide +kernel
theorem d_law_1118 : decode (sk_cc m_law) 1118 = .ok (.ifCond .ne 15, 3) := by decide +kernel
theorem d_law_1121 : decode (sk_cc m_law) 1121 = .ok (.aload_n 3, 1) := by decide +kernel
theorem d_law_1122 : decode (sk_cc m_law) 1122 = .ok (.iconst 0, 1) := by decide +kernel
theorem d_law_1123 : decode (sk_cc m_law) 1123 = .ok (.laload, 1) := by decide +kernel
theorem d_law_1124 : decode (sk_cc m_law) 1124 = .ok (.iload 6, 2) := by decide +kernel
theorem d_law_1126 : decode (sk_cc m_law) 1126 = .ok (.i2l, 1) := by decide +kernel
theorem d_law_1127 : decode (sk_cc m_law) 1127 = .ok (.lcmp, 1) := by decide +kernel
theorem d_law_1128 : decode (sk_cc m_law) 1128 = .ok (.ifCond .eq 5, 3) := by decide +kernel
theorem d_law_1131 : decode (sk_cc m_law) 1131 = .ok (.iconst 0, 1) := by decide +kernel
theorem d_law_1132 : decode (sk_cc m_law) 1132 = .ok (.ireturn, 1) := by decide +kernel
theorem d_law_1133 : decode (sk_cc m_law) 1133 = .ok (.goto 41, 3) := by decide +kernel
theorem d_law_1136 : decode (sk_cc m_law) 1136 = .ok (.aload_n 1, 1) := by decide +kernel
theorem d_law_1137 : decode (sk_cc m_law) 1137 = .ok (.invokevirtual 134, 3) := by decide +kernel
theorem d_law_1140 : decode (sk_cc m_law) 1140 = .ok (.aload_n 2, 1) := by decide +kernel
theorem d_law_1141 : decode (sk_cc m_law) 1141 = .ok (.invokevirtual 137, 3) := by decide +kernel
theorem d_law_1144 : decode (sk_cc m_law) 1144 = .ok (.if_icmp .eq 30, 3) := by decide +kernel
theorem d_law_1147 : decode (sk_cc m_law) 1147 = .ok (.iconst 0, 1) := by decide +kernel
theorem d_law_1148 : decode (sk_cc m_law) 1148 = .ok (.ireturn, 1) := by decide +kernel
theorem d_law_1149 : decode (sk_cc m_law) 1149 = .ok (.aload_n 1, 1) := by decide +kernel
theorem d_law_1150 : decode (sk_cc m_law) 1150 = .ok (.aload_n 0, 1) := by decide +kernel
theorem d_law_1151 : decode (sk_cc m_law) 1151 = .ok (.iload 4, 2) := by decide +kernel
theorem d_law_1153 : decode (sk_cc m_law) 1153 = .ok (.iconst 1, 1) := by decide +kernel
theorem d_law_1154 : decode (sk_cc m_law) 1154 = .ok (.iadd, 1) := by decide +kernel
theorem d_law_1155 : decode (sk_cc m_law) 1155 = .ok (.iaload, 1) := by decide +kernel
theorem d_law_1156 : decode (sk_cc m_law) 1156 = .ok (.invokevirtual 138, 3) := by decide +kernel
theorem d_law_1159 : decode (sk_cc m_law) 1159 = .ok (.aload_n 2, 1) := by decide +kernel
theorem d_law_1160 : decode (sk_cc m_law) 1160 = .ok (.aload_n 0, 1) := by decide +kernel
theorem d_law_1161 : decode (sk_cc m_law) 1161 = .ok (.iload 4, 2) := by decide +kernel
theorem d_law_1163 : decode (sk_cc m_law) 1163 = .ok (.iconst 1, 1) := by decide +kernel
theorem d_law_1164 : decode (sk_cc m_law) 1164 = .ok (.iadd, 1) := by decide +kernel
theorem d_law_1165 : decode (sk_cc m_law) 1165 = .ok (.iaload, 1) := by decide +kernel
theorem d_law_1166 : decode (sk_cc m_law) 1166 = .ok (.invokevirtual 141, 3) := by decide +kernel
theorem d_law_1169 : decode (sk_cc m_law) 1169 = .ok (.if_icmp .eq 5, 3) := by decide +kernel
theorem d_law_1172 : decode (sk_cc m_law) 1172 = .ok (.iconst 0, 1) := by decide +kernel
theorem d_law_1173 : decode (sk_cc m_law) 1173 = .ok (.ireturn, 1) := by decide +kernel
theorem d_law_1174 : decode (sk_cc m_law) 1174 = .ok (.iinc 4 5, 3) := by decide +kernel
theorem d_law_1177 : decode (sk_cc m_law) 1177 = .ok (.goto (-1154), 3) := by decide +kernel
theorem d_law_1180 : decode (sk_cc m_law) 1180 = .ok (.iconst 1, 1) := by decide +kernel
theorem d_law_1181 : decode (sk_cc m_law) 1181 = .ok (.ireturn, 1) := by decide +kernel
end
section
theorem sk_law_walk {Γ : sk_T} (hL : sk_len Γ ≤ 2560) : sk_W Γ m_law 1101 25936 0 [(0, .ref sk_scr)] [] sk_g0 sk_i0 sk_j0 0 0 (fun r _ _ _ => r = .inl (some (.int 1))) := by
  sorry
end
section
/-- the law in small: to be proved in the parts before -/
theorem whole_start {p : Program} {e : Env} {s : State} {m : MethodId} {below : List Frame} {meth : Method} {c : Code} (l : Launch) (hst : l.stackTraces = false) (htab : c.exceptionTable.toList = []) (hnm : meth.name = "law") {b L : Nat} {xs : Nat → Int32} (hL : L ≤ 2560) (C0 : lw_At p s m meth c b L xs) : W p l e room_1 s m #[Value.ref b] below meth c s.heap [] 0 0 (lw_Z below #[Value.ref b] s) (entryFrame m ([Value.ref b] : List Value).toArray 8) := by
  obtain ⟨Γ, rfl, rfl, rfl, hb, had, hC, hH⟩ := sk_start hst htab hnm C0
  subst had
  have K := sk_law_walk (Γ := Γ) hL p e s m _ below meth c s.heap [] _ hC hH va_S.rf (lv_entry ([Value.ref (sk_ad Γ sk_scr)]) (n := 8) (Nat.le_of_ble_eq_true rfl))
  rw [lg_entry_eq]
  intro T hT X
  obtain ⟨t, a1, o, b1, b2, b3⟩ := K T hT X
  refine ⟨t, a1, o, b1, b2, ?_⟩
  rcases b3 with ⟨⟨r, g', I', J', hr, hQ, -, -⟩, L9, ⟨hv, hW, hsm⟩, hL9⟩ | ⟨q, E, ce, g', I', J', L9, -, hQ, -⟩
  · have hr1 : r = some (.int 1) := Sum.inl.inj hQ
    subst hr1
    refine ⟨hr, hv, hW, ?_⟩
    obtain ⟨q1, q2, q3, q4, q5, q6⟩ := hsm
    refine ⟨q1, q2, q3, q4, q5, fun a c9 h9 => ?_⟩
    obtain ⟨c', z1, z2, z3, z4⟩ := q6 a c9 h9
    refine ⟨c', z1, z2, z3, fun i _ => z4 i (fun hm => ?_)⟩
    have h5 := hL9 _ hm
    have h6 : a < s.heap.size := (Array.getElem?_eq_some_iff.mp h9).1
    unfold sk_A at h5
    rw [hb] at h5
    exact Nat.not_le.mpr h6 h5
  · cases hQ
set_option maxHeartbeats 4000000 in
theorem lw_walk (l : Launch) (hst : l.stackTraces = false) (b : Addr) (xs : List Int32) : MetFree l x (headSpec (Jvm.Cond.code x code maxLocals ret :: tables_1) room_1) (lw_P b xs) (fun _ _ _ _ _ => True) lw_Q := by
  refine MetFree.of_bodyS (code := code) (maxLocals := maxLocals) (ret := ret) (by decide) ?_ ?_
  · intro args s m h hn
    obtain ⟨meth, c, h1, h2, h3, h4, h5, h6, -, -⟩ := Cond.code_spec hn (atoms_spec (ws := Jvm.Cond.code x code maxLocals ret :: tables_1) h _ List.mem_cons_self)
    exact ⟨meth, c, h1, h2, h3, h4, h5, h6⟩
  · intro p e s m args below meth c s₁ B hml0 hP _
    obtain ⟨rfl, hx, hbd, hgv⟩ := hP
    obtain ⟨scr, harrAt, hlist, hof, hsmall⟩ := hx
    obtain ⟨hcb, hkn, -, -⟩ := State.arrayAt?_spec harrAt
    have hown : s.vm.findClass R_law = some m.cls := findClass_of_methodNamed B.named
    have hts0 : ∀ c ∈ (Jvm.Cond.code x code maxLocals ret :: tables_1), c.before #[Value.ref b] s = true := atoms_spec (ws := Jvm.Cond.code x code maxLocals ret :: tables_1) B.pre
    have hts : ∀ w ∈ lw_tbl, w.before #[Value.ref b] s = true := k2_hts_sels lw_privs (fun w hw => hts0 w (List.mem_cons_of_mem _ hw)) lw_privs_ok
    have hml : c.maxLocals = 8 := B.maxLocals_eq (hts0 _ List.mem_cons_self)
    have X₀ : Stand p l e room_1 s m #[Value.ref b] below meth c s₁ [] 0 0 := Stand.of_body B
    have hh0 : s₁.heap = s.heap := by rw [B.state]; rfl
    have hsz : scr.slots.size = xs.length := by rw [← Array.length_toList, hlist, List.length_map]
    have hval : ∀ j : Nat, j < xs.length → scr.slots[j]? = some (.int (xs.getD j 0)) := fun j hj => by
      rw [← Array.getElem?_toList, hlist]
      simp [hj]
    have hbl : b < s.heap.size := (Array.getElem?_eq_some_iff.mp hcb).1
    have hX : va_X b xs.length (fun j => xs.getD j 0) s s.heap := ⟨scr, hcb, hof, hkn, hsz, hval⟩
    have htb9 : c.exceptionTable.toList = [] := by
      obtain ⟨meth9, c9, h1, h2, -, -, -, -, h7, -⟩ := Cond.code_spec B.named (hts0 _ List.mem_cons_self)
      cases Option.some.inj (h1.symm.trans B.method)
      cases Option.some.inj (h2.symm.trans X₀.code)
      rw [Array.isEmpty_iff.mp h7]
    have hnm9 : meth.name = "law" := (name_of_methodNamed B.named B.method).1
    have K : W p l e room_1 s m #[Value.ref b] below meth c s₁.heap [] 0 0 (lw_Z below #[Value.ref b] s) (entryFrame m ([Value.ref b] : List Value).toArray 8) := by
      rw [hh0]
      exact whole_start l hst htb9 hnm9 hbd ⟨B.exec, B.bytes, B.returns, hml, hown, hts, hX, hbl, B.notSynchronized, hgv⟩
    obtain ⟨t, a1, o, b1, b2, b3⟩ := K s₁ rfl X₀
    exact ⟨t, o, a1, b1, b2, b3⟩
theorem lw_pre_spec {args : Array Value} {s : State} (h : (Jvm.Cond.and given_1 narrow_1).before args s = true) (hr : rest_1_c.before args s = true) : ∃ (b : Addr) (xs : List Int32), lw_P b xs args s := by
  have hs := flat_of_before _ h
  have hq := flat_of_before _ hr
  have hc : (Cond.count 1).before args s = true := hs _ (by decide +kernel)
  have harr : (Cond.arrayOf (.arg 0) .int).before args s = true := hs _ (by decide +kernel)
  have hle : (Cond.le (.length (.arg 0)) (.int 2560)).before args s = true := hs _ (by decide +kernel)
  have hlen : (Cond.isInt (.length (.arg 0))).before args s = true := hq _ (by decide +kernel)
  have hall : (Cond.all (.arg 0) (.isInt (.elem (.arg 0) (.index 0)))).before args s = true := hq _ (by decide +kernel)
  obtain ⟨b, xs, hb, hx⟩ := State.ints_of_pre rfl harr hlen hall
  have hsm : xs.length < 2 ^ 31 := hx.choose_spec.2.2.2
  have hev : (Term.length (.arg 0)).eval args s none [] s = some (.int xs.length.toInt32) := hx.length_eval hb
  have hv := Cond.le_ints hev (show (Term.int 2560).eval args s none [] s = some (.int 2560) from rfl)
  have hd : xs.length.toInt32 ≤ 2560 := by
    simpa [Cond.before, Cond.holds, hv] using hle
  have hN : xs.length ≤ 2560 := (Int32.ofNat_le_ofNat hsm (by decide)).mp (show Int32.ofNat xs.length ≤ Int32.ofNat 2560 from hd)
  exact ⟨b, xs, Cond.one_arg hc (show args[0]? = some (.ref b) from hb), hx, hN, h⟩
theorem lw_comes (l : Launch) (hst : l.stackTraces = false) : Comes l x (Jvm.Cond.code x code maxLocals ret :: tables_1) room_1 (fun tb e args s => Calls_1 tb e args s ∧ rest_1 tb e args s ∧ Pre_1 tb e args s)
    (fun _ _ args s o t => lw_Q args s o t) := by
  intro p e ha hc hk s m args below hf hfit hheap happ hpre
  obtain ⟨b, xs, hP⟩ := lw_pre_spec hpre.2.2 hpre.2.1
  obtain ⟨k, o, h1, h2, h3, hQ⟩ := lw_walk l hst b xs p e ha hc hk s m args below hf ((Spec.applies_iff_loose hf).mp happ).1 hP trivial
  exact ⟨k, o, h1, h2, h3, hQ⟩
theorem lw_frame {s t : State} {o : Outcome} {args : Array Value} (h : Framed s o t [] 1101 25936) :
    Framed s o t (fieldLocs frame_1_writes args s ++ arrayLocs frame_1_arrays args s ++ staticLocs frame_1_statics s) 1101 25936 := h
theorem lw_limb (L : Cond) (hL : ∀ (args : Array Value) (s t : State), L.after args s (.returned (some (.int 1))) t = true) :
    ArmFor flags0 classFile x code maxLocals ret World_1 tables_1 room_1 Calls_1 rest_1 Pre_1
      (fun tb e a s o t => postC L tb e a s o t ∧ Framed s o t (fieldLocs frame_1_writes a s ++ arrayLocs frame_1_arrays a s ++ staticLocs frame_1_statics s) 1101 25936) := by
  intro l hfl _ _ p e ha hc hk s m args below hf hfit hheap happ hpre
  obtain ⟨k, o, h1, h2, h3, rfl, hF⟩ := lw_comes l (by rw [Launch.stackTraces, hfl]; decide +kernel) p e ha hc hk s m args below hf hfit hheap happ hpre
  exact ⟨k, _, h1, h2, h3, hL args s _, lw_frame hF⟩
theorem i_vc : Claimed_1_1 ∧ Claimed_1_2 := ⟨lw_limb limb_1_1 (fun args s t => by simp [limb_1_1, Cond.after, Cond.holds, Cond.value]), lw_limb limb_1_2 (fun args s t => Cond.after_iff.mpr (by
  first | (rw [show limb_1_2 = Cond.eq .result (.int 1) from rfl, Cond.eq_ints (x := 1) (y := 1) rfl rfl]; simp; done) | (simp [limb_1_2, Cond.value, Term.eval]; done)))⟩
end
