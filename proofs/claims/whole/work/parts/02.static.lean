/-! classes, fields, words: printed by wip/whole/gen_static.py out of the Statement -/
def sk_T0 : u_T := fun k => match k with
  | 0 => ("StuckLines", "circuit", "LStuckLines$Circuit;", true)
  | 1 => ("StuckLines", "signals", "LStuckLines$Signals;", true)
  | 2 => ("StuckLines", "responses", "LStuckLines$Responses;", true)
  | 3 => ("StuckLines", "cubes", "LStuckLines$Cubes;", true)
  | 4 => ("StuckLines", "packedSet", "LStuckLines$PackedSet;", true)
  | _ => ("StuckLines", "seen", "LStuckLines$SeenLog;", true)
def sk_T1 : u_T := fun k => match k with
  | 0 => ("StuckLines$Circuit", "version", "I", false)
  | 1 => ("StuckLines$Circuit", "lines", "I", false)
  | 2 => ("StuckLines$Circuit", "sources", "I", false)
  | 3 => ("StuckLines$Circuit", "outputs", "I", false)
  | 4 => ("StuckLines$Circuit", "observed", "I", false)
  | 5 => ("StuckLines$Circuit", "pins", "I", false)
  | 6 => ("StuckLines$Circuit", "kindOf", "[I", true)
  | 7 => ("StuckLines$Circuit", "sourceOf", "[I", true)
  | 8 => ("StuckLines$Circuit", "isFlop", "[Z", true)
  | 9 => ("StuckLines$Circuit", "firstPin", "[I", true)
  | 10 => ("StuckLines$Circuit", "lineReadBy", "[I", true)
  | 11 => ("StuckLines$Circuit", "gateOfPin", "[I", true)
  | 12 => ("StuckLines$Circuit", "observedLine", "[I", true)
  | 13 => ("StuckLines$Circuit", "dataOf", "[I", true)
  | _ => ("StuckLines$Circuit", "outputLine", "[I", true)
def sk_T2 : u_T := fun k => match k with
  | 0 => ("StuckLines$Signals", "circuit", "LStuckLines$Circuit;", true)
  | 1 => ("StuckLines$Signals", "sourceOnes", "[J", true)
  | 2 => ("StuckLines$Signals", "sourceZeros", "[J", true)
  | 3 => ("StuckLines$Signals", "ones", "[J", true)
  | 4 => ("StuckLines$Signals", "zeros", "[J", true)
  | 5 => ("StuckLines$Signals", "stuckPin", "I", false)
  | _ => ("StuckLines$Signals", "stuckOnes", "J", false)
def sk_T3 : u_T := fun k => match k with
  | 0 => ("StuckLines$Responses", "circuit", "LStuckLines$Circuit;", true)
  | 1 => ("StuckLines$Responses", "signals", "LStuckLines$Signals;", true)
  | 2 => ("StuckLines$Responses", "observedOnes", "[J", true)
  | 3 => ("StuckLines$Responses", "shownBy", "[J", true)
  | _ => ("StuckLines$Responses", "versionOf", "[I", true)
def sk_T4 : u_T := fun k => match k with
  | 0 => ("StuckLines$Cubes", "circuit", "LStuckLines$Circuit;", true)
  | 1 => ("StuckLines$Cubes", "sound", "LStuckLines$Signals;", true)
  | _ => ("StuckLines$Cubes", "faulty", "LStuckLines$Signals;", true)
def sk_T5 : u_T := fun k => match k with
  | 0 => ("StuckLines$PackedSet", "circuit", "LStuckLines$Circuit;", true)
  | 1 => ("StuckLines$PackedSet", "responses", "LStuckLines$Responses;", true)
  | 2 => ("StuckLines$PackedSet", "vectors", "[I", true)
  | 3 => ("StuckLines$PackedSet", "size", "I", false)
  | 4 => ("StuckLines$PackedSet", "members", "J", false)
  | _ => ("StuckLines$PackedSet", "version", "I", false)
def sk_T6 : u_T := fun k => match k with
  | 0 => ("StuckLines$SeenLog", "responses", "LStuckLines$Responses;", true)
  | 1 => ("StuckLines$SeenLog", "vectors", "[I", true)
  | 2 => ("StuckLines$SeenLog", "seenResponses", "[I", true)
  | _ => ("StuckLines$SeenLog", "size", "I", false)
def sk_T7 : u_T := fun k => match k with
  | 0 => ("StuckLinesModel", "code", "I", false)
  | 1 => ("StuckLinesModel", "lines", "I", false)
  | 2 => ("StuckLinesModel", "sourceOf", "[I", true)
  | 3 => ("StuckLinesModel", "kinds", "[I", true)
  | 4 => ("StuckLinesModel", "pins", "[I", true)
  | 5 => ("StuckLinesModel", "pinCount", "[I", true)
  | 6 => ("StuckLinesModel", "sources", "I", false)
  | 7 => ("StuckLinesModel", "sourceLine", "[I", true)
  | 8 => ("StuckLinesModel", "flop", "[Z", true)
  | 9 => ("StuckLinesModel", "datum", "[I", true)
  | 10 => ("StuckLinesModel", "outputs", "I", false)
  | 11 => ("StuckLinesModel", "outputLine", "[I", true)
  | 12 => ("StuckLinesModel", "seen", "I", false)
  | 13 => ("StuckLinesModel", "observed", "[I", true)
  | 14 => ("StuckLinesModel", "sites", "I", false)
  | 15 => ("StuckLinesModel", "siteLine", "[I", true)
  | 16 => ("StuckLinesModel", "sitePin", "[I", true)
  | 17 => ("StuckLinesModel", "values", "[I", true)
  | 18 => ("StuckLinesModel", "plain", "[I", true)
  | 19 => ("StuckLinesModel", "known", "Z", false)
  | 20 => ("StuckLinesModel", "responses", "[I", true)
  | 21 => ("StuckLinesModel", "right", "[I", true)
  | 22 => ("StuckLinesModel", "packedUp", "Z", false)
  | 23 => ("StuckLinesModel", "chosen", "I", false)
  | 24 => ("StuckLinesModel", "set", "[I", true)
  | 25 => ("StuckLinesModel", "gone", "[Z", true)
  | 26 => ("StuckLinesModel", "logged", "I", false)
  | 27 => ("StuckLinesModel", "logVector", "[I", true)
  | _ => ("StuckLinesModel", "logResponse", "[I", true)
abbrev sk_cl : List vw_C := [("StuckLines", sk_T0, 6), ("StuckLines$Circuit", sk_T1, 15), ("StuckLines$Signals", sk_T2, 7), ("StuckLines$Responses", sk_T3, 5), ("StuckLines$Cubes", sk_T4, 3), ("StuckLines$PackedSet", sk_T5, 6), ("StuckLines$SeenLog", sk_T6, 4), ("StuckLinesModel", sk_T7, 29)]
def sk_kdT : List (List Nat) := [[2, 2, 2, 2, 2, 2], [0, 0, 0, 0, 0, 0, 2, 2, 2, 2, 2, 2, 2, 2, 2], [2, 2, 2, 2, 2, 0, 1], [2, 2, 2, 2, 2], [2, 2, 2], [2, 2, 2, 0, 1, 0], [2, 2, 2, 0], [0, 0, 2, 2, 2, 2, 0, 2, 2, 2, 0, 2, 0, 2, 0, 2, 2, 2, 2, 0, 2, 2, 0, 0, 2, 2, 0, 2, 2]]
def sk_kd (ci j : Nat) : Nat := (sk_kdT.getD ci []).getD j 0
def sk_ts : List Cond := lw_tbl.filter goodWord
theorem sk_in {w : Cond} (h : w ∈ tables_1) (hg : goodWord w = true) : w ∈ sk_ts := List.mem_filter.mpr ⟨List.mem_append_right _ h, hg⟩
theorem sk_inp {q : MethodName × Nat} (h : q ∈ lw_privs) (hg : goodWord (.selects q.1.cls q.1 q.1) = true) : Cond.selects q.1.cls q.1 q.1 ∈ sk_ts := List.mem_filter.mpr ⟨List.mem_append_left _ (List.mem_map.mpr ⟨q, h, rfl⟩), hg⟩
theorem sk_good (w : Cond) (h : w ∈ sk_ts) : goodWord w = true := (List.mem_filter.mp h).2
theorem sk_tbl (w : Cond) (h : w ∈ sk_ts) : w ∈ lw_tbl := (List.mem_filter.mp h).1
def sk_nw : List Cond := [.methodLinkNest "StuckLines" 11 ⟨"StuckLines$Circuit", "<init>", "()V"⟩ "StuckLines", .fieldLinkNest "StuckLines$Signals" 36 "StuckLines" "SOURCE_IN_VECTORS" "[J" "StuckLines", .castable "java/lang/IllegalStateException" "java/lang/IllegalStateException", .declares ⟨"java/lang/RuntimeException", "<init>", "()V"⟩, .declares ⟨"java/lang/RuntimeException", "<init>", "(Ljava/lang/String;)V"⟩, .declares ⟨"java/lang/Exception", "<init>", "()V"⟩, .declares ⟨"java/lang/Exception", "<init>", "(Ljava/lang/String;)V"⟩, .declares ⟨"java/lang/Throwable", "<init>", "()V"⟩, .declares ⟨"java/lang/Throwable", "<init>", "(Ljava/lang/String;)V"⟩, .castable "java/lang/IllegalArgumentException" "java/lang/IllegalArgumentException", .castable "java/lang/IndexOutOfBoundsException" "java/lang/IndexOutOfBoundsException"]
theorem sk_nw_tbl : ∀ w ∈ sk_nw, w ∈ lw_tbl := by
  intro w h
  refine List.mem_append_right _ ?_
  unfold sk_nw at h
  rcases List.mem_cons.mp h with rfl | h
  · exact List.mem_of_getElem? (i := 25) (by decide +kernel)
  rcases List.mem_cons.mp h with rfl | h
  · exact List.mem_of_getElem? (i := 280) (by decide +kernel)
  rcases List.mem_cons.mp h with rfl | h
  · exact List.mem_of_getElem? (i := 365) (by decide +kernel)
  rcases List.mem_cons.mp h with rfl | h
  · exact List.mem_of_getElem? (i := 366) (by decide +kernel)
  rcases List.mem_cons.mp h with rfl | h
  · exact List.mem_of_getElem? (i := 367) (by decide +kernel)
  rcases List.mem_cons.mp h with rfl | h
  · exact List.mem_of_getElem? (i := 368) (by decide +kernel)
  rcases List.mem_cons.mp h with rfl | h
  · exact List.mem_of_getElem? (i := 369) (by decide +kernel)
  rcases List.mem_cons.mp h with rfl | h
  · exact List.mem_of_getElem? (i := 370) (by decide +kernel)
  rcases List.mem_cons.mp h with rfl | h
  · exact List.mem_of_getElem? (i := 371) (by decide +kernel)
  rcases List.mem_cons.mp h with rfl | h
  · exact List.mem_of_getElem? (i := 450) (by decide +kernel)
  rcases List.mem_cons.mp h with rfl | h
  · exact List.mem_of_getElem? (i := 471) (by decide +kernel)
  · cases h
def sk_str : List (Nat × String) := [(70, "no room for a source"), (81, "no such kind"), (84, "a pin is missing"), (225, "no such line"), (93, "no room for a gate"), (106, "an output already, or no room for one"), (116, "not a flip-flop"), (138, "nothing to count"), (231, "no such vector"), (233, "no such fault"), (181, "nothing to tell of a fault"), (196, "not a sum of sources"), (198, "a source is open and 1"), (210, "no such response"), (215, "the log is full")]
def sk_siv (j : Nat) : Int64 := ([-6148914691236517206, -3689348814741910324, -1085102592571150096, -71777214294589696, -281470681808896, -4294967296] : List Int64).getD j 0
def sk_fty (T : u_T) : Nat → FieldType := fun k => (parseFieldDescriptor (T k).2.2.1).getD .int
def sk_dfv (kd : Nat) : Value := match kd with | 0 => .int 0 | 1 => .long 0 | _ => .null
def sk_clOk (ci : Nat) (q : vw_C) : Bool := (List.range q.2.2).all (fun k => (parseFieldDescriptor (q.2.1 k).2.2.1).isSome) && (List.range q.2.2).all (fun a => (List.range q.2.2).all (fun b => decide (a = b) || decide ((q.2.1 a).2.1 ≠ (q.2.1 b).2.1))) && (List.range q.2.2).all (fun k => decide (defaultValue (sk_fty q.2.1 k) = sk_dfv (sk_kd ci k))) && (u_ws q.1 q.2.1 q.2.2).all (fun w => decide (w ∈ tables_1) && goodWord w)
theorem sk_ok0 : sk_clOk 0 ("StuckLines", sk_T0, 6) = true := by decide +kernel
theorem sk_ok1 : sk_clOk 1 ("StuckLines$Circuit", sk_T1, 15) = true := by decide +kernel
theorem sk_ok2 : sk_clOk 2 ("StuckLines$Signals", sk_T2, 7) = true := by decide +kernel
theorem sk_ok3 : sk_clOk 3 ("StuckLines$Responses", sk_T3, 5) = true := by decide +kernel
theorem sk_ok4 : sk_clOk 4 ("StuckLines$Cubes", sk_T4, 3) = true := by decide +kernel
theorem sk_ok5 : sk_clOk 5 ("StuckLines$PackedSet", sk_T5, 6) = true := by decide +kernel
theorem sk_ok6 : sk_clOk 6 ("StuckLines$SeenLog", sk_T6, 4) = true := by decide +kernel
theorem sk_ok7 : sk_clOk 7 ("StuckLinesModel", sk_T7, 29) = true := by decide +kernel
theorem sk_clAll {ci : Nat} {q : vw_C} (h : sk_cl[ci]? = some q) : sk_clOk ci q = true := by
  match ci, h with
  | 0, h => cases h; exact sk_ok0
  | 1, h => cases h; exact sk_ok1
  | 2, h => cases h; exact sk_ok2
  | 3, h => cases h; exact sk_ok3
  | 4, h => cases h; exact sk_ok4
  | 5, h => cases h; exact sk_ok5
  | 6, h => cases h; exact sk_ok6
  | 7, h => cases h; exact sk_ok7
  | (n + 8), h => simp [sk_cl] at h
theorem sk_lays {ci : Nat} {C : String} {T : u_T} {N : Nat} (h : sk_cl[ci]? = some (C, T, N)) : ∀ w ∈ u_ws C T N, w ∈ sk_ts := by
  intro w hw
  have h1 := sk_clAll h
  simp only [sk_clOk, Bool.and_eq_true] at h1
  have h2 := List.all_eq_true.mp h1.2 w hw
  simp only [Bool.and_eq_true, decide_eq_true_eq] at h2
  exact sk_in h2.1 h2.2
theorem sk_ftyOk {ci : Nat} {C : String} {T : u_T} {N : Nat} (h : sk_cl[ci]? = some (C, T, N)) : ∀ k, k < N → parseFieldDescriptor (T k).2.2.1 = some (sk_fty T k) := by
  intro k hk
  have h1 := sk_clAll h
  simp only [sk_clOk, Bool.and_eq_true] at h1
  have h2 := List.all_eq_true.mp h1.1.1.1 k (List.mem_range.mpr hk)
  obtain ⟨v, hv⟩ := Option.isSome_iff_exists.mp h2
  simp only [sk_fty]
  rw [hv]; rfl
theorem sk_names {ci : Nat} {C : String} {T : u_T} {N : Nat} (h : sk_cl[ci]? = some (C, T, N)) : ∀ a, a < N → ∀ b, b < N → a ≠ b → (T a).2.1 ≠ (T b).2.1 := by
  intro a ha b hb hab
  have h1 := sk_clAll h
  simp only [sk_clOk, Bool.and_eq_true] at h1
  have h2 := List.all_eq_true.mp (List.all_eq_true.mp h1.1.1.2 a (List.mem_range.mpr ha)) b (List.mem_range.mpr hb)
  simp only [Bool.or_eq_true, decide_eq_true_eq] at h2
  exact h2.resolve_left hab
theorem sk_dflt {ci : Nat} {C : String} {T : u_T} {N : Nat} (h : sk_cl[ci]? = some (C, T, N)) {j : Nat} (hj : j < N) : defaultValue (sk_fty T j) = sk_dfv (sk_kd ci j) := by
  have h1 := sk_clAll h
  simp only [sk_clOk, Bool.and_eq_true] at h1
  have h2 := List.all_eq_true.mp h1.1.2 j (List.mem_range.mpr hj)
  exact of_decide_eq_true h2
