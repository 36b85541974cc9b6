/-! the start: the claim out of the law walked in small (the words lw_ are the skeleton's) -/
def R_law : String := "StuckLinesLaw"
def lw_P (b : Addr) (xs : List Int32) (args : Array Value) (s : State) : Prop := args = #[.ref b] ∧ s.IntsAt b xs ∧ xs.length ≤ 2560 ∧ (Jvm.Cond.and given_1 narrow_1).before args s = true
def lw_Q (_ : Array Value) (s : State) (o : Outcome) (t : State) : Prop := o = .returned (some (.int 1)) ∧ Framed s o t [] 1101 25936
def lw_Z (below : List Frame) (a : Array Value) (s : State) : State → Prop := fun t => ∃ o, t.status = .running ∧ Ended t below o ∧ lw_Q a s o t
/-- what holds at the law's entry: the machine, the code, the tables' words (any of lw_tbl by 'hts w (by decide +kernel)'), the script of L ints xs at the cell b, what the Statement gives of the start (any of its parts by flat_of_before) -/
def lw_At (p : Program) (s : State) (m : MethodId) (meth : Method) (c : Code) (b L : Nat) (xs : Nat → Int32) : Prop :=
  p.tables.exec = Jvm.exec ∧ c.code = code ∧ meth.sig.returnType = ret ∧ c.maxLocals = 8 ∧ s.vm.findClass R_law = some m.cls ∧ (∀ w ∈ lw_tbl, w.before #[Value.ref b] s = true) ∧ va_X b L xs s s.heap ∧ b < s.heap.size ∧ meth.locks = false ∧ (Jvm.Cond.and given_1 narrow_1).before #[Value.ref b] s = true
abbrev m_law : sk_M := ("StuckLinesLaw", x, code, 8, some .boolean, [], 12, 434)
def sk_g0 : sk_G := (true, [], fun _ _ => none)
def sk_i0 : sk_I := fun _ _ => 0
def sk_j0 : sk_J := fun _ _ => 0
theorem sk_instT : ∀ q ∈ sk_cl, Cond.instantiable q.1 q.2.2 ∈ lw_tbl := by
  intro q h
  refine List.mem_append_right _ ?_
  unfold sk_cl at h
  rcases List.mem_cons.mp h with rfl | h
  · exact List.mem_of_getElem? (i := 16) (by decide +kernel)
  rcases List.mem_cons.mp h with rfl | h
  · exact List.mem_of_getElem? (i := 24) (by decide +kernel)
  rcases List.mem_cons.mp h with rfl | h
  · exact List.mem_of_getElem? (i := 97) (by decide +kernel)
  rcases List.mem_cons.mp h with rfl | h
  · exact List.mem_of_getElem? (i := 126) (by decide +kernel)
  rcases List.mem_cons.mp h with rfl | h
  · exact List.mem_of_getElem? (i := 150) (by decide +kernel)
  rcases List.mem_cons.mp h with rfl | h
  · exact List.mem_of_getElem? (i := 168) (by decide +kernel)
  rcases List.mem_cons.mp h with rfl | h
  · exact List.mem_of_getElem? (i := 193) (by decide +kernel)
  rcases List.mem_cons.mp h with rfl | h
  · exact List.mem_of_getElem? (i := 679) (by decide +kernel)
  · cases h
theorem sk_arrOf {args : Array Value} {s : State} {ty : FieldType} (hty : ∀ C, ty ≠ .object C) (h : (Cond.arrayClass ty).before args s = true) : ∃ cA, ArrOfT s cA ty ∧ va_RA s cA ty := by
  obtain ⟨cA, kA, comp, h1, h2, h3⟩ := Cond.arrayClass_spec h
  refine ⟨cA, fun n z => ⟨fun k h => (by cases h), kA, h2, comp, h3⟩, ?_⟩
  cases ty <;> first | exact h1 | exact absurd rfl (hty _)
theorem sk_strW : ∀ (i : Nat) (q : Nat × String), sk_str[i]? = some q → Cond.stringRef "StuckLines" q.1 q.2 ∈ lw_tbl ∧ Cond.exactly (.string "StuckLines" q.1) "java/lang/String" ∈ flatC (Jvm.Cond.and given_1 narrow_1) := by
  intro i q h
  match i, h with
  | 0, h => cases h; exact ⟨List.mem_append_right _ (List.mem_of_getElem? (i := 404) (by decide +kernel)), by decide +kernel⟩
  | 1, h => cases h; exact ⟨List.mem_append_right _ (List.mem_of_getElem? (i := 457) (by decide +kernel)), by decide +kernel⟩
  | 2, h => cases h; exact ⟨List.mem_append_right _ (List.mem_of_getElem? (i := 464) (by decide +kernel)), by decide +kernel⟩
  | 3, h => cases h; exact ⟨List.mem_append_right _ (List.mem_of_getElem? (i := 478) (by decide +kernel)), by decide +kernel⟩
  | 4, h => cases h; exact ⟨List.mem_append_right _ (List.mem_of_getElem? (i := 489) (by decide +kernel)), by decide +kernel⟩
  | 5, h => cases h; exact ⟨List.mem_append_right _ (List.mem_of_getElem? (i := 509) (by decide +kernel)), by decide +kernel⟩
  | 6, h => cases h; exact ⟨List.mem_append_right _ (List.mem_of_getElem? (i := 529) (by decide +kernel)), by decide +kernel⟩
  | 7, h => cases h; exact ⟨List.mem_append_right _ (List.mem_of_getElem? (i := 557) (by decide +kernel)), by decide +kernel⟩
  | 8, h => cases h; exact ⟨List.mem_append_right _ (List.mem_of_getElem? (i := 570) (by decide +kernel)), by decide +kernel⟩
  | 9, h => cases h; exact ⟨List.mem_append_right _ (List.mem_of_getElem? (i := 579) (by decide +kernel)), by decide +kernel⟩
  | 10, h => cases h; exact ⟨List.mem_append_right _ (List.mem_of_getElem? (i := 602) (by decide +kernel)), by decide +kernel⟩
  | 11, h => cases h; exact ⟨List.mem_append_right _ (List.mem_of_getElem? (i := 639) (by decide +kernel)), by decide +kernel⟩
  | 12, h => cases h; exact ⟨List.mem_append_right _ (List.mem_of_getElem? (i := 640) (by decide +kernel)), by decide +kernel⟩
  | 13, h => cases h; exact ⟨List.mem_append_right _ (List.mem_of_getElem? (i := 672) (by decide +kernel)), by decide +kernel⟩
  | 14, h => cases h; exact ⟨List.mem_append_right _ (List.mem_of_getElem? (i := 673) (by decide +kernel)), by decide +kernel⟩
  | (n + 15), h => simp [sk_str] at h
theorem sk_ncW : ∀ E F : String, sk_nc E F = true → Cond.not (.castable E F) ∈ flatC (Jvm.Cond.and given_1 narrow_1) := by
  intro E F h
  simp only [sk_nc, Bool.and_eq_true, decide_eq_true_eq, List.mem_cons, List.not_mem_nil, or_false] at h
  obtain ⟨⟨hne, hE⟩, hF⟩ := h
  rcases hE with rfl | rfl | rfl <;> rcases hF with rfl | rfl | rfl <;> first | exact absurd rfl hne | decide +kernel
theorem sk_elemW : ∀ j : Nat, j < 6 → Cond.eq (.elem (.static "StuckLines" "SOURCE_IN_VECTORS" "[J") (.int (Int32.ofNat j))) (.long (sk_siv j)) ∈ flatC (Jvm.Cond.and given_1 narrow_1) := by
  intro j hj
  match j, hj with
  | 0, _ => decide +kernel
  | 1, _ => decide +kernel
  | 2, _ => decide +kernel
  | 3, _ => decide +kernel
  | 4, _ => decide +kernel
  | 5, _ => decide +kernel
  | (n + 6), h => omega
set_option maxHeartbeats 4000000 in
/-- what holds at the law's entry, in the words of the walk -/
theorem sk_start {p : Program} {s : State} {m : MethodId} {meth : Method} {c : Code} {l : Launch} {b L : Nat} {xs : Nat → Int32} (hst : l.stackTraces = false) (htab : c.exceptionTable.toList = []) (hnm : meth.name = "law") (C0 : lw_At p s m meth c b L xs) : ∃ Γ : sk_T, sk_l Γ = l ∧ sk_len Γ = L ∧ sk_xs Γ = xs ∧ sk_b Γ = s.heap.size ∧ sk_ad Γ sk_scr = b ∧ sk_cx Γ m_law p s m #[Value.ref b] meth c ∧ sk_hp Γ sk_g0 sk_i0 sk_j0 s.heap := by
  obtain ⟨hexec, hcode, hret, hml, hown, hts, hX, hbl, hlocks, hgiven⟩ := C0
  have hs := flat_of_before _ hgiven
  have hA : ∀ a : Nat, a < s.heap.size → ¬ (s.heap.size ≤ a) := fun a h => by omega
  have hcl : ∀ ci : Nat, ∃ z : ClassId × (Nat → Nat), ∀ q : vw_C, sk_cl[ci]? = some q → u_Kn s q.1 q.2.1 q.2.2 z.1 z.2 := by
    intro ci
    cases hq : sk_cl[ci]? with
    | none => exact ⟨(0, fun _ => 0), fun q h => by cases h⟩
    | some q =>
      obtain ⟨C, T, N⟩ := q
      obtain ⟨cC, iS, hk⟩ := u_known (C := C) (T := T) (N := N) (n := N) hts (fun w hw => sk_tbl _ (sk_lays hq w hw)) (hts _ (sk_instT _ (List.mem_of_getElem? hq)))
      exact ⟨(cC, iS), fun q h => by cases h; exact hk⟩
  obtain ⟨fD, hD⟩ := Classical.axiomOfChoice hcl
  obtain ⟨cI, hI1, hI2⟩ := sk_arrOf (fun C h => by cases h) (hts (.arrayClass .int) (List.mem_append_right _ (List.mem_of_getElem? (i := 94) (by decide +kernel))))
  obtain ⟨cZ, hZ1, hZ2⟩ := sk_arrOf (fun C h => by cases h) (hts (.arrayClass .boolean) (List.mem_append_right _ (List.mem_of_getElem? (i := 95) (by decide +kernel))))
  obtain ⟨cJ, hJ1, hJ2⟩ := sk_arrOf (fun C h => by cases h) (hts (.arrayClass .long) (List.mem_append_right _ (List.mem_of_getElem? (i := 124) (by decide +kernel))))
  obtain ⟨t, hte, hT⟩ := va_Tof (tm := .static "StuckLines" "SOURCE_IN_VECTORS" "[J") (ty := .long) (N := 6) (f := fun j => .long (sk_siv j)) (A := fun q => s.heap.size ≤ q) (by decide) (hs _ (by decide +kernel)) (va_eqt (hs (.eq (.length (.static "StuckLines" "SOURCE_IN_VECTORS" "[J")) (.int 6)) (by decide +kernel))) (fun j hj => va_eqtl (hs _ (sk_elemW j hj))) hA
  have hZ : va_Z "StuckLines" "SOURCE_IN_VECTORS" "[J" (.ref t) (fun q => s.heap.size ≤ q) s s.heap := va_Zof (hts _ (List.mem_append_right _ (List.mem_of_getElem? (i := 281) (by decide +kernel)))) (hts _ (List.mem_append_right _ (List.mem_of_getElem? (i := 1) (by decide +kernel)))) hte hA
  have hsr : ∀ i : Nat, ∃ a : Nat, ∀ q : Nat × String, sk_str[i]? = some q → vk_R "StuckLines" q.1 q.2 a s := by
    intro i
    cases hq : sk_str[i]? with
    | none => exact ⟨0, fun q h => by cases h⟩
    | some q =>
      obtain ⟨w1, w2⟩ := sk_strW i q hq
      obtain ⟨a, -, -, -, ha, -⟩ := Cond.exactly_spec (hs _ w2)
      exact ⟨a, fun q' h => by cases h; exact vk_R.of (hts _ w1) ha⟩
  obtain ⟨sa, hsa⟩ := Classical.axiomOfChoice hsr
  have hU1 := hts (.laysStatic Bundle.tN "UNASSIGNED_STACK" Bundle.steD) (List.mem_append_right _ (List.mem_of_getElem? (i := 390) (by decide +kernel)))
  have hU2 := hts (.laysStatic Bundle.tN "SUPPRESSED_SENTINEL" Bundle.listD) (List.mem_append_right _ (List.mem_of_getElem? (i := 392) (by decide +kernel)))
  have hU3 := hts (.initialized Bundle.tN) (List.mem_append_right _ (List.mem_of_getElem? (i := 9) (by decide +kernel)))
  refine ⟨(l, s.heap.size, (fun c => (fD c).1, fun c => (fD c).2), (fun k => if k = 0 then cI else if k = 1 then cZ else cJ), (fun k => if k = sk_scr then b else if k = sk_sta then t else s.heap.size + k), L, xs, sa), rfl, rfl, rfl, rfl, rfl, ?_, ?_⟩
  · refine ⟨hexec, hcode, hml, hret, hlocks, hown, fun w hw => hts w (sk_tbl w hw), ?_, by rw [htab]; rfl, hnm, Nat.le_refl _⟩
    refine ⟨⟨fun ci q hq => hD ci q hq, fun k q hk => ?_⟩, fun w hw => va_Nw.of (sk_nwTab (sk_nw_ok w hw)) (hts w (sk_nw_tbl w hw)), hZ, hT, ⟨va_Zqof hU1 hU3 (hs _ (by decide +kernel)) hA, sk_L.of hU1 hA⟩, ⟨va_Zqof hU2 hU3 (hs _ (by decide +kernel)) hA, sk_L.of hU2 hA⟩, fun i q hq => hsa i q hq, hX, hbl, fun k hk => ?_, hst, fun E F hE => va_Nc.of (hs _ (sk_ncW E F hE))⟩
    · match k, hk with
      | 0, hk => cases hk; exact ⟨hI1, hI2⟩
      | 1, hk => cases hk; exact ⟨hZ1, hZ2⟩
      | 2, hk => cases hk; exact ⟨hJ1, hJ2⟩
      | (n + 3), hk => simp at hk
    · show (if k = sk_scr then b else if k = sk_sta then t else s.heap.size + k) = s.heap.size + k
      rw [if_neg (by unfold sk_scr; omega), if_neg (by unfold sk_sta; omega)]
  · refine ⟨fun k q hk => ?_, Nat.le_refl _, fun _ => rfl, by decide⟩
    simp [sk_ws, sk_g0] at hk
