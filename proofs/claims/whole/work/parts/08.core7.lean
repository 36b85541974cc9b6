/-! throws and catches -/
section SKX
variable {Γ : sk_T} {M : sk_M} {mc ms pc : Nat} {L : List (Nat × Value)} {S : List Value} {g : sk_G} {I : sk_I} {J : sk_J} {kc kn : Nat} {Q : sk_Q}
/-- out of the method, uncaught -/
theorem sk_xout {E : String} (ht : sk_tab M = []) (hk : kc ≤ mc) (hn : kn ≤ ms) (hq : Q (.inr E) g I J) : sk_X Γ M mc ms pc L E g I J kc kn Q := by
  intro p e s m args below meth c T locs ls st q ce hC hH hS hl hce hcv hcl X
  have hout : ∀ x ∈ c.exceptionTable.toList, covers x pc = false := by
    rw [hC.2.2.2.2.2.2.2.2.1, ht]
    intro x hx
    cases hx
  obtain ⟨st1, hrun, hend, hW, hsm⟩ := X.leaveThrown q (g := F0 m pc ls st) rfl rfl rfl hout hC.2.2.2.2.1
  exact ⟨_, st1, .threw q, hrun, hend, Or.inr ⟨q, E, ce, g, I, J, locs, rfl, hq, hH, ⟨hS.1, hS.2.1⟩, hce, hcv, hcl, hW, hsm.mono hk hn, hS.2.2⟩⟩
/-- caught; the handler stores it in local i -/
theorem sk_xcatch {E name : String} {i : Nat} {L' : List (Nat × Value)} (pre : List (Nat × Nat × Nat × Nat)) (x : Nat × Nat × Nat × Nat) (suf : List (Nat × Nat × Nat × Nat)) (len : Nat) (hsp : sk_tab M = pre ++ x :: suf)
    (hpass : ∀ z ∈ pre, z.2.2.2 ≠ 0 ∧ ∃ nm : String, Cond.classLink (sk_own M) z.2.2.2 nm ∈ sk_ts ∧ sk_nc E nm = true) (hcov : covers ⟨x.1, x.2.1, x.2.2.1, x.2.2.2⟩ pc = true) (h0 : x.2.2.2 ≠ 0) (hlk : Cond.classLink (sk_own M) x.2.2.2 name ∈ sk_ts) (hcast : Cond.castable E name ∈ sk_nw)
    (d : (∃ f : Fin 4, decode (sk_cc M) x.2.2.1 = .ok (.astore_n f, 1) ∧ (f : Nat) = i ∧ len = 1) ∨ (decode (sk_cc M) x.2.2.1 = .ok (.astore i, 2) ∧ len = 2)) (hn : i < sk_nl M) (hL : L.filter (fun q => !(q.1 == i) && !(q.1 + 1 == i && q.2.category == 2)) = L')
    (h : sk_W Γ M mc ms (x.2.2.1 + len) L' [] g I J kc kn Q) : sk_X Γ M mc ms pc L E g I J kc kn Q := by
  intro p e s m args below meth c T locs ls st q ce hC hH hS hl hce hcv hcl X
  have hts := hC.2.2.2.2.2.2.1
  have hfix := hC.2.2.2.2.2.2.2.1
  have hpl : e.platform.magicAccessors = ({} : Platform).magicAccessors := by rw [X.admits.platform]
  obtain ⟨c3, c4, hc3, hc4, hasg⟩ := Cond.castable_spec (va_Nw.use rfl (hfix.2.1 _ hcast) : (Cond.castable E name).before args s = true)
  cases Option.some.inj (hc3.symm.trans hcl)
  obtain ⟨c5, hc5, hcl5⟩ := Cond.classLink_spec hC.2.2.2.2.2.1 (hts _ hlk) e.platform hpl
  cases Option.some.inj (hc4.symm.trans hc5)
  obtain ⟨vm', X', st9⟩ := sk_toH X q (g := F0 m pc ls st) rfl hce (by rw [hcv]; rfl) (by obtain ⟨k9, h9, -⟩ := Vm.findClass_spec hcl; exact ⟨k9, h9⟩) (tableOf pre) ⟨x.1, x.2.1, x.2.2.1, x.2.2.2⟩ (tableOf suf) (by rw [hC.2.2.2.2.2.2.2.2.1, hsp]; simp [tableOf])
    (fun z hz => by
      obtain ⟨y, hy, rfl⟩ := List.mem_map.mp hz
      obtain ⟨hz0, nm, hl1, hn1⟩ := hpass y hy
      obtain ⟨c6, hc6, hcl6⟩ := Cond.classLink_spec hC.2.2.2.2.2.1 (hts _ hl1) e.platform hpl
      obtain ⟨a8, b8, h1, h2, h3⟩ := hfix.2.2.2.2.2.2.2.2.2.2.2 E nm hn1
      cases Option.some.inj (h1.symm.trans hcl)
      cases Option.some.inj (h2.symm.trans hc6)
      exact ⟨hz0, _, hcl6, h3⟩) hcov h0 hcl5 hasg
  have key : ∀ ls' : Array Slot, lv_has ls' (sk_nl M) ((i, Value.ref q) :: (sk_trL Γ L).filter (fun q => !(q.1 == i) && !(q.1 + 1 == i && q.2.category == 2))) → W p (sk_l Γ) e (sk_rm M mc ms) s m args below meth c T.heap locs kc kn (sk_Fin Γ Q mc ms below args s) (F0 m (x.2.2.1 + len) ls' []) := by
    intro ls' hl'
    refine h p e s m args below meth c T.heap locs ls' hC hH hS ?_
    rw [sk_trL_f1, hL] at hl'
    exact ⟨hl'.1, hl'.2.1, fun z hz => hl'.2.2 z (List.mem_cons_of_mem _ hz)⟩
  have K : W p (sk_l Γ) e (sk_rm M mc ms) s m args below meth c T.heap locs kc kn (sk_Fin Γ Q mc ms below args s) (F0 m x.2.2.1 ls [.ref q]) := by
    rcases d with ⟨f, d, hi, rfl⟩ | ⟨d, rfl⟩
    · exact lv_astore_n hC.1 hC.2.1 d hi hl hn rfl key
    · exact lv_astore hC.1 hC.2.1 d hl hn rfl key
  obtain ⟨t, a1, b1⟩ := K (T.setVm vm') rfl X'
  exact ⟨t, st9.trans a1, b1⟩
/-- the frame as if the method were called in this heap -/
theorem sk_rebase {p : Program} {e : Env} {R R' : Room} {s T : State} {m : MethodId} {args : Array Value} {below : List Frame} {meth : Method} {c : Code} {locs : List Loc} (X : Stand p (sk_l Γ) e R s m args below meth c T locs kc kn) (hf : R'.frames ≤ R.frames) (hl : R'.locals ≤ R.locals) (hc : kc + R'.cells ≤ R.cells) (hs : kn + R'.slots ≤ R.slots) :
    Stand p (sk_l Γ) e R' ((T.setVm s.vm).setFrames (.invoking m args :: below)) m args below meth c T [] 0 0 := by
  have htop : (T.setVm s.vm).topJava?.isSome := X.here.top
  have hF : ((T.setVm s.vm).setFrames (.invoking m args :: below)).frames = .invoking m args :: below := State.frames_setFrames _ (State.cur_lt_of_top htop)
  obtain ⟨g₀, hg0⟩ := Option.isSome_iff_exists.mp htop
  obtain ⟨r, hr⟩ := State.topJava?_eq_some.mp hg0
  obtain ⟨t, ht, -⟩ := State.frames_cons hr
  have nil : (T.heap.toList.drop T.heap.size) = [] := List.drop_eq_nil_of_le (Nat.le_of_eq Array.length_toList)
  have room : ((T.setVm s.vm).setFrames (.invoking m args :: below)).hasRoom e.platform R' = true := by
    have h := X.room
    have hU : ((T.setVm s.vm).setFrames (.invoking m args :: below)).localsInUse = s.localsInUse := by
      rw [State.localsInUse_invoking hF (meth := meth) (c := c) X.method X.code, State.localsInUse_invoking X.frames X.method X.code]
    have hl9 : e.platform.stackLimits (T.setVm s.vm).me = e.platform.stackLimits s.me := X.limits
    have hb9 : (T.setVm s.vm).me.stackBytes = s.me.stackBytes := X.bytes
    have q1 := X.heapSize
    have q2 := X.used
    simp only [State.hasRoom, Bool.and_eq_true, decide_eq_true_eq] at h ⊢
    obtain ⟨⟨⟨⟨h1, h2, h3, h4, h5, h6⟩, h7⟩, h8⟩, h9⟩ := h
    rw [X.frames, List.length_cons] at h2 h3
    simp only [hF, hU, List.length_cons, State.stackLimits_setFrames, State.stackBytes_setFrames, hl9, hb9]
    have hz1 : T.heap.size + R'.cells ≤ e.platform.maxCells := by omega
    have hz2 : T.slotsUsed + R'.slots ≤ e.platform.maxSlots := by omega
    exact ⟨⟨⟨⟨by omega, by omega, by omega, by omega, by omega, h6⟩, hz1⟩, hz2⟩, X.book⟩
  refine ⟨X.admits, X.cas, X.clock, hF, room, X.hears, X.method, X.code, X.here, X.tail, X.warmed, ?_, ?_, ?_, Nat.le_refl _, Nat.le_refl _, ?_, ?_, fun a c9 h9 => ⟨c9, h9, rfl, rfl, fun _ _ => rfl⟩⟩
  · rw [State.stackLimits_setFrames]; rfl
  · rw [State.stackBytes_setFrames]; rfl
  · show T.setVm s.vm = { ((T.setVm s.vm).setFrames (.invoking m args :: below)).setFrames (T.setVm s.vm).frames with heap := T.heap, slotsUsed := T.slotsUsed }
    rw [State.setFrames_setFrames, State.setFrames_self ht]
    rfl
  · show T.slotsUsed = T.slotsUsed + ((T.heap.toList.drop T.heap.size).map (·.slots.size)).sum
    rw [nil]; rfl
  · show ((T.heap.toList.drop T.heap.size).map (·.slots.size)).sum ≤ 0
    rw [nil]; exact Nat.le_refl _
/-- the words of a throw: of the tables, of the list sk_nw, or of the two statics -/
def sk_thr (w : Cond) : Bool := decide (w ∈ lw_tbl) && goodWord w || decide (w ∈ sk_nw) || decide (w = .isRef (.static Bundle.tN "UNASSIGNED_STACK" Bundle.steD)) || decide (w = .isRef (.static Bundle.tN "SUPPRESSED_SENTINEL" Bundle.listD)) || decide (w = .laysStatic Bundle.tN "UNASSIGNED_STACK" Bundle.steD) || decide (w = .laysStatic Bundle.tN "SUPPRESSED_SENTINEL" Bundle.listD)
theorem sk_goodTab {w : Cond} (h : goodWord w = true) {A A' : Array Value} {u U : State} (hv : u.vm = U.vm) (hb : w.before A u = true) : w.before A' U = true := by
  rcases good_of_word h with h | ⟨ty, rfl⟩
  · simp only [Bool.and_eq_true] at h
    exact va_tabs h.1 hv hb
  · exact word_at (s := u) (U := U) (by rw [← hv]; exact State.WarmedH.refl u) (Or.inr ⟨ty, rfl⟩) hb
theorem sk_nwTab {w : Cond} (h : sk_isN w = true) : w.onTables = true := by
  cases w <;> first | rfl | cases h
/-- 'throw new E("text")': new; dup; ldc; invokespecial; athrow -/
theorem sk_throwS {cls text : String} {ik is ic i : Nat} (d0 : decode (sk_cc M) pc = .ok (.new ik, 3)) (d3 : decode (sk_cc M) (pc + 3) = .ok (.dup, 1)) (d4 : decode (sk_cc M) (pc + 4) = .ok (.ldc is, 2)) (d6 : decode (sk_cc M) (pc + 6) = .ok (.invokespecial ic, 3)) (d9 : decode (sk_cc M) (pc + 9) = .ok (.athrow, 1))
    (hown : sk_own M = "StuckLines") (hcls : Bundle.fit cls = true) (h1 : Cond.classLink (sk_own M) ik cls ∈ sk_ts) (h2 : Cond.initialized cls ∈ sk_ts) (hstr : sk_str[i]? = some (is, text)) (hat : (Bundle.ownAtoms (sk_own M) ic cls ["java/lang/RuntimeException", "java/lang/Exception"]).all sk_thr = true) (ht : sk_tab M = [])
    (hR : 6 ≤ sk_fr M ∧ 90 ≤ sk_lo M) (hcat : (S.map fun v => v.category).sum ≤ 8) (hf : kc + 1 ≤ mc ∧ kn + 6 ≤ ms) (hq : Q (.inr cls) (false, g.2.1, g.2.2) I J) : sk_W Γ M mc ms pc L S g I J kc kn Q := by
  intro p e s m args below meth c H locs ls hC hH hS hl T hT X
  subst hT
  have hts := hC.2.2.2.2.2.2.1
  have hfix := hC.2.2.2.2.2.2.2.1
  have htr : e.platform.stackTraces = false := (show e.platform.stackTraces = (sk_l Γ).stackTraces by rw [X.admits.platform]).trans hfix.2.2.2.2.2.2.2.2.2.2.1
  have Y := sk_rebase X (R' := { frames := sk_fr M, locals := sk_lo M, cells := 1, slots := 6 }) (Nat.le_refl _) (Nat.le_refl _) hf.1 hf.2
  obtain ⟨s', hA⟩ : ∃ z, z = (T.setVm s.vm).setFrames (.invoking m args :: below) := ⟨_, rfl⟩
  rw [← hA] at Y
  have hvm : s'.vm = s.vm := by rw [hA]; rfl
  have hhp : s'.heap = T.heap := by rw [hA]; rfl
  have hW0 : s.WarmedH s'.vm := by rw [hvm]; exact State.WarmedH.refl s
  have hfix' : sk_fix Γ s' := sk_move hfix (fun q a b => by rw [hhp]; exact hS.2.1 q a b) hW0
  have h : ∀ w ∈ Bundle.ownAtoms (sk_own M) ic cls ["java/lang/RuntimeException", "java/lang/Exception"], w.before args s' = true := by
    intro w hw
    have h9 := List.all_eq_true.mp hat w hw
    simp only [sk_thr, Bool.or_eq_true, Bool.and_eq_true, decide_eq_true_eq] at h9
    rcases h9 with ((((⟨q1, q2⟩ | q) | rfl) | rfl) | rfl) | rfl
    · exact sk_goodTab q2 hvm.symm (hts w (List.mem_filter.mpr ⟨q1, q2⟩))
    · exact va_Nw.use (sk_nwTab (sk_nw_ok w q)) (hfix'.2.1 w q)
    · exact sk_isRef hfix'.2.2.2.2.1.1
    · exact sk_isRef hfix'.2.2.2.2.2.1.1
    · exact hfix'.2.2.2.2.1.2.word
    · exact hfix'.2.2.2.2.2.1.2.word
  have hown' : s'.vm.findClass (sk_own M) = some m.cls := by rw [hvm]; exact hC.2.2.2.2.2.1
  have hins : (Cond.instantiable cls 6).before args s' = true := h _ (by simp [Bundle.ownAtoms])
  have hb := hC.2.1
  obtain ⟨vm₁, cX, kX, hfX, hkX, -, -, X₁, st1⟩ := Y.newCold hC.1 (own := sk_own M) (C := cls) (index := ik) (n := 6) hown' (sk_goodTab (sk_good _ h1) hvm.symm (hts _ h1)) hins (sk_goodTab (sk_good _ h2) hvm.symm (hts _ h2))
    (g := F0 m pc ls (S.map (sk_tr Γ))) rfl (by rw [hb]; exact d0) (Nat.le_refl _) (Nat.le_refl _)
  generalize hT1 : (T.setVm vm₁).pushCell { cls := cX, slots := kX.instanceTypes.map defaultValue, vm := .none } = T1 at X₁ st1
  have hcat1 : (Value.ref T.heap.size).category = 1 := rfl
  have hcellA : T1.heap[T.heap.size]? = some (freshCell cX kX) := by rw [← hT1]; exact State.heap_pushCell_size _ _
  have d3' : decode c.code (pc + 3) = .ok (.dup, 1) := by rw [hb]; exact d3
  have d4' : decode c.code (pc + 4) = .ok (.ldc is, 2) := by rw [hb]; exact d4
  have hstr' : vk_R (sk_own M) is text (sk_sa Γ i) s' := by rw [hown]; exact hfix'.2.2.2.2.2.2.1 i _ hstr
  have hout : ∀ x ∈ c.exceptionTable.toList, covers x (pc + 6 + 3) = false := by
    rw [hC.2.2.2.2.2.2.2.2.1, ht]
    intro x hx
    cases hx
  have hsum : ((S.map (sk_tr Γ)).map fun v => v.category).sum ≤ 8 := by rw [sk_sumCat]; exact hcat
  obtain ⟨U, hsteps, hrun, hend, hW, hsame, ce, hce, hO⟩ := X₁.ctorThrowS hC.1 htr (own := sk_own M) (cls := cls) (names := ["java/lang/RuntimeException", "java/lang/Exception"]) (ic := ic) hown' hcls (by decide +kernel) h (fun x hx => nomatch hx) hfX hkX hcellA (by rw [hhp]; exact Nat.le_refl _) (msg := .ref (sk_sa Γ i)) rfl
    (g := { method := m, pc := pc + 6, locals := ls, stack := .ref (sk_sa Γ i) :: .ref T.heap.size :: .ref T.heap.size :: S.map (sk_tr Γ), locked := none }) rfl (hl.1.trans hC.2.2.1.symm) rfl rfl (rest := S.map (sk_tr Γ)) rfl
    (by rw [hb]; exact d6) (by rw [hb]; exact d9) hout hR.1 (by
      have hz : 2 * (F0 m pc ls (S.map (sk_tr Γ))).monitorRoom + ((S.map (sk_tr Γ)).map fun v => v.category).sum ≤ 8 := lv_room hsum
      have hz2 : 2 * (F0 m pc ls (S.map (sk_tr Γ))).monitorRoom = 2 * ({ method := m, pc := pc + 6, locals := ls, stack := .ref (sk_sa Γ i) :: .ref T.heap.size :: .ref T.heap.size :: S.map (sk_tr Γ), locked := none } : JFrame).monitorRoom := rfl
      have hz3 := hR.2
      simp only [List.map_cons, List.sum_cons, hcat1, List.length_cons, List.length_nil]
      show _ ≤ sk_lo M
      omega) hC.2.2.2.2.1
  obtain ⟨e1, e2, e3, e4, e5, e6⟩ := id hsame
  have hWs : s.WarmedH U.vm := State.WarmedH.trans hW0 hW
  have old : ∀ q : Nat, q < T.heap.size → U.heap[q]? = T.heap[q]? := by
    intro q hq
    have hq' : q < s'.heap.size := by rw [hhp]; exact hq
    obtain ⟨c9, f1, f2, f3, f4⟩ := e6 q _ (Array.getElem?_eq_getElem hq')
    have hs9 : c9.slots = (s'.heap[q]).slots := Array.ext_getElem? fun j => f4 j (by simp)
    have h9 : c9 = s'.heap[q] := by rw [hs9] at f2; exact f2
    have f5 : U.heap[q]? = some c9 := f1
    rw [f5, h9, ← hhp, Array.getElem?_eq_getElem hq']
  have hge : T.heap.size ≤ U.heap.size := by rw [← hhp]; exact e2
  have hall : s.sameButNew ({ U with vm := s.vm } : State) locs mc ms := by
    subst hA
    have h2 : (T.setVm s.vm).sameButNew ({ U with vm := s.vm } : State) [] (0 + 1) (0 + 6) := by
      rw [State.setFrames_setFrames] at e1
      exact ⟨e1, e2, e3, e4, e5, e6⟩
    have h3 := X.same.trans h2
    rw [List.append_nil] at h3
    exact h3.mono hf.1 hf.2
  have hH' : sk_hp Γ (false, g.2.1, g.2.2) I J U.heap := ⟨hH.1.kept (fun k x hx => old x.1 ((hH.1 k x hx).lt)), Nat.le_trans hH.2.1 hge, (fun h => by cases h), hH.2.2.2⟩
  refine ⟨U, ?_, .threw T.heap.size, hrun, hend, Or.inr ⟨T.heap.size, cls, ce, (false, g.2.1, g.2.2), I, J, locs, rfl, hq, hH', ⟨Nat.le_trans hS.1 hge, fun q a b => (old q (Nat.lt_of_lt_of_le a hS.1)).trans (hS.2.1 q a b)⟩, hce, hO.vm, ?_, hWs, hall, hS.2.2⟩⟩
  · refine st1 _ ?_
    show Steps p.tables e below (T1.setTop { method := m, pc := pc + 3, locals := ls, stack := .ref T.heap.size :: S.map (sk_tr Γ), locked := none }) _
    have hexec := hC.1
    jvm_step X₁.here [X₁.here.top, hexec, d3', Value.category]
    exact X₁.ldcString hC.1 (own := sk_own M) (text := text) (index := is) (a := sk_sa Γ i) hown' hstr'.1 hstr'.2
      (g := { method := m, pc := pc + 4, locals := ls, stack := .ref T.heap.size :: .ref T.heap.size :: S.map (sk_tr Γ), locked := none }) rfl d4' _ hsteps
  · have h9 := hO.cls
    rw [hvm] at h9
    exact h9
end SKX
