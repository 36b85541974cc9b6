/-! ends, calls, throws -/
section SKC
variable {Γ : sk_T} {M : sk_M} {mc ms pc : Nat} {L : List (Nat × Value)} {S : List Value} {g : sk_G} {I : sk_I} {J : sk_J} {kc kn : Nat} {Q : sk_Q}
theorem sk_retW {p : Program} {e : Env} {R : Room} {s : State} {m : MethodId} {args : Array Value} {below : List Frame} {meth : Method} {c : Code} {H : Heap} {locs : List Loc} {f : JFrame} (k : W p (sk_l Γ) e R s m args below meth c H locs mc ms (MQ below (sk_Qr Γ Q) args s mc ms (sk_A Γ)) f) : W p (sk_l Γ) e R s m args below meth c H locs mc ms (sk_Fin Γ Q mc ms below args s) f := by
  intro T hT X
  obtain ⟨t, a1, o, b1, b2, b3, b4⟩ := k T hT X
  exact ⟨t, a1, o, b1, b2, Or.inl ⟨b3, b4⟩⟩
theorem sk_ireturn {v : Int32} (d : decode (sk_cc M) pc = .ok (.ireturn, 1)) (hr : sk_ret M = some .int) (hk : kc ≤ mc) (hn : kn ≤ ms) (hq : Q (.inl (some (.int v))) g I J) : sk_W Γ M mc ms pc L [.int v] g I J kc kn Q := by
  intro p e s m args below meth c H locs ls hC hH hS hl
  refine W.widen hk hn (sk_retW ?_)
  exact W.iret hC.1 hC.2.1 (hC.2.2.2.1.trans hr) (fun t ht hW => ⟨some (.int v), g, I, J, rfl, hq, by rw [ht]; exact hH, hS.F ht⟩) hS.2.2 d hC.2.2.2.2.1
theorem sk_zreturn {v : Int32} (d : decode (sk_cc M) pc = .ok (.ireturn, 1)) (hr : sk_ret M = some .boolean) (hv : narrow .boolean (.int v) = .int v) (hk : kc ≤ mc) (hn : kn ≤ ms) (hq : Q (.inl (some (.int v))) g I J) : sk_W Γ M mc ms pc L [.int v] g I J kc kn Q := by
  intro p e s m args below meth c H locs ls hC hH hS hl
  refine W.widen hk hn (sk_retW ?_)
  exact W.zret hC.1 hC.2.1 (hC.2.2.2.1.trans hr) hv (fun t ht hW => ⟨some (.int v), g, I, J, rfl, hq, by rw [ht]; exact hH, hS.F ht⟩) hS.2.2 d hC.2.2.2.2.1
theorem sk_lreturn {v : Int64} (d : decode (sk_cc M) pc = .ok (.lreturn, 1)) (hr : sk_ret M = some .long) (hk : kc ≤ mc) (hn : kn ≤ ms) (hq : Q (.inl (some (.long v))) g I J) : sk_W Γ M mc ms pc L [.long v] g I J kc kn Q := by
  intro p e s m args below meth c H locs ls hC hH hS hl
  refine W.widen hk hn (sk_retW ?_)
  exact W.lret hC.1 hC.2.1 (hC.2.2.2.1.trans hr) (fun t ht hW => ⟨some (.long v), g, I, J, rfl, hq, by rw [ht]; exact hH, hS.F ht⟩) hS.2.2 d hC.2.2.2.2.1
theorem sk_vreturn (d : decode (sk_cc M) pc = .ok (.return_, 1)) (hr : sk_ret M = none) (hk : kc ≤ mc) (hn : kn ≤ ms) (hq : Q (.inl none) g I J) : sk_W Γ M mc ms pc L [] g I J kc kn Q := by
  intro p e s m args below meth c H locs ls hC hH hS hl
  refine W.widen hk hn (sk_retW ?_)
  exact W.vret hC.1 hC.2.1 (hC.2.2.2.1.trans hr) (fun t ht hW => ⟨none, g, I, J, rfl, hq, by rw [ht]; exact hH, hS.F ht⟩) hS.2.2 d hC.2.2.2.2.1
/-- a body gives the contract -/
theorem sk_spec {as : List Value} (hy : plainName (sk_y M).cls = true) (hown : (sk_y M).cls = sk_own M) (hn : (lg_sl as).length ≤ sk_nl M) (h : sk_W Γ M mc ms 0 (lv_args 0 as) [] g I J 0 0 Q) : sk_S Γ M mc ms as g I J Q := by
  have his : ∀ (args : Array Value) (s : State) (m : MethodId), (headSpec (sk_head M :: sk_ts) (sk_rm M mc ms)).pre.before args s = true → s.methodNamed? (sk_y M) = some m →
      ∃ meth c, s.vm.method? m = some meth ∧ meth.code = some c ∧ c.code = sk_cc M ∧ c.maxLocals = sk_nl M ∧ meth.sig.returnType = sk_ret M ∧ meth.locks = false ∧ c.exceptionTable.toList = tableOf (sk_tab M) := by
    intro args s m h hn
    have hh := atoms_spec (ws := sk_head M :: sk_ts) h _ List.mem_cons_self
    by_cases ht : sk_tab M = []
    · rw [sk_head, if_pos ht] at hh
      obtain ⟨meth, c, h1, h2, h3, h4, h5, h6, h7, -⟩ := Cond.code_spec hn hh
      exact ⟨meth, c, h1, h2, h3, h4, h5, h6, by rw [ht, Array.isEmpty_iff.mp h7]; rfl⟩
    · rw [sk_head, if_neg ht] at hh
      obtain ⟨m9, meth, c, hn9, h1, h2, h3, h4, h7, h5, h6, -⟩ := Cond.codeWith_spec hh
      cases hn.symm.trans hn9
      exact ⟨meth, c, h1, h2, h3, h4, h5, h6, by rw [← h7, table_eq]⟩
  refine MetFree.of_bodyS (code := sk_cc M) (maxLocals := sk_nl M) (ret := sk_ret M) hy (fun args s m h hn => ?_) ?_
  · obtain ⟨meth, c, h1, h2, h3, h4, h5, h6, -⟩ := his args s m h hn
    exact ⟨meth, c, h1, h2, h3, h4, h5, h6⟩
  · intro p e s m args below meth c s₁ B hml hv _
    obtain ⟨rfl, hw⟩ := hv
    have hts := atoms_spec (ws := sk_head M :: sk_ts) B.pre
    have X0 : Stand p (sk_l Γ) e (sk_rm M mc ms) s m ((as.map (sk_tr Γ)).toArray) below meth c s₁ [] 0 0 := Stand.of_body B
    have htab : c.exceptionTable.toList = tableOf (sk_tab M) := by
      obtain ⟨meth9, c9, h1, h2, -, -, -, -, h7⟩ := his _ s m B.pre B.named
      cases Option.some.inj (h1.symm.trans B.method)
      cases Option.some.inj (h2.symm.trans X0.code)
      exact h7
    have hC : sk_cx Γ M p s m ((as.map (sk_tr Γ)).toArray) meth c := ⟨B.exec, B.bytes, hml, B.returns, B.notSynchronized, hown ▸ findClass_of_methodNamed B.named, fun w h => hts w (List.mem_cons_of_mem _ h), hw.2, htab, (name_of_methodNamed B.named B.method).1, hw.1.2.1⟩
    have hl := lv_entry (as.map (sk_tr Γ)) (n := sk_nl M) (by rw [sk_sl]; exact hn)
    have hh0 : s₁.heap = s.heap := by rw [B.state]; rfl
    have K := h p e s m _ below meth c s.heap [] _ hC hw.1 va_S.rf (by rw [← sk_args]; exact hl)
    obtain ⟨t, a1, o, b1, b2, b3⟩ := K s₁ hh0 X0
    rw [lg_entry_eq]
    exact ⟨t, o, a1, b1, b2, b3⟩
theorem sk_goodIn {ws : List Cond} (h : ∀ w ∈ ws, w ∈ sk_ts) : GoodIn sk_ts ws := fun w hw => ⟨h w hw, good_of_word (sk_good w (h w hw))⟩
theorem sk_pay {s : State} {args : Array Value} (hts : ∀ w ∈ sk_ts, w.before args s = true) {w : Cond} (hw : w ∈ sk_ts) : ∀ (a' : Array Value) (U : State), s.WarmedH U.vm → w.before a' U = true := fun a' U hW => word_at hW (good_of_word (sk_good w hw)) (hts w hw)
/-- into a method and back, by its contract -/
theorem sk_back {M' : sk_M} {mc' ms' : Nat} {as : List Value} {Q' : sk_Q} {p : Program} {e : Env} {R : Room} {s T : State} {m mk : MethodId} {args : Array Value} {below : List Frame} {meth : Method} {c : Code} {locs : List Loc} {f : JFrame} {ig : Instr}
    (X : Stand p (sk_l Γ) e R s m args below meth c T locs kc kn) (hg : f.method = m) (hsize : f.locals.size = c.maxLocals) (hdg : decode c.code f.pc = .ok (ig, 3)) (hW : 2 * f.monitorRoom + (f.stack.map fun v => v.category).sum ≤ 8) (hn : T.methodNamed? (sk_y M') = some mk)
    (hM : sk_S Γ M' mc' ms' as g I J Q') (hws : ∀ w ∈ sk_head M' :: sk_ts, ∀ (a' : Array Value) (U : State), s.WarmedH U.vm → w.before a' U = true) (hini : ∀ (a' : Array Value) (U : State), s.WarmedH U.vm → (Cond.initialized (sk_y M').cls).before a' U = true)
    (hfr : sk_fr M' + 1 ≤ R.frames) (hlo : 8 + (sk_nl M' + 11) + sk_lo M' ≤ R.locals) (hc : kc + mc' ≤ R.cells) (hs : kn + ms' ≤ R.slots) (hw : sk_world Γ g I J T) :
    (∃ (r : Option Value) (g' : sk_G) (I' : sk_I) (J' : sk_J) (T' : State) (L' : List Loc), Stand p (sk_l Γ) e R s m args below meth c T' (locs ++ L') (kc + mc') (kn + ms') ∧ (∀ z ∈ L', sk_A Γ z.base) ∧ sk_hp Γ g' I' J' T'.heap ∧ va_F (sk_A Γ) T T' ∧ Q' (.inl r) g' I' J' ∧
      Steps p.tables e below (doInvoke e (T.setTop f) [] mk (as.map (sk_tr Γ)).toArray).1 (T'.setTop { f with pc := f.pc + 3, stack := (r.map (sk_tr Γ)).toList ++ f.stack })) ∨
    (∃ (q : Addr) (E : String) (ce : Cell) (g' : sk_G) (I' : sk_I) (J' : sk_J) (T' : State) (L' : List Loc), Stand p (sk_l Γ) e R s m args below meth c T' (locs ++ L') (kc + mc') (kn + ms') ∧ (∀ z ∈ L', sk_A Γ z.base) ∧ sk_hp Γ g' I' J' T'.heap ∧ va_F (sk_A Γ) T T' ∧ Q' (.inr E) g' I' J' ∧ T'.heap[q]? = some ce ∧ ce.vm = .none ∧ s.vm.findClass E = some ce.cls ∧
      Steps p.tables e below (doInvoke e (T.setTop f) [] mk (as.map (sk_tr Γ)).toArray).1 ((T'.setTop f).pushFrame (.throwing q))) := by
  generalize ha : (as.map (sk_tr Γ)).toArray = a
  have h1 : (headSpec (sk_head M' :: sk_ts) (sk_rm M' mc' ms')).pre.before a T = true := atoms_intro fun w hw => hws w hw _ _ X.warmed
  have h2 := hws _ List.mem_cons_self a T X.warmed
  have hPc : va_Pc (as.map (sk_tr Γ)) (sk_world Γ g I J) a (T.calling f mk a) := sk_blind Γ _ g I J _ _ _ _ ⟨ha.symm, hw⟩
  obtain ⟨methY, cY, hmY, hcY, hlY⟩ : ∃ methY cY, T.vm.method? mk = some methY ∧ methY.code = some cY ∧ cY.maxLocals = sk_nl M' := by
    by_cases ht : sk_tab M' = []
    · rw [sk_head, if_pos ht] at h2
      obtain ⟨methY, cY, q1, q2, -, q4, -⟩ := Cond.code_spec hn h2
      exact ⟨methY, cY, q1, q2, q4⟩
    · rw [sk_head, if_neg ht] at h2
      obtain ⟨m9, methY, cY, hn9, q1, q2, -, q4, -⟩ := Cond.codeWith_spec h2
      cases Option.some.inj (hn9.symm.trans hn)
      exact ⟨methY, cY, q1, q2, q4⟩
  obtain ⟨kY, hkY, -⟩ := className_of_methodNamed hn
  have hinitY : kY.init = .initialized := Cond.initialized_spec (findClass_of_methodNamed hn) hkY (hini a T X.warmed)
  have h : At T f.method c below := by rw [hg]; exact X.here
  have happ : (headSpec (sk_head M' :: sk_ts) (sk_rm M' mc' ms')).appliesLoose (sk_y M') e.platform (T.calling f mk a) = true :=
    Spec.appliesLoose_calling (g := f) h hdg hn hkY hinitY (X.room_calling (g := f) (R' := sk_rm M' mc' ms') hsize hmY hcY hfr (by rw [hlY]; show _ + _ + sk_lo M' ≤ _; omega) hc hs) h1
  obtain ⟨mid, hmid⟩ := h.above
  have hfrm : (T.setTop f).frames = (.java f :: mid) ++ below := by rw [State.frames_setTop' f h.top, hmid]; rfl
  obtain ⟨o, s₂, hsteps, -, hend, hq⟩ := Steps.callFree hM p X.admits X.cas X.clock (acts := []) hfrm happ hPc trivial
  have hq' : sk_End Γ Q' mc' ms' a (T.calling f mk a) o s₂ := hq
  rw [State.frames_setTop' f h.top] at hend
  obtain ⟨g₀, hg0⟩ := Option.isSome_iff_exists.mp h.top
  obtain ⟨r, hr⟩ := State.topJava?_eq_some.mp hg0
  have hr' : (({ T with heap := s₂.heap, slotsUsed := s₂.slotsUsed } : State).setVm s₂.vm).frames = .java g₀ :: r := hr
  have common : ∀ L9 : List Loc, (T.calling f mk a).WarmedH s₂.vm → (T.calling f mk a).sameButNew ({ s₂ with vm := (T.calling f mk a).vm } : State) L9 mc' ms' →
      Stand p (sk_l Γ) e R s m args below meth c (({ T with heap := s₂.heap, slotsUsed := s₂.slotsUsed } : State).setVm s₂.vm) (locs ++ L9) (kc + mc') (kn + ms') ∧
      s₂ = ({ (T.calling f mk a).setFrames s₂.frames with heap := s₂.heap, slotsUsed := s₂.slotsUsed } : State).setVm s₂.vm := by
    intro L9 hW₂ hsm
    obtain ⟨e2, q2, q3, q4, q5, q6⟩ := hsm
    have hW' : T.WarmedH s₂.vm := hW₂
    have hsame : T.sameButNew ({ T with heap := s₂.heap, slotsUsed := s₂.slotsUsed } : State) L9 mc' ms' := by
      refine ⟨?_, q2, q3, q4, q5, q6⟩
      obtain ⟨t, ht, -⟩ := State.frames_cons hr
      show ({ T with heap := s₂.heap, slotsUsed := s₂.slotsUsed } : State) = { T.setFrames T.frames with heap := s₂.heap, slotsUsed := s₂.slotsUsed }
      rw [State.setFrames_self ht]
    refine ⟨⟨X.admits, X.cas, X.clock, X.frames, X.room, X.hears, X.method, X.code, (X.here.setHeapUsed s₂.heap s₂.slotsUsed).setVm hW'.alike, X.tail, State.WarmedH.trans X.warmed hW', X.limits, X.bytes, X.same.trans (hsame.setVm s.vm)⟩, ?_⟩
    have : s₂ = ({ s₂ with vm := (T.calling f mk a).vm } : State).setVm s₂.vm := rfl
    rw [e2] at this
    exact this
  rcases hq' with ⟨⟨v, g', I', J', rfl, hQ, hH, hF⟩, L9, ⟨-, hW₂, hsm⟩, hL⟩ | ⟨q, E, ce, g', I', J', L9, rfl, hQ, hH, hF, hce, hcv, hcl, hW₂, hsm, hL⟩
  · obtain ⟨XN, e3⟩ := common L9 hW₂ hsm
    obtain ⟨c₂, i₂, len₂, hc₂, hd₂, hf₂⟩ := hend
    have hW' : T.WarmedH s₂.vm := hW₂
    have hcc : c₂ = c := by
      have h1 : s₂.code? f.method = T.code? f.method := by
        rw [State.code?_eq, State.code?_eq, hW'.alike.method?]
      exact Option.some.inj (hc₂.symm.trans (h1.trans h.code))
    subst hcc
    have hlen : len₂ = 3 := by rw [hdg] at hd₂; cases hd₂; rfl
    subst hlen
    have hs₂ : s₂ = (({ T with heap := s₂.heap, slotsUsed := s₂.slotsUsed } : State).setVm s₂.vm).setTop { f with pc := f.pc + 3, stack := (v.map (sk_tr Γ)).toList ++ f.stack } := by
      refine e3.trans ?_
      rw [hf₂, State.calling_eq h.top, State.setFrames_setFrames, State.setTop_of_frames _ hr', hr]
      rfl
    refine Or.inl ⟨v, g', I', J', _, L9, XN, hL, hH, hF, hQ, ?_⟩
    rw [← hs₂]
    exact hsteps
  · obtain ⟨XN, e3⟩ := common L9 hW₂ hsm
    have hf₂ : s₂.frames = .throwing q :: .java f :: T.frames.tail := hend
    have hs₂ : s₂ = ((({ T with heap := s₂.heap, slotsUsed := s₂.slotsUsed } : State).setVm s₂.vm).setTop f).pushFrame (.throwing q) := by
      refine e3.trans ?_
      rw [hf₂, State.calling_eq h.top, State.setFrames_setFrames, State.pushFrame, State.frames_setTop _ hr', State.setTop_of_frames _ hr', State.setFrames_setFrames, hr]
      rfl
    have hcl' : s.vm.findClass E = some ce.cls := by
      have h9 : T.vm.findClass E = some ce.cls := hcl
      rw [X.warmed.alike.findClass] at h9
      exact h9
    refine Or.inr ⟨q, E, ce, g', I', J', _, L9, XN, hL, hH, hF, hQ, hce, hcv, hcl', ?_⟩
    rw [← hs₂]
    exact hsteps
end SKC
