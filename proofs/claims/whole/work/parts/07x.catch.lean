/-! a catch behind rows that are passed: the search notes the catch types on its way -/
theorem sk_go1 {Q : Handler → Pre} {E : CtlPost} {e : Env} {d : Bool} {acts : List Action} {s : State} {f : JFrame} {a : Addr} {x : ExceptionTableEntry} {t : List ExceptionTableEntry} {c : ClassId} {cell : Cell}
    (hx : covers x f.pc = true) (h0 : x.catchType ≠ 0) (hl : s.vm.ClassLinks e.platform f.method.cls x.catchType c) (hcell : s.heap[a]? = some cell) (hobj : ∀ k, cell.vm ≠ .statics k) (hk : ∃ k, s.vm.classes[cell.cls]? = some k) (hc : ∃ k, s.vm.classes[c]? = some k) :
    wp (findHandler.go f a (x :: t)) Q E e d acts s ↔ (if s.vm.assignable cell.cls c = true then Q (.found x.handlerPc) d acts (s.setVm (s.vm.noted f.method.cls x.catchType (.cls c))) else wp (findHandler.go f a t) Q E e d acts (s.setVm (s.vm.noted f.method.cls x.catchType (.cls c)))) := by
  have al : s.vm.Alike (s.vm.noted f.method.cls x.catchType (.cls c)) := (Vm.Alike.refl s.vm).noted _ _ _
  have res := (resolveClass_links e.toSetting hl).op (op := VmOp.resolveClass f.method.cls x.catchType) rfl
  have r1 := res.1
  have r2 := res.2
  obtain ⟨u, hu⟩ := hk
  obtain ⟨w, hw⟩ := hc
  obtain ⟨u', hu', -⟩ := al.2.2 _ _ hu
  obtain ⟨w', hw', -⟩ := al.2.2 _ _ hw
  simp only [covers] at hx
  by_cases hfit : s.vm.assignable cell.cls c = true
  · rw [if_pos hfit]
    have hf : (s.vm.noted f.method.cls x.catchType (.cls c)).assignable cell.cls c = true := by rw [al.assignable]; exact hfit
    simp [findHandler.go, hx, h0, r1, r2, hcell, hobj, hu', hw', hf, VmOp.dirties, VmOp.acts]
  · rw [if_neg hfit]
    have hf : (s.vm.noted f.method.cls x.catchType (.cls c)).assignable cell.cls c = false := by rw [al.assignable]; simpa using hfit
    simp [findHandler.go, hx, h0, r1, r2, hcell, hobj, hu', hw', hf, VmOp.dirties, VmOp.acts]
/-- the search over the rows: those ahead link to classes that don't take the object, the last to one that does -/
theorem sk_goAll {e : Env} {s0 : State} {f : JFrame} {a : Addr} {cell : Cell} {x : ExceptionTableEntry} {c : ClassId} (suf : List ExceptionTableEntry) (hobj : ∀ k, cell.vm ≠ .statics k) (hk : ∃ k, s0.vm.classes[cell.cls]? = some k) (hx : covers x f.pc = true) (h0 : x.catchType ≠ 0)
    (hl : s0.vm.ClassLinks e.platform f.method.cls x.catchType c) (hfit : s0.vm.assignable cell.cls c = true) : ∀ (pre : List ExceptionTableEntry) (S : State), s0.WarmedH S.vm → S.heap[a]? = some cell →
      (∀ y ∈ pre, y.catchType ≠ 0 ∧ ∃ c', s0.vm.ClassLinks e.platform f.method.cls y.catchType c' ∧ s0.vm.assignable cell.cls c' = false) →
      ∃ vm', s0.WarmedH vm' ∧ ∀ (Q : Handler → Pre) (E : CtlPost) (d : Bool) (acts : List Action), wp (findHandler.go f a (pre ++ x :: suf)) Q E e d acts S ↔ Q (.found x.handlerPc) d acts (S.setVm vm')
  | [], S, hW, hcell, _ => by
    obtain ⟨u, hu⟩ := hk
    obtain ⟨u', hu', -⟩ := hW.alike.2.2 _ _ hu
    obtain ⟨dk, _, _, kt, hd, _, _, _, _, hkt, _, hop⟩ := hl.here
    obtain ⟨kt', hkt', -⟩ := hW.alike.2.2 _ _ hkt
    have hf : S.vm.assignable cell.cls c = true := by rw [hW.alike.assignable]; exact hfit
    refine ⟨_, hW.noted hd hop (State.rightAt_cls hl), fun Q E d acts => ?_⟩
    have := sk_go1 (Q := Q) (E := E) (d := d) (acts := acts) (t := suf) hx h0 (hW.classLinks hl) hcell hobj ⟨u', hu'⟩ ⟨kt', hkt'⟩
    rw [if_pos hf] at this
    exact this
  | y :: ys, S, hW, hcell, hp => by
    have hp' : ∀ z ∈ ys, z.catchType ≠ 0 ∧ ∃ c', s0.vm.ClassLinks e.platform f.method.cls z.catchType c' ∧ s0.vm.assignable cell.cls c' = false := fun z hz => hp z (List.mem_cons_of_mem _ hz)
    by_cases hc : covers y f.pc = true
    · obtain ⟨hy0, c', hl', hno⟩ := hp y (List.mem_cons_self ..)
      obtain ⟨u, hu⟩ := hk
      obtain ⟨u', hu', -⟩ := hW.alike.2.2 _ _ hu
      obtain ⟨dk, _, _, kt, hd, _, _, _, _, hkt, _, hop⟩ := hl'.here
      obtain ⟨kt', hkt', -⟩ := hW.alike.2.2 _ _ hkt
      have hf : ¬ S.vm.assignable cell.cls c' = true := by rw [hW.alike.assignable, hno]; simp
      obtain ⟨vm', hW', hq⟩ := sk_goAll suf hobj ⟨u, hu⟩ hx h0 hl hfit ys (S.setVm (S.vm.noted f.method.cls y.catchType (.cls c'))) (hW.noted hd hop (State.rightAt_cls hl')) hcell hp'
      refine ⟨vm', hW', fun Q E d acts => ?_⟩
      have := sk_go1 (Q := Q) (E := E) (d := d) (acts := acts) (t := ys ++ x :: suf) hc hy0 (hW.classLinks hl') hcell hobj ⟨u', hu'⟩ ⟨kt', hkt'⟩
      rw [if_neg hf] at this
      exact this.trans (hq Q E d acts)
    · obtain ⟨vm', hW', hq⟩ := sk_goAll suf hobj hk hx h0 hl hfit ys S hW hcell hp'
      exact ⟨vm', hW', fun Q E d acts => (W.findHandler_go_skip (by simpa using hc)).trans (hq Q E d acts)⟩
/-- from the note of a throw to the handler -/
theorem sk_toH {p : Program} {l : Launch} {e : Env} {R : Room} {s : State} {m0 : MethodId} {args : Array Value} {below : List Frame} {meth : Method} {c : Code} {T : State} {locs : List Loc} {cells slots : Nat} (X : Stand p l e R s m0 args below meth c T locs cells slots) (a : Addr) {g : JFrame} (hg : g.method = m0)
    {cell : Cell} (hcell : T.heap[a]? = some cell) (hobj : cell.vm.isStatics = false) (hk : ∃ k, s.vm.classes[cell.cls]? = some k) (pre : List ExceptionTableEntry) (x : ExceptionTableEntry) (suf : List ExceptionTableEntry) (hsp : c.exceptionTable.toList = pre ++ x :: suf)
    (hp : ∀ y ∈ pre, y.catchType ≠ 0 ∧ ∃ c', s.vm.ClassLinks e.platform m0.cls y.catchType c' ∧ s.vm.assignable cell.cls c' = false) (hx : covers x g.pc = true) (h0 : x.catchType ≠ 0) {ct : ClassId} (hl : s.vm.ClassLinks e.platform m0.cls x.catchType ct) (hfit : s.vm.assignable cell.cls ct = true) :
    ∃ vm', Stand p l e R s m0 args below meth c (T.setVm vm') locs cells slots ∧ Steps p.tables e below ((T.setTop g).pushFrame (.throwing a)) ((T.setVm vm').setTop { g with pc := x.handlerPc, stack := [.ref a] }) := by
  subst hg
  have hv : ((T.setTop g).pushFrame (.throwing a)).vm = T.vm := throwing_vm T g a
  have hh : ((T.setTop g).pushFrame (.throwing a)).heap = T.heap := throwing_heap T g a
  obtain ⟨vm', hW', hq⟩ := sk_goAll (f := g) (a := a) suf (VmData.ne_statics_of hobj) hk hx h0 hl hfit pre ((T.setTop g).pushFrame (.throwing a)) (by rw [hv]; exact X.warmed) (by rw [hh]; exact hcell) hp
  refine ⟨vm', X.noted hW', ?_⟩
  have hfind : ∀ (Q : Handler → Pre) (E : CtlPost) (d : Bool) (acts : List Action), wp (findHandler g a) Q E e d acts ((T.setTop g).pushFrame (.throwing a)) ↔ Q (.found x.handlerPc) d acts (((T.setTop g).pushFrame (.throwing a)).setVm vm') := by
    intro Q E d acts
    rw [W.findHandler_eq (meth := meth) (code := c) (by rw [hv]; exact X.method') X.code, hsp]
    exact hq Q E d acts
  obtain ⟨hgo, hw⟩ := X.here.throwing a
  refine Steps.head hgo hw ?_
  have hstep : ∀ r, (stepThrowing e ((T.setTop g).pushFrame (.throwing a)) a (.java g :: r)).1 = (((T.setTop g).pushFrame (.throwing a)).setVm vm').setFrames (.java { g with pc := x.handlerPc, stack := [.ref a] } :: r) := by
    intro r
    simp only [stepThrowing, searchFrame, vmDo]
    generalize hr : Sem.go _ e false [] ((T.setTop g).pushFrame (.throwing a)) = res
    obtain ⟨as, rfl, -⟩ := Sem.eq_ok_of hr (a := Handler.found x.handlerPc) (s' := ((T.setTop g).pushFrame (.throwing a)).setVm vm') (acts' := []) (by simp [hfind _ _ _ _])
    rfl
  rw [stepThread_throwing (frames_entered X.here.top _), hstep]
  obtain ⟨g1, hfr⟩ := X.frames_eq
  have e1 : (((T.setTop g).pushFrame (.throwing a)).setVm vm').setFrames (.java { g with pc := x.handlerPc, stack := [.ref a] } :: T.frames.tail) = (T.setVm vm').setTop { g with pc := x.handlerPc, stack := [.ref a] } := by
    have hfr' : (T.setVm vm').frames = .java g1 :: below := hfr
    rw [State.setTop_of_frames _ hfr', hfr, List.tail_cons, State.pushFrame, State.setTop_of_frames _ hfr]
    have sw : ∀ (u : State) (F G : List Frame), ((u.setFrames F).setVm vm').setFrames G = (u.setVm vm').setFrames G := fun u F G => State.setFrames_setFrames (u.setVm vm') F G
    rw [sw, sw]
  rw [e1]
  exact Steps.refl _
