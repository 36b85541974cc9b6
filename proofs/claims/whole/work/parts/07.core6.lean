/-! calls -/
section SKD
variable {Γ : sk_T} {M : sk_M} {mc ms pc : Nat} {L : List (Nat × Value)} {S : List Value} {g : sk_G} {I : sk_I} {J : sk_J} {kc kn : Nat} {Q : sk_Q}
theorem sk_sumCat (Γ : sk_T) (S : List Value) : ((S.map (sk_tr Γ)).map fun v => v.category).sum = (S.map fun v => v.category).sum := by
  rw [List.map_map]
  congr 1
  apply List.map_congr_left
  intro v _
  exact sk_tr_cat Γ v
/-- the words of a callee hold wherever the caller's do -/
theorem sk_wsOf {M' : sk_M} {s : State} {args : Array Value} (hts : ∀ w ∈ sk_ts, w.before args s = true) (hh : sk_head M' ∈ sk_ts) : ∀ w ∈ sk_head M' :: sk_ts, ∀ (a' : Array Value) (U : State), s.WarmedH U.vm → w.before a' U = true := by
  intro w hw
  rcases List.mem_cons.mp hw with rfl | hw
  · exact sk_pay hts hh
  · exact sk_pay hts hw
/-- what comes behind a call -/
theorem sk_after {M' : sk_M} {mc' ms' : Nat} {as : List Value} {Q' : sk_Q} {p : Program} {e : Env} {s T T₁ : State} {m mk : MethodId} {args : Array Value} {below : List Frame} {meth : Method} {c : Code} {locs : List Loc} {ls : Array Slot} {f0 : JFrame} {ig : Instr}
    (hC : sk_cx Γ M p s m args meth c) (hl : lv_has ls (sk_nl M) (sk_trL Γ L)) (hH : sk_hp Γ g I J T₁.heap) (hS : va_S (sk_A Γ) s.heap T₁.heap locs) (X : Stand p (sk_l Γ) e (sk_rm M mc ms) s m args below meth c T₁ locs kc kn)
    (hdg : decode c.code pc = .ok (ig, 3)) (hcat : (S.map fun v => v.category).sum ≤ 8) (hn : T₁.methodNamed? (sk_y M') = some mk) (hh : sk_head M' ∈ sk_ts) (hini : Cond.initialized (sk_y M').cls ∈ sk_ts)
    (hR : sk_fr M' + 1 ≤ sk_fr M ∧ 8 + (sk_nl M' + 11) + sk_lo M' ≤ sk_lo M) (hf : kc + mc' ≤ mc ∧ kn + ms' ≤ ms) (hs : sk_S Γ M' mc' ms' as g I J Q')
    (hst : ∀ t, Steps p.tables e below (doInvoke e (T₁.setTop (F0 m pc ls (S.map (sk_tr Γ)))) [] mk (as.map (sk_tr Γ)).toArray).1 t → Steps p.tables e below (T.setTop f0) t)
    (kk : ∀ (r : Option Value) (g' : sk_G) (I' : sk_I) (J' : sk_J), Q' (.inl r) g' I' J' → sk_W Γ M mc ms (pc + 3) L (r.toList ++ S) g' I' J' (kc + mc') (kn + ms') Q)
    (kx : ∀ (E : String) (g' : sk_G) (I' : sk_I) (J' : sk_J), Q' (.inr E) g' I' J' → sk_X Γ M mc ms pc L E g' I' J' (kc + mc') (kn + ms') Q) :
    ∃ t, Steps p.tables e below (T.setTop f0) t ∧ sk_Fin Γ Q mc ms below args s t := by
  have hts := hC.2.2.2.2.2.2.1
  have keep : ∀ (T' : State) (L' : List Loc), va_F (sk_A Γ) T₁ T' → (∀ z ∈ L', sk_A Γ z.base) → va_S (sk_A Γ) s.heap T'.heap (locs ++ L') := fun T' L' hF hL =>
    ⟨Nat.le_trans hS.1 hF.1, fun q h1 h2 => (hF.2 q (Nat.lt_of_lt_of_le h1 hS.1) h2).trans (hS.2.1 q h1 h2), fun q hq => (List.mem_append.mp hq).elim (hS.2.2 q) (hL q)⟩
  have hroom : 2 * (F0 m pc ls (S.map (sk_tr Γ))).monitorRoom + ((F0 m pc ls (S.map (sk_tr Γ))).stack.map fun v => v.category).sum ≤ 8 := lv_room (by rw [sk_sumCat]; exact hcat)
  rcases sk_back X (f := F0 m pc ls (S.map (sk_tr Γ))) rfl (hl.1.trans hC.2.2.1.symm) hdg hroom hn hs (sk_wsOf hts hh) (sk_pay hts hini) hR.1 hR.2 hf.1 hf.2 ⟨hH, sk_move hC.2.2.2.2.2.2.2.1 hS.2.1 X.warmed⟩ with ⟨r, g', I', J', T', L', XN, hL, hH', hF, hQ, st⟩ | ⟨q, E, ce, g', I', J', T', L', XN, hL, hH', hF, hQ, hce, hcv, hcl, st⟩
  · obtain ⟨t2, a1, b1⟩ := kk r g' I' J' hQ p e s m args below meth c T'.heap (locs ++ L') ls hC hH' (keep T' L' hF hL) hl T' rfl XN
    refine ⟨t2, hst t2 (st.trans ?_), b1⟩
    have e9 : (r.toList ++ S).map (sk_tr Γ) = (r.map (sk_tr Γ)).toList ++ S.map (sk_tr Γ) := by cases r <;> rfl
    rw [e9] at a1
    exact a1
  · obtain ⟨t2, a1, b1⟩ := kx E g' I' J' hQ p e s m args below meth c T' (locs ++ L') ls (S.map (sk_tr Γ)) q ce hC hH' (keep T' L' hF hL) hl hce hcv hcl XN
    exact ⟨t2, hst t2 (st.trans a1), b1⟩
theorem sk_callV {M' : sk_M} {mc' ms' : Nat} {Q' : sk_Q} {q ci N idx : Nat} {C : String} {T9 : u_T} {as S' : List Value} (d : decode (sk_cc M) pc = .ok (.invokevirtual idx, 3)) (ho : g.2.1[q]? = some (0, ci, N)) (hc : sk_cl[ci]? = some (C, T9, N))
    (h1 : Cond.methodLink (sk_own M) idx (sk_y M') ∈ sk_ts) (h2 : Cond.instanceMethod (sk_y M') ∈ sk_ts) (h3 : Cond.selects C (sk_y M') (sk_y M') ∈ sk_ts) (h4 : Cond.initialized (sk_y M').cls ∈ sk_ts) (h5 : Cond.code (sk_y M') (sk_cc M') (sk_nl M') (sk_ret M') ∈ sk_ts) (ht : sk_tab M' = [])
    (hd : (sk_y M').cls ≠ "java/lang/invoke/MethodHandle" ∧ (sk_y M').cls ≠ "java/lang/invoke/VarHandle" ∧ (parseMethodDescriptor (sk_y M').desc).map (fun d => d.parameters.length) = some as.length)
    (hR : sk_fr M' + 1 ≤ sk_fr M ∧ 8 + (sk_nl M' + 11) + sk_lo M' ≤ sk_lo M) (hf : kc + mc' ≤ mc ∧ kn + ms' ≤ ms) (hcat : (S.map fun v => v.category).sum ≤ 8) (hst : as.reverse ++ .ref q :: S = S')
    (hs : sk_S Γ M' mc' ms' (.ref q :: as) g I J Q') (kk : ∀ (r : Option Value) (g' : sk_G) (I' : sk_I) (J' : sk_J), Q' (.inl r) g' I' J' → sk_W Γ M mc ms (pc + 3) L (r.toList ++ S) g' I' J' (kc + mc') (kn + ms') Q)
    (kx : ∀ (E : String) (g' : sk_G) (I' : sk_I) (J' : sk_J), Q' (.inr E) g' I' J' → sk_X Γ M mc ms pc L E g' I' J' (kc + mc') (kn + ms') Q) : sk_W Γ M mc ms pc L S' g I J kc kn Q := by
  subst hst
  intro p e s m args below meth c H locs ls hC hH hS hl T hT X
  subst hT
  have hts := hC.2.2.2.2.2.2.1
  have he : (sk_ws Γ g I J)[q]? = some (sk_ad Γ q, .inr (ci, (List.range N).map (fun j => sk_fv Γ (sk_kd ci j) g.2.2 I J q j))) := sk_wsAt Γ g I J ho
  obtain ⟨cellB, hcB, hoB, hclB⟩ := va_recv hC.2.2.2.2.2.2.2.1.1 hH.1 hc he
  obtain ⟨mk, methM, hnamed, hmethM, hstM, habM⟩ := Cond.instanceMethod_spec (hts _ h2)
  obtain ⟨methM', cM, hmethM', -, -, -, -, -, -, hsigM⟩ := Cond.code_spec hnamed (hts _ h5)
  cases hmethM.symm.trans hmethM'
  obtain ⟨c2, r2, m2, q1, q2, q3, q4, kP, hkP, hkPi⟩ := Cond.selects_spec (hts _ h3)
  cases hclB.symm.trans q1
  cases (State.methodFound?_of_named hnamed ⟨hd.1, hd.2.1⟩).symm.trans q2
  cases hnamed.symm.trans q3
  have hselP : selectMethod e.platform s.vm cellB.cls mk = .method mk := by rw [Launch.admits_selectMethod X.admits]; exact q4
  have hlen : ((as.map (sk_tr Γ)).length = methM.sig.parameters.length) := by
    have h9 := hd.2.2
    rw [hsigM] at h9
    rw [List.length_map]
    exact (Option.some.inj h9).symm
  have hdg : decode c.code pc = .ok (.invokevirtual idx, 3) := by rw [hC.2.1]; exact d
  obtain ⟨vm₁, X₁, hstep₁⟩ := X.invokevirtual hC.1 hC.2.2.2.2.2.1 (hts _ h1) hnamed hmethM hstM hkP hkPi ⟨hd.1, hd.2.1⟩ (a := sk_ad Γ q) (cell := cellB) hcB
    (fun z h => by rw [h] at hoB; cases hoB) hselP hmethM habM hkP hkPi (g := F0 m pc ls ((as.reverse ++ .ref q :: S).map (sk_tr Γ))) rfl (argsL := as.map (sk_tr Γ)) (rest := S.map (sk_tr Γ)) hlen (by simp [sk_tr]) hdg
  exact sk_after (T₁ := T.setVm vm₁) (as := .ref q :: as) hC hl hH hS X₁ hdg hcat (X₁.named hnamed) (by rw [sk_head, if_pos ht]; exact h5) h4 hR hf hs (fun t h => hstep₁ _ fun acts => by rw [doInvoke_state]; exact h) kk kx
theorem sk_callS {M' : sk_M} {mc' ms' : Nat} {Q' : sk_Q} {idx : Nat} {as S' : List Value} (d : decode (sk_cc M) pc = .ok (.invokestatic idx, 3))
    (h1 : Cond.methodLink (sk_own M) idx (sk_y M') ∈ sk_ts) (h2 : Cond.static (sk_y M') ∈ sk_ts) (h4 : Cond.initialized (sk_y M').cls ∈ sk_ts) (h5 : sk_head M' ∈ sk_ts)
    (hd : (sk_y M').cls ≠ "java/lang/invoke/MethodHandle" ∧ (sk_y M').cls ≠ "java/lang/invoke/VarHandle" ∧ (parseMethodDescriptor (sk_y M').desc).map (fun d => d.parameters.length) = some as.length)
    (hR : sk_fr M' + 1 ≤ sk_fr M ∧ 8 + (sk_nl M' + 11) + sk_lo M' ≤ sk_lo M) (hf : kc + mc' ≤ mc ∧ kn + ms' ≤ ms) (hcat : (S.map fun v => v.category).sum ≤ 8) (hst : as.reverse ++ S = S')
    (hs : sk_S Γ M' mc' ms' as g I J Q') (kk : ∀ (r : Option Value) (g' : sk_G) (I' : sk_I) (J' : sk_J), Q' (.inl r) g' I' J' → sk_W Γ M mc ms (pc + 3) L (r.toList ++ S) g' I' J' (kc + mc') (kn + ms') Q)
    (kx : ∀ (E : String) (g' : sk_G) (I' : sk_I) (J' : sk_J), Q' (.inr E) g' I' J' → sk_X Γ M mc ms pc L E g' I' J' (kc + mc') (kn + ms') Q) : sk_W Γ M mc ms pc L S' g I J kc kn Q := by
  subst hst
  intro p e s m args below meth c H locs ls hC hH hS hl T hT X
  subst hT
  have hts := hC.2.2.2.2.2.2.1
  obtain ⟨mk, methM, hnamed, hmethM, hsigM⟩ : ∃ mk methM, s.methodNamed? (sk_y M') = some mk ∧ s.vm.method? mk = some methM ∧ parseMethodDescriptor (sk_y M').desc = some methM.sig := by
    have h9 := hts _ h5
    by_cases ht : sk_tab M' = []
    · rw [sk_head, if_pos ht] at h9
      obtain ⟨mk, hnamed⟩ := Cond.code_named h9
      obtain ⟨methM, cM, hmethM, -, -, -, -, -, -, hsigM⟩ := Cond.code_spec hnamed h9
      exact ⟨mk, methM, hnamed, hmethM, hsigM⟩
    · rw [sk_head, if_neg ht] at h9
      obtain ⟨mk, methM, cM, hnamed, hmethM, -, -, -, -, -, -, hsigM⟩ := Cond.codeWith_spec h9
      exact ⟨mk, methM, hnamed, hmethM, hsigM⟩
  have hstatic : methM.isStatic = true := Cond.static_spec hnamed hmethM (hts _ h2)
  obtain ⟨kP, hkP, -⟩ := className_of_methodNamed hnamed
  have hinitP : kP.init = .initialized := Cond.initialized_spec (findClass_of_methodNamed hnamed) hkP (hts _ h4)
  have hlen : ((as.map (sk_tr Γ)).length = methM.sig.parameters.length) := by
    have h9 := hd.2.2
    rw [hsigM] at h9
    rw [List.length_map]
    exact (Option.some.inj h9).symm
  have hdg : decode c.code pc = .ok (.invokestatic idx, 3) := by rw [hC.2.1]; exact d
  obtain ⟨vm₁, X₁, hstep₁⟩ := X.invokestatic hC.1 hC.2.2.2.2.2.1 (hts _ h1) hnamed hmethM hstatic hkP hinitP ⟨hd.1, hd.2.1⟩ (g := F0 m pc ls ((as.reverse ++ S).map (sk_tr Γ))) rfl (argsL := as.map (sk_tr Γ)) (rest := S.map (sk_tr Γ)) hlen (by simp) hdg
  exact sk_after (T₁ := T.setVm vm₁) (as := as) hC hl hH hS X₁ hdg hcat (X₁.named hnamed) h5 h4 hR hf hs (fun t h => hstep₁ _ fun acts => by rw [doInvoke_state]; exact h) kk kx
/-- a constructor -/
theorem sk_callI {M' : sk_M} {mc' ms' : Nat} {Q' : sk_Q} {q idx : Nat} {as S' : List Value} (d : decode (sk_cc M) pc = .ok (.invokespecial idx, 3))
    (h1 : Cond.methodLink (sk_own M) idx (sk_y M') ∈ sk_ts ∨ ∃ host : String, Cond.methodLinkNest (sk_own M) idx (sk_y M') host ∈ sk_nw) (h2 : Cond.instanceMethod (sk_y M') ∈ sk_ts) (h4 : Cond.initialized (sk_y M').cls ∈ sk_ts) (h5 : Cond.code (sk_y M') (sk_cc M') (sk_nl M') none ∈ sk_ts) (ht : sk_tab M' = []) (hret : sk_ret M' = none) (hnm : (sk_y M').name = "<init>")
    (hd : (sk_y M').cls ≠ "java/lang/invoke/MethodHandle" ∧ (sk_y M').cls ≠ "java/lang/invoke/VarHandle" ∧ (parseMethodDescriptor (sk_y M').desc).map (fun d => d.parameters.length) = some as.length)
    (hR : sk_fr M' + 1 ≤ sk_fr M ∧ 8 + (sk_nl M' + 11) + sk_lo M' ≤ sk_lo M) (hf : kc + mc' ≤ mc ∧ kn + ms' ≤ ms) (hcat : (S.map fun v => v.category).sum ≤ 8) (hst : as.reverse ++ .ref q :: S = S')
    (hs : sk_S Γ M' mc' ms' (.ref q :: as) g I J Q') (kk : ∀ (r : Option Value) (g' : sk_G) (I' : sk_I) (J' : sk_J), Q' (.inl r) g' I' J' → sk_W Γ M mc ms (pc + 3) L (r.toList ++ S) g' I' J' (kc + mc') (kn + ms') Q)
    (kx : ∀ (E : String) (g' : sk_G) (I' : sk_I) (J' : sk_J), Q' (.inr E) g' I' J' → sk_X Γ M mc ms pc L E g' I' J' (kc + mc') (kn + ms') Q) : sk_W Γ M mc ms pc L S' g I J kc kn Q := by
  subst hst
  intro p e s m args below meth c H locs ls hC hH hS hl T hT X
  subst hT
  have hts := hC.2.2.2.2.2.2.1
  have hpl : e.platform.magicAccessors = ({} : Platform).magicAccessors := by rw [X.admits.platform]
  have hlen : ∀ sig, parseMethodDescriptor (sk_y M').desc = some sig → (as.map (sk_tr Γ)).length = sig.parameters.length := by
    intro sig h
    have h9 := hd.2.2
    rw [h] at h9
    rw [List.length_map]
    exact (Option.some.inj h9).symm
  have hdg : decode c.code pc = .ok (.invokespecial idx, 3) := by rw [hC.2.1]; exact d
  have hh : sk_head M' ∈ sk_ts := by rw [sk_head, if_pos ht, hret]; exact h5
  rcases h1 with h1 | ⟨host, h1⟩
  · obtain ⟨mk, methM, cM, kP, vm₁, hnamed, hmethM, hcodeM, -, hlocalsM, -, hkP, -, hW₁, hstep₁⟩ := Steps.initColdArgs (e := e) X.here hC.1 X.warmed hpl hC.2.2.2.2.2.1 hnm ⟨hd.1, hd.2.1⟩ (hts _ h1) (hts _ h2) (hts _ h5) (f := F0 m pc ls ((as.reverse ++ .ref q :: S).map (sk_tr Γ))) (argsL := as.map (sk_tr Γ)) (a := sk_ad Γ q) (rest := S.map (sk_tr Γ)) rfl hlen (by simp [sk_tr]) hdg
    have X₁ := X.noted hW₁
    exact sk_after (T₁ := T.setVm vm₁) (as := .ref q :: as) hC hl hH hS X₁ hdg hcat (X₁.named hnamed) hh h4 hR hf hs (fun t h => hstep₁ _ fun acts => by rw [doInvoke_state]; exact h) kk kx
  · obtain ⟨mk, methM, cM, kP, vm₁, hnamed, hmethM, hcodeM, -, hlocalsM, -, hkP, -, hW₁, hstep₁⟩ := Steps.initColdArgsNest (e := e) X.here hC.1 X.warmed hpl hC.2.2.2.2.2.1 hnm ⟨hd.1, hd.2.1⟩ (va_Nw.use rfl (hC.2.2.2.2.2.2.2.1.2.1 _ h1)) (hts _ h2) (hts _ h5) (f := F0 m pc ls ((as.reverse ++ .ref q :: S).map (sk_tr Γ))) (argsL := as.map (sk_tr Γ)) (a := sk_ad Γ q) (rest := S.map (sk_tr Γ)) rfl hlen (by simp [sk_tr]) hdg
    have X₁ := X.noted hW₁
    exact sk_after (T₁ := T.setVm vm₁) (as := .ref q :: as) hC hl hH hS X₁ hdg hcat (X₁.named hnamed) hh h4 hR hf hs (fun t h => hstep₁ _ fun acts => by rw [doInvoke_state]; exact h) kk kx
/-- Object.<init> -/
theorem sk_objInit {q idx : Nat} (d : decode (sk_cc M) pc = .ok (.invokespecial idx, 3)) (h1 : Cond.methodLink (sk_own M) idx ⟨"java/lang/Object", "<init>", "()V"⟩ ∈ sk_ts) (h2 : Cond.instanceMethod ⟨"java/lang/Object", "<init>", "()V"⟩ ∈ sk_ts) (h3 : Cond.code ⟨"java/lang/Object", "<init>", "()V"⟩ ⟨#[0xb1]⟩ 1 none ∈ sk_ts)
    (hf : 1 ≤ sk_fr M) (hlo : 20 ≤ sk_lo M) (hcat : (S.map fun v => v.category).sum ≤ 8) (h : sk_W Γ M mc ms (pc + 3) L S g I J kc kn Q) : sk_W Γ M mc ms pc L (.ref q :: S) g I J kc kn Q := by
  intro p e s m args below meth c H locs ls hC hH hS hl
  have hts := hC.2.2.2.2.2.2.1
  have hroom : 2 * (F0 m pc ls (.ref (sk_ad Γ q) :: S.map (sk_tr Γ))).monitorRoom + ((S.map (sk_tr Γ)).map fun v => v.category).sum ≤ 8 := lv_room (by rw [sk_sumCat]; exact hcat)
  exact W.objInit hC.1 hC.2.1 hC.2.2.2.2.2.1 (hts _ h1) (hts _ h2) (hts _ h3) rfl (hl.1.trans hC.2.2.1.symm) rfl d hf (Nat.le_trans (Nat.add_le_add_right hroom 12) hlo) (h p e s m args below meth c H locs ls hC hH hS hl)
theorem sk_pushed {H H' : Heap} {s : State} {locs : List Loc} {sp : Nat × Nat × Nat} (hH : sk_hp Γ g I J H) (hS : va_S (sk_A Γ) s.heap H locs) (hx : g.1 = true) (hl : g.2.1.length < 900) (hat : va_at (sk_D Γ) sk_cl (sk_ad Γ g.2.1.length, sk_cell Γ g.2.2 I J g.2.1.length sp) H') (e2 : H'.size = H.size + 1) (e3 : ∀ x : Nat, x < H.size → H'[x]? = H[x]?) :
    sk_hp Γ (true, g.2.1 ++ [sp], g.2.2) I J H' ∧ va_S (sk_A Γ) s.heap H' locs := by
  have hz := hH.2.2.1 hx
  have hb := hH.2.1
  refine ⟨⟨?_, by rw [e2]; omega, fun _ => by rw [e2, hz, List.length_append]; rfl, by rw [List.length_append]; show _ + 1 < 1000; omega⟩, ⟨by rw [e2]; exact Nat.le_succ_of_le hS.1, fun x h1 h2 => (e3 x (Nat.lt_of_lt_of_le h1 hS.1)).trans (hS.2.1 x h1 h2), hS.2.2⟩⟩
  rw [sk_ws_push Γ g I J sp true]
  refine (hH.1.kept (fun k x hx9 => e3 x.1 ((hH.1 k x hx9).lt))).app (fun k x hk => ?_)
  have hk1 : k < 1 := (List.getElem?_eq_some_iff.mp hk).1
  rw [show k = 0 by omega] at hk
  cases hk
  exact hat
theorem sk_newa {t : Nat} {n : Int32} {N : Nat} {atype : ArrayType} (d : decode (sk_cc M) pc = .ok (.newarray atype, 2)) (hw : Cond.arrayClass (newarray.typeOf atype) ∈ sk_ts) (ht : (t = 1 ∧ newarray.typeOf atype = .int) ∨ (t = 2 ∧ newarray.typeOf atype = .boolean) ∨ (t = 3 ∧ newarray.typeOf atype = .long))
    (hn : ¬ n < 0) (hN : n.toNatClampNeg = N) (hb : N ≤ 65536) (hx : g.1 = true) (hlen : g.2.1.length < 900) (hI : ∀ j, I g.2.1.length j = 0) (hJ : ∀ j, J g.2.1.length j = 0) (hf : kc + 1 ≤ mc ∧ kn + N ≤ ms)
    (h : sk_W Γ M mc ms (pc + 2) L (.ref g.2.1.length :: S) (true, g.2.1 ++ [(t, N, 0)], g.2.2) I J (kc + 1) (kn + N) Q) : sk_W Γ M mc ms pc L (.int n :: S) g I J kc kn Q := by
  intro p e s m args below meth c H locs ls hC hH hS hl
  have hts := hC.2.2.2.2.2.2.1
  have hK := hC.2.2.2.2.2.2.2.1.1
  have had : sk_ad Γ g.2.1.length = H.size := by rw [hC.2.2.2.2.2.2.2.1.2.2.2.2.2.2.2.2.2.1 _ (by omega), hH.2.2.1 hx]
  have hbytes : N * componentBytes (newarray.typeOf atype) ≤ 536870912 := by
    have h8 : componentBytes (newarray.typeOf atype) ≤ 8 := by rcases ht with ⟨-, h⟩ | ⟨-, h⟩ | ⟨-, h⟩ <;> rw [h] <;> decide
    exact Nat.le_trans (Nat.mul_le_mul hb h8) (by decide)
  refine va_newaK hC.1 hC.2.1 (hts _ hw) rfl d rfl hn hN hbytes hf.1 hf.2 rfl fun H1 cA e1 z1 o1 hAr hNm => ?_
  have hat : va_at (sk_D Γ) sk_cl (sk_ad Γ g.2.1.length, sk_cell Γ g.2.2 I J g.2.1.length (t, N, 0)) H1 := by
    have zI : I g.2.1.length = fun _ => 0 := funext hI
    have zJ : J g.2.1.length = fun _ => 0 := funext hJ
    rcases ht with ⟨rfl, ht⟩ | ⟨rfl, ht⟩ | ⟨rfl, ht⟩
    · have hcA : cA = sk_id Γ 0 := by
        have h9 : s.vm.findClass ("[" ++ FieldType.int.toString) = some (sk_id Γ 0) := (hK.2 0 _ rfl).2
        rw [ht] at hNm
        exact Option.some.inj (hNm.symm.trans h9)
      show H1[sk_ad Γ g.2.1.length]? = some (vp_cell (sk_id Γ 0) (N, .inl (I g.2.1.length)))
      rw [had, e1, hcA, ht, zI]
      rfl
    · have hcA : cA = sk_id Γ 1 := by
        have h9 : s.vm.findClass ("[" ++ FieldType.boolean.toString) = some (sk_id Γ 1) := (hK.2 1 _ rfl).2
        rw [ht] at hNm
        exact Option.some.inj (hNm.symm.trans h9)
      show H1[sk_ad Γ g.2.1.length]? = some (vp_cell (sk_id Γ 1) (N, .inl (I g.2.1.length)))
      rw [had, e1, hcA, ht, zI]
      rfl
    · have hcA : cA = sk_id Γ 2 := by
        have h9 : s.vm.findClass ("[" ++ FieldType.long.toString) = some (sk_id Γ 2) := (hK.2 2 _ rfl).2
        rw [ht] at hNm
        exact Option.some.inj (hNm.symm.trans h9)
      show H1[sk_ad Γ g.2.1.length]? = some (vp_cell (sk_id Γ 2) (N, .inr (.inl (J g.2.1.length))))
      rw [had, e1, hcA, ht, zJ]
      rfl
  obtain ⟨h5, h6⟩ := sk_pushed hH hS hx hlen hat z1 o1
  have h7 := h p e s m args below meth c H1 locs ls hC h5 h6 hl
  have e9 : (Value.ref g.2.1.length :: S).map (sk_tr Γ) = Value.ref H.size :: S.map (sk_tr Γ) := by
    show Value.ref (sk_ad Γ g.2.1.length) :: _ = _
    rw [had]
  rw [e9] at h7
  exact h7
theorem sk_new {ci N idx : Nat} {C : String} {T : u_T} (d : decode (sk_cc M) pc = .ok (.new idx, 3)) (hc : sk_cl[ci]? = some (C, T, N)) (h1 : Cond.classLink (sk_own M) idx C ∈ sk_ts) (h2 : Cond.instantiable C N ∈ sk_ts) (h3 : Cond.initialized C ∈ sk_ts)
    (hx : g.1 = true) (hlen : g.2.1.length < 900) (hI : ∀ j, I g.2.1.length j = 0) (hJ : ∀ j, J g.2.1.length j = 0) (hR : ∀ j, g.2.2 g.2.1.length j = none) (hf : kc + 1 ≤ mc ∧ kn + N ≤ ms)
    (h : sk_W Γ M mc ms (pc + 3) L (.ref g.2.1.length :: S) (true, g.2.1 ++ [(0, ci, N)], g.2.2) I J (kc + 1) (kn + N) Q) : sk_W Γ M mc ms pc L S g I J kc kn Q := by
  intro p e s m args below meth c H locs ls hC hH hS hl
  have hts := hC.2.2.2.2.2.2.1
  have hK := hC.2.2.2.2.2.2.2.1.1
  have hKn := hK.1 ci _ hc
  have had : sk_ad Γ g.2.1.length = H.size := by rw [hC.2.2.2.2.2.2.2.1.2.2.2.2.2.2.2.2.2.1 _ (by omega), hH.2.2.1 hx]
  refine W.newcK hC.1 hC.2.1 hC.2.2.2.2.2.1 (hts _ h1) (hts _ h2) (hts _ h3) rfl d hf.1 hf.2 hKn.2.1 rfl fun H1 kC hkC e1 z1 o1 => ?_
  have hat : va_at (sk_D Γ) sk_cl (sk_ad Γ g.2.1.length, sk_cell Γ g.2.2 I J g.2.1.length (0, ci, N)) H1 := by
    refine ⟨_, hc, ?_⟩
    rw [had]
    refine (u_born (sk_fty T) hts (sk_lays hc) hKn hkC e1 (sk_ftyOk hc)).to (fun j hj => ?_)
    have hj9 : j < N := hj
    rw [sk_dflt hc hj9]
    have e7 : sk_fv Γ (sk_kd ci j) g.2.2 I J g.2.1.length j = sk_dfv (sk_kd ci j) := by
      simp only [sk_fv, sk_dfv, hI, hJ, hR]
      generalize sk_kd ci j = z
      match z with
      | 0 => rfl
      | 1 => rfl
      | (n + 2) => rfl
    simp [vp_V, hj9, e7]
  obtain ⟨h5, h6⟩ := sk_pushed hH hS hx hlen hat z1 o1
  have h7 := h p e s m args below meth c H1 locs ls hC h5 h6 hl
  have e9 : (Value.ref g.2.1.length :: S).map (sk_tr Γ) = Value.ref H.size :: S.map (sk_tr Γ) := by
    show Value.ref (sk_ad Γ g.2.1.length) :: _ = _
    rw [had]
  rw [e9] at h7
  exact h7
end SKD
