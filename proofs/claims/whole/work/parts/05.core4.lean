/-! rules over the heap -/
def sk_fl (own : String) (idx : Nat) (T : u_T) (j : Nat) : Prop := Cond.fieldLink own idx (T j).1 (T j).2.1 (T j).2.2.1 ∈ sk_ts ∨ ∃ host : String, Cond.fieldLinkNest own idx (T j).1 (T j).2.1 (T j).2.2.1 host ∈ sk_nw
/-- a row of a cell's numbers anew -/
def sk_set {α : Type} (I : Nat → α) (q : Nat) (f : α) : Nat → α := fun a => if a = q then f else I a
theorem sk_set_eq {α : Type} (I : Nat → α) (q : Nat) (f : α) : sk_set I q f q = f := if_pos rfl
theorem sk_set_ne {α : Type} (I : Nat → α) {q a : Nat} (f : α) (h : a ≠ q) : sk_set I q f a = I a := if_neg h
theorem sk_set_set {α : Type} (I : Nat → α) (q : Nat) (f f' : α) : sk_set (sk_set I q f) q f' = sk_set I q f' := by
  funext a
  by_cases h : a = q
  · subst h; rw [sk_set_eq, sk_set_eq]
  · rw [sk_set_ne _ _ h, sk_set_ne _ _ h, sk_set_ne _ _ h]
theorem sk_set_self {α : Type} (I : Nat → α) (q : Nat) : sk_set I q (I q) = I := by
  funext a
  by_cases h : a = q
  · subst h; rw [sk_set_eq]
  · rw [sk_set_ne _ _ h]
theorem sk_cell_off (Γ : sk_T) {R R' : sk_R} {I I' : sk_I} {J J' : sk_J} {q : Nat} (hR : R' q = R q) (hI : I' q = I q) (hJ : J' q = J q) (sp : Nat × Nat × Nat) : sk_cell Γ R' I' J' q sp = sk_cell Γ R I J q sp := by
  obtain ⟨t, a, b⟩ := sp
  have hf : ∀ kd j, sk_fv Γ kd R' I' J' q j = sk_fv Γ kd R I J q j := by
    intro kd j
    simp only [sk_fv, hR, hI, hJ]
  match t with
  | 0 => simp only [sk_cell, hf]
  | 1 => simp only [sk_cell, hI]
  | 2 => simp only [sk_cell, hI]
  | (n + 3) => simp only [sk_cell, hJ]
theorem sk_ws_set (Γ : sk_T) {g g' : sk_G} {I I' : sk_I} {J J' : sk_J} {q : Nat} {e : va_E} {sp : Nat × Nat × Nat} (hs : g'.2.1 = g.2.1) (hq : g.2.1[q]? = some sp) (he : sk_cell Γ g'.2.2 I' J' q sp = e)
    (hR : ∀ a, a ≠ q → g'.2.2 a = g.2.2 a) (hI : ∀ a, a ≠ q → I' a = I a) (hJ : ∀ a, a ≠ q → J' a = J a) : (sk_ws Γ g I J).set q (sk_ad Γ q, e) = sk_ws Γ g' I' J' := by
  apply List.ext_getElem?
  intro i
  have hl : q < (sk_ws Γ g I J).length := by
    have := (List.getElem?_eq_some_iff.mp hq).1
    simpa [sk_ws] using this
  by_cases h : i = q
  · subst h
    rw [List.getElem?_set_self hl, sk_wsAt Γ g' I' J' (q := i) (sp := sp) (by rw [hs]; exact hq), he]
  · rw [List.getElem?_set_ne (Ne.symm h)]
    simp only [sk_ws, List.getElem?_mapIdx, hs]
    cases hx : g.2.1[i]? with
    | none => rfl
    | some x => simp only [Option.map_some, sk_cell_off Γ (hR i h) (hI i h) (hJ i h)]
theorem sk_ws_push (Γ : sk_T) (g : sk_G) (I : sk_I) (J : sk_J) (sp : Nat × Nat × Nat) (b : Bool) : sk_ws Γ (b, g.2.1 ++ [sp], g.2.2) I J = sk_ws Γ g I J ++ [(sk_ad Γ g.2.1.length, sk_cell Γ g.2.2 I J g.2.1.length sp)] := by
  simp [sk_ws, List.mapIdx_concat]
section SKH
variable {Γ : sk_T} {M : sk_M} {mc ms pc : Nat} {L : List (Nat × Value)} {S : List Value} {g : sk_G} {I : sk_I} {J : sk_J} {kc kn : Nat} {Q : sk_Q}
theorem sk_getf {q ci N j idx : Nat} {C : String} {T : u_T} {v : Value} (d : decode (sk_cc M) pc = .ok (.getfield idx, 3)) (ho : g.2.1[q]? = some (0, ci, N)) (hc : sk_cl[ci]? = some (C, T, N)) (hj : j < N) (hf : sk_fl (sk_own M) idx T j)
    (hv : sk_fv Γ (sk_kd ci j) g.2.2 I J q j = sk_tr Γ v) (h : sk_W Γ M mc ms (pc + 3) L (v :: S) g I J kc kn Q) : sk_W Γ M mc ms pc L (.ref q :: S) g I J kc kn Q := by
  intro p e s m args below meth c H locs ls hC hH hS hl
  have he : (sk_ws Γ g I J)[q]? = some (sk_ad Γ q, .inr (ci, (List.range N).map (fun j => sk_fv Γ (sk_kd ci j) g.2.2 I J q j))) := sk_wsAt Γ g I J ho
  have hw : ((List.range N).map (fun j => sk_fv Γ (sk_kd ci j) g.2.2 I J q j))[j]? = some (sk_tr Γ v) := by
    rw [← hv]; simp [hj]
  rcases hf with hf | ⟨host, hf⟩
  · exact va_get (C := C) (T := T) (N := N) hC.1 hC.2.1 hC.2.2.2.2.2.2.1 (sk_lays hc) hC.2.2.2.2.2.1 hC.2.2.2.2.2.2.2.1.1 hH.1 q he hc j hj (hC.2.2.2.2.2.2.1 _ hf) (fun _ h9 => h9) hw d (h p e s m args below meth c H locs ls hC hH hS hl)
  · exact va_getN (C := C) (T := T) (N := N) hC.1 hC.2.1 hC.2.2.2.2.2.2.1 (sk_lays hc) hC.2.2.2.2.2.1 hC.2.2.2.2.2.2.2.1.1 hH.1 q he hc j hj (va_Nw.use rfl (hC.2.2.2.2.2.2.2.1.2.1 _ hf)) (fun _ h9 => h9) hw d (h p e s m args below meth c H locs ls hC hH hS hl)
theorem sk_getI {q ci N j idx : Nat} {C : String} {T : u_T} (d : decode (sk_cc M) pc = .ok (.getfield idx, 3)) (ho : g.2.1[q]? = some (0, ci, N)) (hc : sk_cl[ci]? = some (C, T, N)) (hj : j < N) (hf : sk_fl (sk_own M) idx T j)
    (hk : sk_kd ci j = 0) (h : sk_W Γ M mc ms (pc + 3) L (.int (I q j) :: S) g I J kc kn Q) : sk_W Γ M mc ms pc L (.ref q :: S) g I J kc kn Q := sk_getf d ho hc hj hf (by rw [hk]; rfl) h
theorem sk_getJ {q ci N j idx : Nat} {C : String} {T : u_T} (d : decode (sk_cc M) pc = .ok (.getfield idx, 3)) (ho : g.2.1[q]? = some (0, ci, N)) (hc : sk_cl[ci]? = some (C, T, N)) (hj : j < N) (hf : sk_fl (sk_own M) idx T j)
    (hk : sk_kd ci j = 1) (h : sk_W Γ M mc ms (pc + 3) L (.long (J q j) :: S) g I J kc kn Q) : sk_W Γ M mc ms pc L (.ref q :: S) g I J kc kn Q := sk_getf d ho hc hj hf (by rw [hk]; rfl) h
theorem sk_getR {q ci N j idx r : Nat} {C : String} {T : u_T} (d : decode (sk_cc M) pc = .ok (.getfield idx, 3)) (ho : g.2.1[q]? = some (0, ci, N)) (hc : sk_cl[ci]? = some (C, T, N)) (hj : j < N) (hf : sk_fl (sk_own M) idx T j)
    (hk : sk_kd ci j = 2) (hr : g.2.2 q j = some r) (h : sk_W Γ M mc ms (pc + 3) L (.ref r :: S) g I J kc kn Q) : sk_W Γ M mc ms pc L (.ref q :: S) g I J kc kn Q := sk_getf d ho hc hj hf (by rw [hk]; simp [sk_fv, hr, sk_tr]) h
theorem sk_stored {g' : sk_G} {I' : sk_I} {J' : sk_J} {H H' : Heap} {s : State} {locs : List Loc} {q j : Nat} {sp : Nat × Nat × Nat} (hF : sk_fix Γ s) (hH : sk_hp Γ g I J H) (hS : va_S (sk_A Γ) s.heap H locs) (hq : g.2.1[q]? = some sp) (hat : va_at (sk_D Γ) sk_cl (sk_ad Γ q, sk_cell Γ g'.2.2 I' J' q sp) H')
    (e2 : H'.size = H.size) (e3 : ∀ x : Nat, x ≠ sk_ad Γ q → H'[x]? = H[x]?) (hg1 : g'.1 = g.1) (hg2 : g'.2.1 = g.2.1) (hR : ∀ a, a ≠ q → g'.2.2 a = g.2.2 a) (hI : ∀ a, a ≠ q → I' a = I a) (hJ : ∀ a, a ≠ q → J' a = J a) :
    sk_hp Γ g' I' J' H' ∧ va_S (sk_A Γ) s.heap H' (locs ++ [⟨sk_ad Γ q, j⟩]) := by
  have hD := sk_apart (Γ := Γ) (g := g) I J hH.2.2.2 hF.2.2.2.2.2.2.2.2.2.1
  have he := sk_wsAt Γ g I J hq
  have hset := sk_ws_set Γ (g := g) (g' := g') (I := I) (I' := I') (J := J) (J' := J') hg2 hq rfl hR hI hJ
  have hP := hH.1.set hD he hat e3
  rw [hset] at hP
  exact ⟨⟨hP, by rw [e2]; exact hH.2.1, by rw [e2, hg1, hg2]; exact hH.2.2.1, by rw [hg2]; exact hH.2.2.2⟩, hS.put e2 e3 (hD.2 q _ he)⟩
theorem sk_putf {q ci N j idx : Nat} {C : String} {T : u_T} {v : Value} {ty : FieldType} {g' : sk_G} {I' : sk_I} {J' : sk_J} (d : decode (sk_cc M) pc = .ok (.putfield idx, 3)) (ho : g.2.1[q]? = some (0, ci, N)) (hc : sk_cl[ci]? = some (C, T, N)) (hj : j < N)
    (hf : Cond.fieldLink (sk_own M) idx (T j).1 (T j).2.1 (T j).2.2.1 ∈ sk_ts) (hfin : (T j).2.2.2 = false ∨ ((T j).2.2.2 = true ∧ (sk_y M).name = "<init>" ∧ (T j).1 = sk_own M)) (hd : parseFieldDescriptor (T j).2.2.1 = some ty) (hn : narrow ty (sk_tr Γ v) = sk_tr Γ v) (hfit : fits ty (sk_tr Γ v) = true)
    (hg1 : g'.1 = g.1) (hg2 : g'.2.1 = g.2.1) (hcell : ∀ i, i < N → sk_fv Γ (sk_kd ci i) g'.2.2 I' J' q i = if i = j then sk_tr Γ v else sk_fv Γ (sk_kd ci i) g.2.2 I J q i) (hR : ∀ a, a ≠ q → g'.2.2 a = g.2.2 a) (hI : ∀ a, a ≠ q → I' a = I a) (hJ : ∀ a, a ≠ q → J' a = J a)
    (h : sk_W Γ M mc ms (pc + 3) L S g' I' J' kc kn Q) : sk_W Γ M mc ms pc L (v :: .ref q :: S) g I J kc kn Q := by
  intro p e s m args below meth c H locs ls hC hH hS hl
  have hts := hC.2.2.2.2.2.2.1
  have hK := hC.2.2.2.2.2.2.2.1.1
  have he : (sk_ws Γ g I J)[q]? = some (sk_ad Γ q, .inr (ci, (List.range N).map (fun j => sk_fv Γ (sk_kd ci j) g.2.2 I J q j))) := sk_wsAt Γ g I J ho
  have hap := va_apart (own := sk_own M) hts (sk_lays hc) (sk_fty T) (sk_ftyOk hc) (sk_names hc) hK hc
  obtain ⟨r, h1, cell, q1, q2, q3, q4⟩ := hH.1 q _ he
  have hr : r = (C, T, N) := Option.some.inj (h1.symm.trans hc)
  subst hr
  obtain ⟨hSl, hfc, kC, hkC, hkind⟩ := hK.1 ci _ hc
  obtain ⟨cf, kf, fi, f, hi, hsl⟩ := hSl j hj
  have hst := (u_facts hfc hkC (u_lays hts (sk_lays hc) hj) hi).1
  have hlay := hts _ (sk_lays hc _ (u_in_lay hj))
  unfold u_lay at hlay
  have done : ∀ H' : Heap, H'[sk_ad Γ q]? = some (cell.setSlot f.slot (sk_tr Γ v)) → H'.size = H.size → (∀ x : Nat, x ≠ sk_ad Γ q → H'[x]? = H[x]?) →
      W p (sk_l Γ) e (sk_rm M mc ms) s m args below meth c H' (locs ++ [⟨sk_ad Γ q, f.slot⟩]) kc kn (sk_Fin Γ Q mc ms below args s) (F0 m (pc + 3) ls (S.map (sk_tr Γ))) := by
    intro H' e1 e2 e3
    rw [hsl] at e1
    have hat : va_at (sk_D Γ) sk_cl (sk_ad Γ q, sk_cell Γ g'.2.2 I' J' q (0, ci, N)) H' := by
      refine ⟨_, hc, t_OB.to (V := updV (vp_V ((List.range N).map (fun j => sk_fv Γ (sk_kd ci j) g.2.2 I J q j))) j (sk_tr Γ v)) ⟨_, e1, q2, q3, t_set q4 hap hj _⟩ (fun i hi9 => ?_)⟩
      show updV (vp_V ((List.range N).map (fun j => sk_fv Γ (sk_kd ci j) g.2.2 I J q j))) j (sk_tr Γ v) i = vp_V ((List.range N).map (fun j => sk_fv Γ (sk_kd ci j) g'.2.2 I' J' q j)) i
      have hi8 : i < N := hi9
      by_cases hij : i = j
      · subst hij
        simp [updV, vp_V, hi8, hcell i hi8]
      · simp [updV, vp_V, hi8, hcell i hi8, hij]
    obtain ⟨h5, h6⟩ := sk_stored (j := f.slot) hC.2.2.2.2.2.2.2.1 hH hS ho hat e2 e3 hg1 hg2 hR hI hJ
    exact h p e s m args below meth c H' _ ls hC h5 h6 hl
  rcases hfin with hfin | ⟨hfin, hin, hown⟩
  · rw [if_neg (by rw [hfin]; decide)] at hlay
    exact W.putK hC.1 hC.2.1 (f := f) ⟨hC.2.2.2.2.2.1, hts _ hf, ⟨_, _, _, hi⟩, hst⟩ (by rw [q2]; exact u_store hfc hkC hkind hlay hi hd hn hfit) q1 q3 (by rw [hsl]; exact k2_hasslot (q4 j hj)) rfl rfl d done
  · rw [if_pos hfin] at hlay
    have hcf : m.cls = cf := by
      obtain ⟨_, _, c', _, _, _, -, -, hf', -, -, -, hown2, -⟩ := Cond.laysFinal_spec hlay
      have e1 : c' = cf := by have := hi.symm.trans hf'; simp at this; exact this.1.symm
      rw [hown] at hown2
      rw [← e1]; exact Option.some.inj (hC.2.2.2.2.2.1.symm.trans hown2)
    exact W.putFinK hC.1 hC.2.1 hC.2.2.2.2.2.1 (hts _ hf) hi hst hcf (hC.2.2.2.2.2.2.2.2.2.1.trans hin) (by rw [q2]; exact u_fits hfc hkC hkind (Or.inr hlay) hi hd hn hfit) q1 q3 (by rw [hsl]; exact k2_hasslot (q4 j hj)) rfl rfl d done
/-- an int field -/
theorem sk_putI {q ci N j idx : Nat} {C : String} {T : u_T} {v : Int32} {ty : FieldType} (d : decode (sk_cc M) pc = .ok (.putfield idx, 3)) (ho : g.2.1[q]? = some (0, ci, N)) (hc : sk_cl[ci]? = some (C, T, N)) (hj : j < N)
    (hf : Cond.fieldLink (sk_own M) idx (T j).1 (T j).2.1 (T j).2.2.1 ∈ sk_ts) (hfin : (T j).2.2.2 = false ∨ ((T j).2.2.2 = true ∧ (sk_y M).name = "<init>" ∧ (T j).1 = sk_own M)) (hd : parseFieldDescriptor (T j).2.2.1 = some ty) (hk : sk_kd ci j = 0) (hn : narrow ty (.int v) = .int v) (hfit : fits ty (.int v) = true)
    (h : sk_W Γ M mc ms (pc + 3) L S g (sk_set I q (upd (I q) j v)) J kc kn Q) : sk_W Γ M mc ms pc L (.int v :: .ref q :: S) g I J kc kn Q := by
  refine sk_putf d ho hc hj hf hfin hd hn hfit rfl rfl (fun i hi => ?_) (fun _ _ => rfl) (fun a ha => sk_set_ne _ _ ha) (fun _ _ => rfl) h
  by_cases hij : i = j
  · subst hij
    simp [sk_fv, hk, sk_set, upd, sk_tr]
  · rw [if_neg hij]
    simp only [sk_fv, sk_set_eq]
    rw [show upd (I q) j v i = I q i from if_neg hij]
theorem sk_putJ {q ci N j idx : Nat} {C : String} {T : u_T} {v : Int64} (d : decode (sk_cc M) pc = .ok (.putfield idx, 3)) (ho : g.2.1[q]? = some (0, ci, N)) (hc : sk_cl[ci]? = some (C, T, N)) (hj : j < N)
    (hf : Cond.fieldLink (sk_own M) idx (T j).1 (T j).2.1 (T j).2.2.1 ∈ sk_ts) (hfin : (T j).2.2.2 = false ∨ ((T j).2.2.2 = true ∧ (sk_y M).name = "<init>" ∧ (T j).1 = sk_own M)) (hd : parseFieldDescriptor (T j).2.2.1 = some .long) (hk : sk_kd ci j = 1)
    (h : sk_W Γ M mc ms (pc + 3) L S g I (sk_set J q (vp_updL (J q) j v)) kc kn Q) : sk_W Γ M mc ms pc L (.long v :: .ref q :: S) g I J kc kn Q := by
  refine sk_putf d ho hc hj hf hfin hd rfl rfl rfl rfl (fun i hi => ?_) (fun _ _ => rfl) (fun _ _ => rfl) (fun a ha => sk_set_ne _ _ ha) h
  by_cases hij : i = j
  · subst hij
    simp [sk_fv, hk, sk_set, vp_updL, sk_tr]
  · rw [if_neg hij]
    simp only [sk_fv, sk_set_eq]
    rw [show vp_updL (J q) j v i = J q i from if_neg hij]
def sk_updR (f : Nat → Option Nat) (k : Nat) (x : Option Nat) : Nat → Option Nat := fun j => if j = k then x else f j
theorem sk_putR {q ci N j idx r : Nat} {C : String} {T : u_T} {ty : FieldType} (d : decode (sk_cc M) pc = .ok (.putfield idx, 3)) (ho : g.2.1[q]? = some (0, ci, N)) (hc : sk_cl[ci]? = some (C, T, N)) (hj : j < N)
    (hf : Cond.fieldLink (sk_own M) idx (T j).1 (T j).2.1 (T j).2.2.1 ∈ sk_ts) (hfin : (T j).2.2.2 = false ∨ ((T j).2.2.2 = true ∧ (sk_y M).name = "<init>" ∧ (T j).1 = sk_own M)) (hd : parseFieldDescriptor (T j).2.2.1 = some ty) (hk : sk_kd ci j = 2) (hn : ∀ a : Nat, narrow ty (.ref a) = .ref a) (hfit : ∀ a : Nat, fits ty (.ref a) = true)
    (h : sk_W Γ M mc ms (pc + 3) L S (g.1, g.2.1, sk_set g.2.2 q (sk_updR (g.2.2 q) j (some r))) I J kc kn Q) : sk_W Γ M mc ms pc L (.ref r :: .ref q :: S) g I J kc kn Q := by
  refine sk_putf (g' := (g.1, g.2.1, sk_set g.2.2 q (sk_updR (g.2.2 q) j (some r)))) d ho hc hj hf hfin hd (hn _) (hfit _) rfl rfl (fun i hi => ?_) (fun a ha => sk_set_ne _ _ ha) (fun _ _ => rfl) (fun _ _ => rfl) h
  by_cases hij : i = j
  · subst hij
    simp [sk_fv, hk, sk_set, sk_updR, sk_tr]
  · rw [if_neg hij]
    simp only [sk_fv, sk_set_eq]
    rw [show sk_updR (g.2.2 q) j (some r) i = g.2.2 q i from if_neg hij]
theorem sk_iald {q n z : Nat} {i : Int32} (d : decode (sk_cc M) pc = .ok (.iaload, 1)) (ho : g.2.1[q]? = some (1, n, z)) (hin : vp_in i n) (h : sk_W Γ M mc ms (pc + 1) L (.int (I q i.toNatClampNeg) :: S) g I J kc kn Q) : sk_W Γ M mc ms pc L (.int i :: .ref q :: S) g I J kc kn Q := by
  intro p e s m args below meth c H locs ls hC hH hS hl
  have he : (sk_ws Γ g I J)[q]? = some (sk_ad Γ q, .inl (sk_id Γ 0, n, .inl (I q))) := sk_wsAt Γ g I J ho
  exact va_iald hC.1 hC.2.1 hC.2.2.2.2.2.2.2.1.1 hH.1 q 0 he rfl hin d (h p e s m args below meth c H locs ls hC hH hS hl)
theorem sk_zald {q n z : Nat} {i : Int32} (d : decode (sk_cc M) pc = .ok (.baload, 1)) (ho : g.2.1[q]? = some (2, n, z)) (hin : vp_in i n) (h : sk_W Γ M mc ms (pc + 1) L (.int (I q i.toNatClampNeg) :: S) g I J kc kn Q) : sk_W Γ M mc ms pc L (.int i :: .ref q :: S) g I J kc kn Q := by
  intro p e s m args below meth c H locs ls hC hH hS hl
  have he : (sk_ws Γ g I J)[q]? = some (sk_ad Γ q, .inl (sk_id Γ 1, n, .inl (I q))) := sk_wsAt Γ g I J ho
  exact va_zald hC.1 hC.2.1 hC.2.2.2.2.2.2.2.1.1 hH.1 q 1 he rfl hin d (h p e s m args below meth c H locs ls hC hH hS hl)
theorem sk_lald {q n z : Nat} {i : Int32} (d : decode (sk_cc M) pc = .ok (.laload, 1)) (ho : g.2.1[q]? = some (3, n, z)) (hin : vp_in i n) (h : sk_W Γ M mc ms (pc + 1) L (.long (J q i.toNatClampNeg) :: S) g I J kc kn Q) : sk_W Γ M mc ms pc L (.int i :: .ref q :: S) g I J kc kn Q := by
  intro p e s m args below meth c H locs ls hC hH hS hl
  have he : (sk_ws Γ g I J)[q]? = some (sk_ad Γ q, .inl (sk_id Γ 2, n, .inr (.inl (J q)))) := sk_wsAt Γ g I J ho
  exact va_lald hC.1 hC.2.1 hC.2.2.2.2.2.2.2.1.1 hH.1 q 2 he rfl hin d (h p e s m args below meth c H locs ls hC hH hS hl)
theorem sk_iast {q n z : Nat} {i x : Int32} (d : decode (sk_cc M) pc = .ok (.iastore, 1)) (ho : g.2.1[q]? = some (1, n, z)) (hin : vp_in i n) (h : sk_W Γ M mc ms (pc + 1) L S g (sk_set I q (upd (I q) i.toNatClampNeg x)) J kc kn Q) : sk_W Γ M mc ms pc L (.int x :: .int i :: .ref q :: S) g I J kc kn Q := by
  intro p e s m args below meth c H locs ls hC hH hS hl
  have he : (sk_ws Γ g I J)[q]? = some (sk_ad Γ q, .inl (sk_id Γ 0, n, .inl (I q))) := sk_wsAt Γ g I J ho
  refine W.iast hC.1 hC.2.1 (hH.1 q _ he) ((hC.2.2.2.2.2.2.2.1.1.2 0 _ rfl).1 n (fun j => .int (I q j))) (fun q => by cases q) (by show ¬ (i < 0 ∨ (arrV _ _ _).slots.size ≤ _); rw [arrV_size]; exact hin) rfl rfl d fun H1 e1 z1 oq => ?_
  have hat : va_at (sk_D Γ) sk_cl (sk_ad Γ q, sk_cell Γ g.2.2 (sk_set I q (upd (I q) i.toNatClampNeg x)) J q (1, n, z)) H1 := by
    show H1[sk_ad Γ q]? = some (vp_cell _ (n, .inl (sk_set I q (upd (I q) i.toNatClampNeg x) q)))
    rw [e1, sk_set_eq]
    rw [vp_cell_i, vp_cell_i, arrV_store]
    congr 2
    funext y
    by_cases hq : y = i.toNatClampNeg
    · subst hq
      simp [updV, upd]
    · simp [updV, upd, hq]
  obtain ⟨h5, h6⟩ := sk_stored (g' := g) (J' := J) (j := i.toNatClampNeg) hC.2.2.2.2.2.2.2.1 hH hS ho hat z1 oq rfl rfl (fun _ _ => rfl) (fun a ha => sk_set_ne _ _ ha) (fun _ _ => rfl)
  exact h p e s m args below meth c H1 _ ls hC h5 h6 hl
theorem sk_zast {q n z : Nat} {i x : Int32} (d : decode (sk_cc M) pc = .ok (.bastore, 1)) (ho : g.2.1[q]? = some (2, n, z)) (hin : vp_in i n) (hx : vp_nar .boolean x = x) (h : sk_W Γ M mc ms (pc + 1) L S g (sk_set I q (upd (I q) i.toNatClampNeg x)) J kc kn Q) : sk_W Γ M mc ms pc L (.int x :: .int i :: .ref q :: S) g I J kc kn Q := by
  intro p e s m args below meth c H locs ls hC hH hS hl
  have he : (sk_ws Γ g I J)[q]? = some (sk_ad Γ q, .inl (sk_id Γ 1, n, .inl (I q))) := sk_wsAt Γ g I J ho
  refine W.zast hC.1 hC.2.1 (hH.1 q _ he) ((hC.2.2.2.2.2.2.2.1.1.2 1 _ rfl).1 n (fun j => .int (I q j))) (fun q => by cases q) (by show ¬ (i < 0 ∨ (arrV _ _ _).slots.size ≤ _); rw [arrV_size]; exact hin) rfl rfl d fun H1 e1 z1 oq => ?_
  have hat : va_at (sk_D Γ) sk_cl (sk_ad Γ q, sk_cell Γ g.2.2 (sk_set I q (upd (I q) i.toNatClampNeg x)) J q (2, n, z)) H1 := by
    show H1[sk_ad Γ q]? = some (vp_cell _ (n, .inl (sk_set I q (upd (I q) i.toNatClampNeg x) q)))
    rw [e1, sk_set_eq]
    rw [vp_cell_i, vp_cell_i, arrV_store]
    congr 2
    funext y
    by_cases hq : y = i.toNatClampNeg
    · subst hq
      have hx' : narrow .boolean (.int x) = .int x := by
        have h9 : ∀ v : Value, narrow .boolean (.int x) = v → (∃ y, v = .int y) → v = .int x := by
          intro v hv ⟨y, hy⟩
          unfold vp_nar at hx
          rw [hv, hy] at hx
          rw [hy]; exact congrArg Value.int hx
        exact h9 _ rfl ⟨_, rfl⟩
      simp [updV, upd, hx']
    · simp [updV, upd, hq]
  obtain ⟨h5, h6⟩ := sk_stored (g' := g) (J' := J) (j := i.toNatClampNeg) hC.2.2.2.2.2.2.2.1 hH hS ho hat z1 oq rfl rfl (fun _ _ => rfl) (fun a ha => sk_set_ne _ _ ha) (fun _ _ => rfl)
  exact h p e s m args below meth c H1 _ ls hC h5 h6 hl
theorem sk_last {q n z : Nat} {i : Int32} {x : Int64} (d : decode (sk_cc M) pc = .ok (.lastore, 1)) (ho : g.2.1[q]? = some (3, n, z)) (hin : vp_in i n) (h : sk_W Γ M mc ms (pc + 1) L S g I (sk_set J q (vp_updL (J q) i.toNatClampNeg x)) kc kn Q) : sk_W Γ M mc ms pc L (.long x :: .int i :: .ref q :: S) g I J kc kn Q := by
  intro p e s m args below meth c H locs ls hC hH hS hl
  have he : (sk_ws Γ g I J)[q]? = some (sk_ad Γ q, .inl (sk_id Γ 2, n, .inr (.inl (J q)))) := sk_wsAt Γ g I J ho
  refine W.last hC.1 hC.2.1 (hH.1 q _ he) ((hC.2.2.2.2.2.2.2.1.1.2 2 _ rfl).1 n (fun j => .long (J q j))) (fun q => by cases q) (by show ¬ (i < 0 ∨ (arrV _ _ _).slots.size ≤ _); rw [arrV_size]; exact hin) rfl rfl d fun H1 e1 z1 oq => ?_
  have hat : va_at (sk_D Γ) sk_cl (sk_ad Γ q, sk_cell Γ g.2.2 I (sk_set J q (vp_updL (J q) i.toNatClampNeg x)) q (3, n, z)) H1 := by
    show H1[sk_ad Γ q]? = some (vp_cell _ (n, .inr (.inl (sk_set J q (vp_updL (J q) i.toNatClampNeg x) q))))
    rw [e1, sk_set_eq]
    rw [vp_cell_l, vp_cell_l, arrV_store]
    congr 2
    funext y
    by_cases hq : y = i.toNatClampNeg
    · subst hq
      simp [updV, vp_updL]
    · simp [updV, vp_updL, hq]
  obtain ⟨h5, h6⟩ := sk_stored (g' := g) (I' := I) (j := i.toNatClampNeg) hC.2.2.2.2.2.2.2.1 hH hS ho hat z1 oq rfl rfl (fun _ _ => rfl) (fun _ _ => rfl) (fun a ha => sk_set_ne _ _ ha)
  exact h p e s m args below meth c H1 _ ls hC h5 h6 hl
/-- the script -/
theorem sk_sald {i : Int32} (d : decode (sk_cc M) pc = .ok (.iaload, 1)) (hin : vp_in i (sk_len Γ)) (h : sk_W Γ M mc ms (pc + 1) L (.int (sk_xs Γ i.toNatClampNeg) :: S) g I J kc kn Q) : sk_W Γ M mc ms pc L (.int i :: .ref sk_scr :: S) g I J kc kn Q := by
  intro p e s m args below meth c H locs ls hC hH hS hl
  have hX := hC.2.2.2.2.2.2.2.1.2.2.2.2.2.2.2.1
  have hlt := hC.2.2.2.2.2.2.2.1.2.2.2.2.2.2.2.2.1
  exact va_sld hC.1 hC.2.1 hX (Nat.lt_of_lt_of_le hlt hC.2.2.2.2.2.2.2.2.2.2) (fun z => by unfold sk_A at z; omega) hS hin d (h p e s m args below meth c H locs ls hC hH hS hl)
theorem sk_slen (d : decode (sk_cc M) pc = .ok (.arraylength, 1)) (h : sk_W Γ M mc ms (pc + 1) L (.int (Int32.ofNat (sk_len Γ)) :: S) g I J kc kn Q) : sk_W Γ M mc ms pc L (.ref sk_scr :: S) g I J kc kn Q := by
  intro p e s m args below meth c H locs ls hC hH hS hl
  have hX := hC.2.2.2.2.2.2.2.1.2.2.2.2.2.2.2.1
  have hlt := hC.2.2.2.2.2.2.2.1.2.2.2.2.2.2.2.2.1
  exact va_slen hC.1 hC.2.1 hX (Nat.lt_of_lt_of_le hlt hC.2.2.2.2.2.2.2.2.2.2) (fun z => by unfold sk_A at z; omega) hS d (h p e s m args below meth c H locs ls hC hH hS hl)
/-- the static table -/
theorem sk_gets {idx : Nat} {host : String} (d : decode (sk_cc M) pc = .ok (.getstatic idx, 3)) (hf : Cond.fieldLinkNest (sk_own M) idx "StuckLines" "SOURCE_IN_VECTORS" "[J" host ∈ sk_nw) (h : sk_W Γ M mc ms (pc + 3) L (.ref sk_sta :: S) g I J kc kn Q) : sk_W Γ M mc ms pc L S g I J kc kn Q := by
  intro p e s m args below meth c H locs ls hC hH hS hl
  exact va_getsN hC.1 hC.2.1 hC.2.2.2.2.2.2.2.1.2.2.1 hS hC.2.2.2.2.2.1 (va_Nw.use rfl (hC.2.2.2.2.2.2.2.1.2.1 _ hf)) (fun _ h9 => h9) d (h p e s m args below meth c H locs ls hC hH hS hl)
theorem sk_tald {i : Int32} (d : decode (sk_cc M) pc = .ok (.laload, 1)) (hin : vp_in i 6) (h : sk_W Γ M mc ms (pc + 1) L (.long (sk_siv i.toNatClampNeg) :: S) g I J kc kn Q) : sk_W Γ M mc ms pc L (.int i :: .ref sk_sta :: S) g I J kc kn Q := by
  intro p e s m args below meth c H locs ls hC hH hS hl
  exact va_tl (v := .long (sk_siv i.toNatClampNeg)) hC.1 hC.2.1 hC.2.2.2.2.2.2.2.1.2.2.2.1 hS hin rfl d (h p e s m args below meth c H locs ls hC hH hS hl)
end SKH
