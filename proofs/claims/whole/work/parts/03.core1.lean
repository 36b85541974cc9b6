/-! the walk in small: frames over cells by their places -/
abbrev sk_I : Type := Nat → Nat → Int32
abbrev sk_J : Type := Nat → Nat → Int64
abbrev sk_R : Type := Nat → Nat → Option Nat
abbrev sk_G : Type := Bool × List (Nat × Nat × Nat) × sk_R
abbrev sk_O : Type := Option Value ⊕ String
abbrev sk_Q : Type := sk_O → sk_G → sk_I → sk_J → Prop
abbrev sk_M : Type := String × MethodName × ByteArray × Nat × Option FieldType × List (Nat × Nat × Nat × Nat) × Nat × Nat
abbrev sk_own (M : sk_M) : String := M.1
abbrev sk_y (M : sk_M) : MethodName := M.2.1
abbrev sk_cc (M : sk_M) : ByteArray := M.2.2.1
abbrev sk_nl (M : sk_M) : Nat := M.2.2.2.1
abbrev sk_ret (M : sk_M) : Option FieldType := M.2.2.2.2.1
abbrev sk_tab (M : sk_M) : List (Nat × Nat × Nat × Nat) := M.2.2.2.2.2.1
abbrev sk_fr (M : sk_M) : Nat := M.2.2.2.2.2.2.1
abbrev sk_lo (M : sk_M) : Nat := M.2.2.2.2.2.2.2
abbrev sk_rm (M : sk_M) (mc ms : Nat) : Room := { frames := sk_fr M, cells := mc, slots := ms, locals := sk_lo M }
abbrev sk_T : Type := Launch × Nat × va_G × (Nat → ClassId) × (Nat → Nat) × Nat × (Nat → Int32) × (Nat → Nat)
abbrev sk_l (Γ : sk_T) : Launch := Γ.1
abbrev sk_b (Γ : sk_T) : Nat := Γ.2.1
abbrev sk_D (Γ : sk_T) : va_G := Γ.2.2.1
abbrev sk_id (Γ : sk_T) : Nat → ClassId := Γ.2.2.2.1
abbrev sk_ad (Γ : sk_T) : Nat → Nat := Γ.2.2.2.2.1
abbrev sk_len (Γ : sk_T) : Nat := Γ.2.2.2.2.2.1
abbrev sk_xs (Γ : sk_T) : Nat → Int32 := Γ.2.2.2.2.2.2.1
abbrev sk_sa (Γ : sk_T) : Nat → Nat := Γ.2.2.2.2.2.2.2
def sk_A (Γ : sk_T) : Nat → Prop := fun q => sk_b Γ ≤ q
/-- the script's place, and that of the static table -/
def sk_scr : Nat := 1000000
def sk_sta : Nat := 1000001
def sk_tr (Γ : sk_T) (v : Value) : Value := match v with
  | .ref k => .ref (sk_ad Γ k)
  | w => w
def sk_trL (Γ : sk_T) (L : List (Nat × Value)) : List (Nat × Value) := L.map fun q => (q.1, sk_tr Γ q.2)
def sk_fv (Γ : sk_T) (kd : Nat) (R : sk_R) (I : sk_I) (J : sk_J) (q j : Nat) : Value := match kd with
  | 0 => .int (I q j)
  | 1 => .long (J q j)
  | _ => match R q j with
    | none => .null
    | some r => .ref (sk_ad Γ r)
def sk_cell (Γ : sk_T) (R : sk_R) (I : sk_I) (J : sk_J) (q : Nat) (sp : Nat × Nat × Nat) : va_E := match sp.1 with
  | 0 => .inr (sp.2.1, (List.range sp.2.2).map (fun j => sk_fv Γ (sk_kd sp.2.1 j) R I J q j))
  | 1 => .inl (sk_id Γ 0, sp.2.1, .inl (I q))
  | 2 => .inl (sk_id Γ 1, sp.2.1, .inl (I q))
  | _ => .inl (sk_id Γ 2, sp.2.1, .inr (.inl (J q)))
def sk_ws (Γ : sk_T) (g : sk_G) (I : sk_I) (J : sk_J) : va_W := g.2.1.mapIdx (fun q sp => (sk_ad Γ q, sk_cell Γ g.2.2 I J q sp))
abbrev sk_tys (Γ : sk_T) : List (ClassId × FieldType) := [(sk_id Γ 0, .int), (sk_id Γ 1, .boolean), (sk_id Γ 2, .long)]
/-- the three exceptions, apart -/
def sk_nc (E F : String) : Bool := decide (E ≠ F) && decide (E ∈ ["java/lang/IllegalStateException", "java/lang/IllegalArgumentException", "java/lang/IndexOutOfBoundsException"]) && decide (F ∈ ["java/lang/IllegalStateException", "java/lang/IllegalArgumentException", "java/lang/IndexOutOfBoundsException"])
def sk_isN (w : Cond) : Bool := match w with
  | .fieldLinkNest _ _ _ _ _ _ => true
  | .methodLinkNest _ _ _ _ => true
  | .declares _ => true
  | .castable _ _ => true
  | _ => false
theorem sk_nw_ok : ∀ w ∈ sk_nw, sk_isN w = true := by decide +kernel
/-- a static of the machine's own, of which only its place is asked -/
def sk_L (C n d : String) (A : Nat → Prop) (U : State) (H : Heap) : Prop := ∃ (c : ClassId) (k : Class) (i : Nat) (f : Field) (a : Nat) (cell : Cell), U.vm.findClass C = some c ∧ U.fieldFound? C n d = some (c, k, i, f) ∧ f.isStatic = true ∧ k.statics = some a ∧ H[a]? = some cell ∧ cell.vm.isStatics = true ∧ cell.cls = c ∧ f.slot < cell.slots.size ∧ k.staticTypes[f.slot]? = some f.type ∧ ¬ A a
theorem sk_L.moved {C n d : String} {A : Nat → Prop} {u U : State} {H : Heap} (hvm : u.vm.Alike U.vm) (h : sk_L C n d A u H) : sk_L C n d A U H := by
  obtain ⟨c, k, i, f, a, cell, h1, h2, h3, h4, h5, h6, h7, h8, h9, h10⟩ := h
  obtain ⟨k', hi', he⟩ := State.fieldFound?_setVm hvm h2
  exact ⟨c, k', i, f, a, cell, by rw [hvm.findClass]; exact h1, hi', h3, by rw [he]; exact h4, h5, h6, h7, h8, by rw [he]; exact h9, h10⟩
theorem sk_L.kept {C n d : String} {A : Nat → Prop} {U : State} {H H1 : Heap} (h : sk_L C n d A U H) (hq : ∀ a : Nat, a < H.size → ¬ A a → H1[a]? = H[a]?) : sk_L C n d A U H1 := by
  obtain ⟨c, k, i, f, a, cell, h1, h2, h3, h4, h5, h6, h7, h8, h9, h10⟩ := h
  exact ⟨c, k, i, f, a, cell, h1, h2, h3, h4, by rw [hq a (Array.getElem?_eq_some_iff.mp h5).1 h10]; exact h5, h6, h7, h8, h9, h10⟩
theorem sk_L.word {C n d : String} {A : Nat → Prop} {s : State} {args : Array Value} (h : sk_L C n d A s s.heap) : (Cond.laysStatic C n d).before args s = true := by
  obtain ⟨c, k, i, f, a, cell, h1, h2, h3, h4, h5, h6, h7, h8, h9, -⟩ := h
  show (Cond.laysStatic C n d).holds args s none s [] = true
  exact Cond.laysStatic_of h1 h2 h3 h4 h5 h6 h7 h8 h9
theorem sk_L.of {args : Array Value} {s : State} {C n d : String} {A : Nat → Prop} (hl : (Cond.laysStatic C n d).before args s = true) (hA : ∀ a : Nat, a < s.heap.size → ¬ A a) : sk_L C n d A s s.heap := by
  obtain ⟨c, k, i, f, a, cell, h1, h2, h3, h4, h5, h6, h7, h8, h9⟩ := Cond.laysStatic_spec hl
  exact ⟨c, k, i, f, a, cell, h1, h2, h3, h4, h5, h6, h7, h8, h9, hA a (Array.getElem?_eq_some_iff.mp h5).1⟩
theorem sk_isRef {C n d : String} {A : Nat → Prop} {s : State} {args : Array Value} (h : va_Zq C n d A s s.heap) : (Cond.isRef (.static C n d)).before args s = true := by
  have key : ∀ v : Value, va_Z C n d v A s s.heap → v.isRef = true → (Cond.isRef (.static C n d)).before args s = true := by
    intro v hz hv
    obtain ⟨cf, kf, fi, f, a, cell, h1, h2, h3, h4, h5, h6, h7, -⟩ := hz
    have he : (Term.static C n d).eval args s none [] s = some v := by
      simp [Term.eval, State.fieldNamed?, h1, h2, h4, h5, h6, h7]
    simp only [Cond.before, Cond.holds, Cond.value, he]
    cases v <;> simp_all [Value.isRef]
  rcases h with h | ⟨t, h⟩
  · exact key _ h rfl
  · exact key _ h rfl
def sk_fix (Γ : sk_T) (U : State) : Prop :=
  va_K (sk_D Γ) sk_cl (sk_tys Γ) U ∧ (∀ w ∈ sk_nw, va_Nw w U) ∧
  va_Z "StuckLines" "SOURCE_IN_VECTORS" "[J" (.ref (sk_ad Γ sk_sta)) (sk_A Γ) U U.heap ∧ va_T .long (sk_ad Γ sk_sta) 6 (fun j => .long (sk_siv j)) (sk_A Γ) U U.heap ∧
  (va_Zq Bundle.tN "UNASSIGNED_STACK" Bundle.steD (sk_A Γ) U U.heap ∧ sk_L Bundle.tN "UNASSIGNED_STACK" Bundle.steD (sk_A Γ) U U.heap) ∧ (va_Zq Bundle.tN "SUPPRESSED_SENTINEL" Bundle.listD (sk_A Γ) U U.heap ∧ sk_L Bundle.tN "SUPPRESSED_SENTINEL" Bundle.listD (sk_A Γ) U U.heap) ∧
  (∀ (i : Nat) (q : Nat × String), sk_str[i]? = some q → vk_R "StuckLines" q.1 q.2 (sk_sa Γ i) U) ∧
  va_X (sk_ad Γ sk_scr) (sk_len Γ) (sk_xs Γ) U U.heap ∧ sk_ad Γ sk_scr < sk_b Γ ∧ (∀ k, k < 1000000 → sk_ad Γ k = sk_b Γ + k) ∧ (sk_l Γ).stackTraces = false ∧ (∀ (E F : String), sk_nc E F = true → va_Nc E F U)
def sk_hp (Γ : sk_T) (g : sk_G) (I : sk_I) (J : sk_J) (H : Heap) : Prop :=
  va_P (sk_D Γ) sk_cl (sk_ws Γ g I J) H ∧ sk_b Γ ≤ H.size ∧ (g.1 = true → H.size = sk_b Γ + g.2.1.length) ∧ g.2.1.length < 1000
def sk_world (Γ : sk_T) (g : sk_G) (I : sk_I) (J : sk_J) (U : State) : Prop := sk_hp Γ g I J U.heap ∧ sk_fix Γ U
def sk_Qr (Γ : sk_T) (Q : sk_Q) : Array Value → State → Outcome → State → Prop := fun _ st oc t =>
  ∃ (r : Option Value) (g : sk_G) (I : sk_I) (J : sk_J), oc = .returned (r.map (sk_tr Γ)) ∧ Q (.inl r) g I J ∧ sk_hp Γ g I J t.heap ∧ va_F (sk_A Γ) st t
/-- what a method has come to: returned, or thrown -/
def sk_End (Γ : sk_T) (Q : sk_Q) (mc ms : Nat) : Array Value → State → Outcome → State → Prop := fun a st o t =>
  (sk_Qr Γ Q a st o t ∧ ∃ L, FrameEnd st o t L mc ms ∧ ∀ z ∈ L, sk_A Γ z.base) ∨
  (∃ (q : Addr) (E : String) (ce : Cell) (g : sk_G) (I : sk_I) (J : sk_J) (L : List Loc), o = .threw q ∧ Q (.inr E) g I J ∧ sk_hp Γ g I J t.heap ∧ va_F (sk_A Γ) st t ∧ t.heap[q]? = some ce ∧ ce.vm = .none ∧ st.vm.findClass E = some ce.cls ∧ st.WarmedH t.vm ∧
    st.sameButNew ({ t with vm := st.vm } : State) L mc ms ∧ ∀ z ∈ L, sk_A Γ z.base)
def sk_Fin (Γ : sk_T) (Q : sk_Q) (mc ms : Nat) (below : List Frame) (a : Array Value) (s : State) : State → Prop := fun t => ∃ o, t.status = .running ∧ Ended t below o ∧ sk_End Γ Q mc ms a s o t
def sk_cx (Γ : sk_T) (M : sk_M) (p : Program) (s : State) (m : MethodId) (args : Array Value) (meth : Method) (c : Code) : Prop :=
  p.tables.exec = Jvm.exec ∧ c.code = sk_cc M ∧ c.maxLocals = sk_nl M ∧ meth.sig.returnType = sk_ret M ∧ meth.locks = false ∧ s.vm.findClass (sk_own M) = some m.cls ∧
  (∀ w ∈ sk_ts, w.before args s = true) ∧ sk_fix Γ s ∧ c.exceptionTable.toList = tableOf (sk_tab M) ∧ meth.name = (sk_y M).name ∧ sk_b Γ ≤ s.heap.size
/-- the machine at pc of method M, locals L, stack S, over cells: it comes to Q -/
def sk_W (Γ : sk_T) (M : sk_M) (mc ms : Nat) (pc : Nat) (L : List (Nat × Value)) (S : List Value) (g : sk_G) (I : sk_I) (J : sk_J) (kc kn : Nat) (Q : sk_Q) : Prop :=
  ∀ (p : Program) (e : Env) (s : State) (m : MethodId) (args : Array Value) (below : List Frame) (meth : Method) (c : Code) (H : Heap) (locs : List Loc) (ls : Array Slot),
    sk_cx Γ M p s m args meth c → sk_hp Γ g I J H → va_S (sk_A Γ) s.heap H locs → lv_has ls (sk_nl M) (sk_trL Γ L) →
    W p (sk_l Γ) e (sk_rm M mc ms) s m args below meth c H locs kc kn (sk_Fin Γ Q mc ms below args s) (F0 m pc ls (S.map (sk_tr Γ)))
/-- .. and with an exception of class E over it -/
def sk_X (Γ : sk_T) (M : sk_M) (mc ms : Nat) (pc : Nat) (L : List (Nat × Value)) (E : String) (g : sk_G) (I : sk_I) (J : sk_J) (kc kn : Nat) (Q : sk_Q) : Prop :=
  ∀ (p : Program) (e : Env) (s : State) (m : MethodId) (args : Array Value) (below : List Frame) (meth : Method) (c : Code) (T : State) (locs : List Loc) (ls : Array Slot) (S : List Value) (q : Addr) (ce : Cell),
    sk_cx Γ M p s m args meth c → sk_hp Γ g I J T.heap → va_S (sk_A Γ) s.heap T.heap locs → lv_has ls (sk_nl M) (sk_trL Γ L) → T.heap[q]? = some ce → ce.vm = .none → s.vm.findClass E = some ce.cls →
    Stand p (sk_l Γ) e (sk_rm M mc ms) s m args below meth c T locs kc kn → ∃ t, Steps p.tables e below ((T.setTop (F0 m pc ls S)).pushFrame (.throwing q)) t ∧ sk_Fin Γ Q mc ms below args s t
def sk_head (M : sk_M) : Cond := if sk_tab M = [] then .code (sk_y M) (sk_cc M) (sk_nl M) (sk_ret M) else .codeWith (sk_y M) (sk_cc M) (sk_nl M) (sk_ret M) (sk_tab M)
/-- a method's contract -/
def sk_S (Γ : sk_T) (M : sk_M) (mc ms : Nat) (as : List Value) (g : sk_G) (I : sk_I) (J : sk_J) (Q : sk_Q) : Prop :=
  MetFree (sk_l Γ) (sk_y M) (headSpec (sk_head M :: sk_ts) (sk_rm M mc ms)) (va_Pc (as.map (sk_tr Γ)) (sk_world Γ g I J)) (fun _ _ _ _ _ => True) (sk_End Γ Q mc ms)
theorem sk_tr_cat (Γ : sk_T) (v : Value) : (sk_tr Γ v).category = v.category := by cases v <;> rfl
theorem sk_cast {a b : String} {s U : State} (hvm : s.vm.Alike U.vm) (h : va_Nw (.castable a b) s) : va_Nw (.castable a b) U := by
  unfold va_Nw at h ⊢
  simp only [Cond.before, Cond.holds, Cond.value, hvm.findClass, hvm.assignable] at h ⊢
  exact h
theorem sk_N {w : Cond} (hw : sk_isN w = true) {s U : State} (hW : s.WarmedH U.vm) (h : va_Nw w s) : va_Nw w U := by
  cases w <;> first | exact va_Nw.warmF hW h | exact va_Nw.warmM hW h | exact va_Nw.warmD hW h | exact sk_cast hW.alike h | cases hw
theorem sk_Nc {E F : String} {s U : State} (hvm : s.vm.Alike U.vm) (h : va_Nc E F s) : va_Nc E F U := by
  obtain ⟨c, t, h1, h2, h3⟩ := h
  exact ⟨c, t, by rw [hvm.findClass]; exact h1, by rw [hvm.findClass]; exact h2, by rw [hvm.assignable]; exact h3⟩
theorem sk_move {Γ : sk_T} {s U : State} (h : sk_fix Γ s) (hk : ∀ q : Nat, q < s.heap.size → ¬ sk_A Γ q → U.heap[q]? = s.heap[q]?) (hW : s.WarmedH U.vm) : sk_fix Γ U := by
  obtain ⟨h1, h2, h3, h4, h5, h6, h7, h8, h9, h10, h11, h12⟩ := h
  refine ⟨va_K.moved hW.alike h1, fun w hw => sk_N (sk_nw_ok w hw) hW (h2 w hw), va_Z.moved hW.alike (h3.kept hk), va_T.moved hW.alike (h4.kept hk), ⟨va_Zq.moved hW.alike (h5.1.kept hk), sk_L.moved hW.alike (h5.2.kept hk)⟩, ⟨va_Zq.moved hW.alike (h6.1.kept hk), sk_L.moved hW.alike (h6.2.kept hk)⟩, fun i q hq => vk_R.warm hW (h7 i q hq), ?_, h9, h10, h11, fun E F hE => sk_Nc hW.alike (h12 E F hE)⟩
  obtain ⟨scr, q1, q2⟩ := id h8
  exact va_X.moved hW.alike (h8.kept (hk _ (Array.getElem?_eq_some_iff.mp q1).1 (fun z => by unfold sk_A at z; omega)))
theorem sk_wsAt (Γ : sk_T) (g : sk_G) (I : sk_I) (J : sk_J) {q : Nat} {sp : Nat × Nat × Nat} (h : g.2.1[q]? = some sp) : (sk_ws Γ g I J)[q]? = some (sk_ad Γ q, sk_cell Γ g.2.2 I J q sp) := by
  simp [sk_ws, List.getElem?_mapIdx, h]
theorem sk_apart {Γ : sk_T} {g : sk_G} (I : sk_I) (J : sk_J) (hl : g.2.1.length < 1000) (ha : ∀ k, k < 1000000 → sk_ad Γ k = sk_b Γ + k) : va_D (sk_A Γ) (sk_ws Γ g I J) := by
  have key : ∀ (k : Nat) (q : Nat × va_E), (sk_ws Γ g I J)[k]? = some q → k < 1000 ∧ q.1 = sk_b Γ + k := by
    intro k q hk
    have h1 : k < (sk_ws Γ g I J).length := (List.getElem?_eq_some_iff.mp hk).1
    have h2 : k < g.2.1.length := by simpa [sk_ws] using h1
    have h3 : (sk_ws Γ g I J)[k]? = some (sk_ad Γ k, sk_cell Γ g.2.2 I J k g.2.1[k]) := sk_wsAt Γ g I J (List.getElem?_eq_getElem h2)
    rw [h3] at hk
    cases hk
    exact ⟨by omega, ha k (by omega)⟩
  refine ⟨fun i j x y hi hj hxy => ?_, fun k q hk => ?_⟩
  · have h1 := (key i x hi).2
    have h2 := (key j y hj).2
    omega
  · have h1 := (key k q hk).2
    show sk_b Γ ≤ q.1
    omega
theorem sk_world_of {Γ : sk_T} {g : sk_G} {I : sk_I} {J : sk_J} {s U : State} {H : Heap} {locs : List Loc} (hF : sk_fix Γ s) (hH : sk_hp Γ g I J H) (hS : va_S (sk_A Γ) s.heap H locs) (hU : U.heap = H) (hW : s.WarmedH U.vm) : sk_world Γ g I J U :=
  ⟨by rw [hU]; exact hH, sk_move hF (fun q h1 h2 => by rw [hU]; exact hS.2.1 q h1 h2) hW⟩
theorem sk_blind (Γ : sk_T) (as : List Value) (g : sk_G) (I : sk_I) (J : sk_J) : FrameBlind (va_Pc as (sk_world Γ g I J)) := by
  intro a U f mk h
  exact ⟨h.1, h.2.1, sk_move h.2.2 (fun _ _ _ => rfl) (State.WarmedH.refl U)⟩
theorem sk_trL_at {Γ : sk_T} {L : List (Nat × Value)} {k i : Nat} {v : Value} (h : L[k]? = some (i, v)) : (sk_trL Γ L)[k]? = some (i, sk_tr Γ v) := by
  simp [sk_trL, h]
theorem sk_trL_f1 (Γ : sk_T) (L : List (Nat × Value)) (i : Nat) : (sk_trL Γ L).filter (fun q => !(q.1 == i) && !(q.1 + 1 == i && q.2.category == 2)) = sk_trL Γ (L.filter (fun q => !(q.1 == i) && !(q.1 + 1 == i && q.2.category == 2))) := by
  simp only [sk_trL, List.filter_map]
  congr 1
  apply List.filter_congr
  intro x _
  simp [Function.comp, sk_tr_cat]
theorem sk_trL_f2 (Γ : sk_T) (L : List (Nat × Value)) (i : Nat) : (sk_trL Γ L).filter (fun q => !(q.1 == i) && (!(q.1 == i + 1) && !(q.1 + 1 == i && q.2.category == 2))) = sk_trL Γ (L.filter (fun q => !(q.1 == i) && (!(q.1 == i + 1) && !(q.1 + 1 == i && q.2.category == 2)))) := by
  simp only [sk_trL, List.filter_map]
  congr 1
  apply List.filter_congr
  intro x _
  simp [Function.comp, sk_tr_cat]
theorem sk_args (Γ : sk_T) : ∀ (vs : List Value) (i : Nat), lv_args i (vs.map (sk_tr Γ)) = sk_trL Γ (lv_args i vs)
  | [], _ => rfl
  | v :: vs, i => by
    have h := sk_args Γ vs (if v.category = 2 then i + 2 else i + 1)
    simp only [List.map_cons, lv_args, sk_tr_cat, h]
    rfl
theorem sk_sl (Γ : sk_T) (vs : List Value) : (lg_sl (vs.map (sk_tr Γ))).length = (lg_sl vs).length := by
  induction vs with
  | nil => rfl
  | cons v vs ih =>
    simp only [lg_sl, List.map_cons, List.flatMap_cons, List.length_append, sk_tr_cat] at ih ⊢
    rw [ih]
    split <;> rfl
theorem sk_pick (Γ : sk_T) (L : List (Nat × Value)) (ks : List Nat) : lv_pick (sk_trL Γ L) ks = sk_trL Γ (lv_pick L ks) := by
  induction ks with
  | nil => rfl
  | cons a t ih =>
    simp only [lv_pick, sk_trL, List.filterMap_cons, List.getElem?_map] at ih ⊢
    cases h : L[a]? with
    | none => simpa [h] using ih
    | some x => simpa [h] using ih
