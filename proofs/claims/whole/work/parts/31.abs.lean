/-! the circuit as a thing of numbers -/
/-- a line: a source (a flip-flop or not), or a gate (its kind, the lines that its pins read) -/
abbrev sl_ln : Type := Bool ⊕ (Nat × List Nat)
/-- how many lines; the lines; the outputs; the data lines -/
abbrev sl_ct : Type := Nat × (Nat → sl_ln) × List Nat × (Nat → Option Nat)
abbrev cN (T : sl_ct) : Nat := T.1
abbrev cD (T : sl_ct) : Nat → sl_ln := T.2.1
abbrev cO (T : sl_ct) : List Nat := T.2.2.1
abbrev cA (T : sl_ct) : Nat → Option Nat := T.2.2.2
def sl_s1 (x : sl_ln) : Nat := match x with | .inl _ => 1 | .inr _ => 0
def sl_p1 (x : sl_ln) : Nat := match x with | .inl _ => 0 | .inr q => q.2.length
/-- sources, pins among the first lines -/
def sl_ns (d : Nat → sl_ln) : Nat → Nat
  | 0 => 0
  | l + 1 => sl_ns d l + sl_s1 (d l)
def sl_np (d : Nat → sl_ln) : Nat → Nat
  | 0 => 0
  | l + 1 => sl_np d l + sl_p1 (d l)
abbrev cS (T : sl_ct) : Nat := sl_ns (cD T) (cN T)
abbrev cP (T : sl_ct) : Nat := sl_np (cD T) (cN T)
def sl_ob (T : sl_ct) : List Nat := cO T ++ (List.range (cN T)).filterMap (cA T)
/-- faults -/
abbrev cF (T : sl_ct) : Nat := 2 * (cN T + cP T)
def sl_wf (T : sl_ct) : Prop := cN T ≤ 26 ∧ cS T ≤ 6 ∧ (cO T).length ≤ 6 ∧ (∀ x ∈ cO T, x < cN T) ∧
  (∀ l, l < cN T → ∀ k ps, cD T l = .inr (k, ps) → k < 6 ∧ 1 ≤ ps.length ∧ ps.length ≤ 3 ∧ ∀ x ∈ ps, x < l) ∧ (∀ l x, cA T l = some x → l < cN T ∧ x < cN T ∧ cD T l = .inl true)
theorem sl_ns_congr {d d' : Nat → sl_ln} {n : Nat} (h : ∀ l, l < n → d l = d' l) : ∀ m, m ≤ n → sl_ns d m = sl_ns d' m
  | 0, _ => rfl
  | m + 1, hm => by simp only [sl_ns]; rw [sl_ns_congr h m (by omega), h m (by omega)]
theorem sl_np_congr {d d' : Nat → sl_ln} {n : Nat} (h : ∀ l, l < n → d l = d' l) : ∀ m, m ≤ n → sl_np d m = sl_np d' m
  | 0, _ => rfl
  | m + 1, hm => by simp only [sl_np]; rw [sl_np_congr h m (by omega), h m (by omega)]
theorem sl_ns_mono (d : Nat → sl_ln) : ∀ {a b : Nat}, a ≤ b → sl_ns d a ≤ sl_ns d b := by
  intro a b h
  induction b with
  | zero => rw [Nat.le_zero.mp h]; exact Nat.le_refl _
  | succ b ih =>
    by_cases hab : a = b + 1
    · subst hab; exact Nat.le_refl _
    · exact Nat.le_trans (ih (by omega)) (Nat.le_add_right _ _)
theorem sl_np_mono (d : Nat → sl_ln) : ∀ {a b : Nat}, a ≤ b → sl_np d a ≤ sl_np d b := by
  intro a b h
  induction b with
  | zero => rw [Nat.le_zero.mp h]; exact Nat.le_refl _
  | succ b ih =>
    by_cases hab : a = b + 1
    · subst hab; exact Nat.le_refl _
    · exact Nat.le_trans (ih (by omega)) (Nat.le_add_right _ _)
theorem sl_p1_le {T : sl_ct} (h : sl_wf T) {l : Nat} (hl : l < cN T) : sl_p1 (cD T l) ≤ 3 := by
  cases hx : cD T l with
  | inl b => simp [sl_p1]
  | inr q => obtain ⟨k, ps⟩ := q; exact (h.2.2.2.2.1 l hl k ps hx).2.2.1
theorem sl_np_le {T : sl_ct} (h : sl_wf T) : ∀ m, m ≤ cN T → sl_np (cD T) m ≤ 3 * m
  | 0, _ => Nat.le_refl _
  | m + 1, hm => by
    have h1 := sl_np_le h m (by omega)
    have h2 := sl_p1_le h (l := m) (by omega)
    simp only [sl_np]; omega
theorem sl_P_le {T : sl_ct} (h : sl_wf T) : cP T ≤ 78 := by
  have h1 : cP T ≤ 3 * cN T := sl_np_le h (cN T) (Nat.le_refl _)
  have h2 := h.1
  omega
theorem sl_F_le {T : sl_ct} (h : sl_wf T) : cF T ≤ 208 := by
  have h1 := sl_P_le h
  have h2 := h.1
  show 2 * (cN T + cP T) ≤ 208
  omega
theorem sl_da_len {T : sl_ct} (h : sl_wf T) : ∀ m, m ≤ cN T → ((List.range m).filterMap (cA T)).length ≤ sl_ns (cD T) m
  | 0, _ => Nat.le_refl _
  | m + 1, hm => by
    have h1 := sl_da_len h m (by omega)
    rw [List.range_succ, List.filterMap_append, List.length_append]
    have h2 : ((List.filterMap (cA T) [m]).length) ≤ sl_s1 (cD T m) := by
      cases hx : cA T m with
      | none => simp [hx]
      | some x => rw [(h.2.2.2.2.2 m x hx).2.2]; simp [hx, sl_s1]
    simp only [sl_ns]; omega
theorem sl_ob_len {T : sl_ct} (h : sl_wf T) : (sl_ob T).length ≤ 12 := by
  have h1 : _ ≤ cS T := sl_da_len h (cN T) (Nat.le_refl _)
  have h2 := h.2.1
  have h3 := h.2.2.1
  simp only [sl_ob, List.length_append]
  omega
theorem sl_ob_lt {T : sl_ct} (h : sl_wf T) : ∀ x ∈ sl_ob T, x < cN T := by
  intro x hx
  rcases List.mem_append.mp hx with hx | hx
  · exact h.2.2.2.1 x hx
  · obtain ⟨l, -, hl⟩ := List.mem_filterMap.mp hx
    exact (h.2.2.2.2.2 l x hl).2.1
/-! values: 0, 1, or 2 for open -/
def sl_at (f : Option Nat) (s : Nat) : Bool := match f with | none => false | some q => q / 2 == s
def sl_fb (f : Option Nat) : Nat := match f with | none => 0 | some q => q % 2
/-- what a gate of kind k makes of the values of its pins -/
def sl_gt (k : Nat) (vs : List Nat) : Nat :=
  let v := if k < 2 then (if 0 ∈ vs then 0 else if 2 ∈ vs then 2 else 1) else if k < 4 then (if 1 ∈ vs then 1 else if 2 ∈ vs then 2 else 0) else (if 2 ∈ vs then 2 else vs.count 1 % 2)
  if v = 2 ∨ k % 2 = 0 then v else 1 - v
def sl_v1 (T : sl_ct) (src : Nat → Nat) (f : Option Nat) (w : Nat → Nat) (l : Nat) : Nat :=
  if sl_at f l = true then sl_fb f else match cD T l with
    | .inl _ => src (sl_ns (cD T) l)
    | .inr q => sl_gt q.1 (q.2.mapIdx (fun j x => if sl_at f (cN T + sl_np (cD T) l + j) = true then sl_fb f else w x))
def sl_vt (T : sl_ct) (src : Nat → Nat) (f : Option Nat) : Nat → Nat → Nat
  | 0 => fun _ => 0
  | n + 1 => fun l => if l = n then sl_v1 T src f (sl_vt T src f n) n else sl_vt T src f n l
def sl_vv (T : sl_ct) (src : Nat → Nat) (f : Option Nat) (l : Nat) : Nat := sl_vt T src f (l + 1) l
theorem sl_vt_eq (T : sl_ct) (src : Nat → Nat) (f : Option Nat) {l : Nat} : ∀ {n : Nat}, l < n → sl_vt T src f n l = sl_vv T src f l := by
  intro n h
  induction n with
  | zero => omega
  | succ n ih =>
    by_cases hl : l = n
    · subst hl; rfl
    · have h1 := ih (by omega)
      rw [← h1]
      simp only [sl_vt, if_neg hl]
theorem sl_v1_congr {T : sl_ct} (hw : sl_wf T) (src : Nat → Nat) (f : Option Nat) {w w' : Nat → Nat} {l : Nat} (hl : l < cN T) (h : ∀ x, x < l → w x = w' x) : sl_v1 T src f w l = sl_v1 T src f w' l := by
  unfold sl_v1
  by_cases ha : sl_at f l = true
  · rw [if_pos ha, if_pos ha]
  · rw [if_neg ha, if_neg ha]
    cases hx : cD T l with
    | inl b => rfl
    | inr q =>
      obtain ⟨k, ps⟩ := q
      have hp := (hw.2.2.2.2.1 l hl k ps hx).2.2.2
      have e : ps.mapIdx (fun j x => if sl_at f (cN T + sl_np (cD T) l + j) = true then sl_fb f else w x) = ps.mapIdx (fun j x => if sl_at f (cN T + sl_np (cD T) l + j) = true then sl_fb f else w' x) := by
        apply List.ext_getElem?
        intro i
        rw [List.getElem?_mapIdx, List.getElem?_mapIdx]
        cases hi : ps[i]? with
        | none => rfl
        | some x => simp only [Option.map_some, h x (hp x (List.mem_of_getElem? hi))]
      simp only [e]
theorem sl_vv_eq {T : sl_ct} (hw : sl_wf T) (src : Nat → Nat) (f : Option Nat) {l : Nat} (hl : l < cN T) : sl_vv T src f l = sl_v1 T src f (sl_vv T src f) l := by
  have h1 : sl_vv T src f l = sl_v1 T src f (sl_vt T src f l) l := by
    unfold sl_vv
    simp only [sl_vt, if_true]
  rw [h1]
  exact sl_v1_congr hw src f hl (fun x hx => sl_vt_eq T src f hx)
/-- the value of source i in vector v -/
def sl_sv (v i : Nat) : Nat := v / 2 ^ i % 2
/-- .. in a cube -/
def sl_sc (o w i : Nat) : Nat := if o / 2 ^ i % 2 = 1 then 2 else w / 2 ^ i % 2
/-- the observed values as one number -/
def sl_rs (g : Nat → Nat) : List Nat → Nat
  | [] => 0
  | x :: t => g x + 2 * sl_rs g t
theorem sl_rs_app (g : Nat → Nat) : ∀ (a b : List Nat), sl_rs g (a ++ b) = sl_rs g a + 2 ^ a.length * sl_rs g b
  | [], b => by simp [sl_rs]
  | x :: t, b => by
    simp only [List.cons_append, sl_rs, List.length_cons, sl_rs_app g t b, Nat.pow_succ]
    have e : 2 ^ t.length * 2 * sl_rs g b = 2 * (2 ^ t.length * sl_rs g b) := by rw [Nat.mul_comm (2 ^ t.length) 2, Nat.mul_assoc]
    rw [e]; omega
def sl_rp (T : sl_ct) (f : Option Nat) (v : Nat) : Nat := sl_rs (sl_vv T (sl_sv v) f) (sl_ob T)
