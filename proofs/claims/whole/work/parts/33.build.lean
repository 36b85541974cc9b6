/-! building: what the class's builders make of the circuit -/
/-- a list at the front of an array -/
def sl_pre (F : Nat → Int32) (xs : List Nat) : Prop := ∀ i x, xs[i]? = some x → F i = nI x
theorem sl_pre_nil (F : Nat → Int32) : sl_pre F [] := fun i x h => by simp at h
theorem sl_pre_push {F F' : Nat → Int32} {xs : List Nat} {x : Nat} (h : sl_pre F xs) (h1 : ∀ j, j < xs.length → F' j = F j) (h2 : F' xs.length = nI x) : sl_pre F' (xs ++ [x]) := by
  intro i y hy
  rcases Nat.lt_trichotomy i xs.length with hi | hi | hi
  · rw [List.getElem?_append_left hi] at hy
    rw [h1 i hi]; exact h i y hy
  · subst hi
    rw [List.getElem?_append_right (Nat.le_refl _)] at hy
    simp at hy
    rw [h2, hy]
  · rw [List.getElem?_append_right (by omega)] at hy
    have : i - xs.length ≠ 0 := by omega
    cases hk : i - xs.length with
    | zero => omega
    | succ n => rw [hk] at hy; simp at hy
theorem sl_pre_lt {F : Nat → Int32} {xs : List Nat} (h : sl_pre F xs) {i : Nat} (hi : i < xs.length) : F i = nI xs[i] := h i _ (List.getElem?_eq_getElem hi)
/-- a line more -/
def sl_add (T : sl_ct) (x : sl_ln) : sl_ct := (cN T + 1, (fun l => if l = cN T then x else cD T l), cO T, cA T)
theorem sl_add_D {T : sl_ct} {x : sl_ln} : cD (sl_add T x) (cN T) = x := by
  show (if cN T = cN T then x else cD T (cN T)) = x
  rw [if_pos rfl]
theorem sl_add_D' {T : sl_ct} {x : sl_ln} {l : Nat} (h : l < cN T) : cD (sl_add T x) l = cD T l := by
  show (if l = cN T then x else cD T l) = cD T l
  rw [if_neg (by omega)]
theorem sl_add_ns {T : sl_ct} {x : sl_ln} {l : Nat} (h : l ≤ cN T) : sl_ns (cD (sl_add T x)) l = sl_ns (cD T) l := sl_ns_congr (n := cN T) (fun l hl => sl_add_D' hl) l h
theorem sl_add_np {T : sl_ct} {x : sl_ln} {l : Nat} (h : l ≤ cN T) : sl_np (cD (sl_add T x)) l = sl_np (cD T) l := sl_np_congr (n := cN T) (fun l hl => sl_add_D' hl) l h
theorem sl_add_S {T : sl_ct} {x : sl_ln} : cS (sl_add T x) = cS T + sl_s1 x := by
  show sl_ns (cD (sl_add T x)) (cN T) + sl_s1 (cD (sl_add T x) (cN T)) = _
  rw [sl_add_ns (Nat.le_refl _), sl_add_D]
theorem sl_add_P {T : sl_ct} {x : sl_ln} : cP (sl_add T x) = cP T + sl_p1 x := by
  show sl_np (cD (sl_add T x)) (cN T) + sl_p1 (cD (sl_add T x) (cN T)) = _
  rw [sl_add_np (Nat.le_refl _), sl_add_D]
theorem sl_wf_A {T : sl_ct} (hw : sl_wf T) : cA T (cN T) = none := by
  cases h : cA T (cN T) with
  | none => rfl
  | some x => have := (hw.2.2.2.2.2 _ x h).1; omega
theorem sl_add_ob {T : sl_ct} {x : sl_ln} (hw : sl_wf T) : sl_ob (sl_add T x) = sl_ob T := by
  show cO T ++ (List.range (cN T + 1)).filterMap (cA T) = cO T ++ (List.range (cN T)).filterMap (cA T)
  rw [List.range_succ, List.filterMap_append]
  simp [sl_wf_A hw]
theorem sl_wf_add {T : sl_ct} {x : sl_ln} (hw : sl_wf T) (hN : cN T < 26) (hS : cS T + sl_s1 x ≤ 6) (hx : ∀ k ps, x = .inr (k, ps) → k < 6 ∧ 1 ≤ ps.length ∧ ps.length ≤ 3 ∧ ∀ y ∈ ps, y < cN T) : sl_wf (sl_add T x) := by
  refine ⟨by show cN T + 1 ≤ 26; omega, by rw [sl_add_S]; exact hS, hw.2.2.1, ?_, ?_, ?_⟩
  · intro y hy
    have := hw.2.2.2.1 y hy
    show y < cN T + 1
    omega
  · intro l hl k ps h
    by_cases hl' : l = cN T
    · subst hl'; rw [sl_add_D] at h; exact hx k ps h
    · have h2 : l < cN T := by
        have : l < cN T + 1 := hl
        omega
      rw [sl_add_D' h2] at h
      exact hw.2.2.2.2.1 l h2 k ps h
  · intro l y h
    obtain ⟨h1, h2, h3⟩ := hw.2.2.2.2.2 l y h
    refine ⟨by show l < cN T + 1; omega, by show y < cN T + 1; omega, ?_⟩
    rw [sl_add_D' h1]; exact h3
/-- the same circuit with other outputs or data -/
theorem sl_wf_out {T : sl_ct} {x : Nat} (hw : sl_wf T) (hx : x < cN T) (hO : (cO T).length < 6) : sl_wf (cN T, cD T, cO T ++ [x], cA T) := by
  refine ⟨hw.1, hw.2.1, ?_, ?_, hw.2.2.2.2.1, hw.2.2.2.2.2⟩
  · show (cO T ++ [x]).length ≤ 6
    rw [List.length_append]; simp; omega
  · intro y hy
    rcases List.mem_append.mp hy with h | h
    · exact hw.2.2.2.1 y h
    · simp at h; rw [h]; exact hx
def sl_dat (T : sl_ct) (fl x : Nat) : sl_ct := (cN T, cD T, cO T, fun l => if l = fl then some x else cA T l)
theorem sl_wf_dat {T : sl_ct} {fl x : Nat} (hw : sl_wf T) (hx : x < cN T) (hf : fl < cN T) (hd : cD T fl = .inl true) : sl_wf (sl_dat T fl x) := by
  refine ⟨hw.1, hw.2.1, hw.2.2.1, hw.2.2.2.1, hw.2.2.2.2.1, ?_⟩
  intro l y h
  have h' : (if l = fl then some x else cA T l) = some y := h
  by_cases hl : l = fl
  · subst hl
    rw [if_pos rfl] at h'
    cases h'
    exact ⟨hf, hx, hd⟩
  · rw [if_neg hl] at h'
    exact hw.2.2.2.2.2 l y h'
def sl_t0 : sl_ct := (0, fun _ => .inl false, [], fun _ => none)
theorem sl_wf_0 : sl_wf sl_t0 := by
  refine ⟨by decide, by decide, by decide, ?_, ?_, ?_⟩
  · intro x hx; cases hx
  · intro l hl; exact absurd hl (Nat.not_lt_zero _)
  · intro l x h; cases h
theorem sl_O31 {T : sl_ct} (h : sl_wf T) : (cO T).length < 2 ^ 31 := sl_lt31 h.2.2.1 (by decide)
theorem sl_B31 {T : sl_ct} (h : sl_wf T) : (sl_ob T).length < 2 ^ 31 := sl_lt31 (sl_ob_len h) (by decide)
section CB
variable {Γ : sk_T} {I : sk_I} {J : sk_J} {T : sl_ct}
theorem t_C_removeAll {K : sk_I → sk_J → Prop} (hr : sl_rc T I) (h : ∀ I' : sk_I, sl_rc sl_t0 I' → I' 1 0 = I 1 0 + 1 → (∀ q, q ≠ 1 → I' q = I q) → K I' J) : sk_S Γ m_C_removeAll 0 0 [.ref 1] sk_gg I J (sk_Kv K) := by
  refine sk_spec (by decide) rfl (by exact Nat.le_of_ble_eq_true rfl) ?_
  refine s_C_removeAll_0 ⟨rfl, rfl, h _ ?_ (pi_eq _ _ _ _) ?_⟩
  · refine ⟨⟨?_, ?_, ?_, ?_, ?_⟩, ?_, ?_, ?_, ?_, ?_, ?_⟩
    · simp [sk_pi, sk_set, upd]; rfl
    · simp [sk_pi, sk_set, upd]; rfl
    · simp [sk_pi, sk_set, upd]; rfl
    · simp [sk_pi, sk_set, upd]; rfl
    · simp [sk_pi, sk_set, upd]; rfl
    · intro l hl; exact absurd hl (Nat.not_lt_zero _)
    · intro l hl; exact absurd hl (Nat.not_lt_zero _)
    · intro l hl
      have hl : l = 0 := Nat.le_zero.mp hl
      subst hl
      have h5 := hr.2.2.2.1 0 (Nat.zero_le _)
      simp only [sk_pi, sk_set]
      simp
      exact h5
    · intro l hl; exact absurd hl (Nat.not_lt_zero _)
    · intro i x hx
      have hx : ([] : List Nat)[i]? = some x := hx
      simp at hx
    · intro i x hx
      have hx : ([] : List Nat)[i]? = some x := hx
      simp at hx
  · intro q hq
    simp [sk_pi, sk_set, hq]
/-- a source more: what its cells hold -/
theorem sl_rc_source {I' : sk_I} {b : Bool} (hw : sl_wf T) (hr : sl_rc T I) (hN : cN T < 26)
    (h1 : I' 1 1 = I 1 1 + 1 ∧ I' 1 2 = I 1 2 + 1 ∧ I' 1 3 = I 1 3 ∧ I' 1 4 = I 1 4 ∧ I' 1 5 = I 1 5)
    (h2 : ∀ j, I' 2 j = if j = cN T then -1 else I 2 j) (h3 : ∀ j, I' 3 j = if j = cN T then I 1 2 else I 3 j) (h4 : ∀ j, I' 4 j = if j = cN T then (if b = true then 1 else 0) else I 4 j)
    (h5 : ∀ j, I' 5 j = if j = cN T + 1 then I 1 5 else I 5 j) (h9 : ∀ j, I' 9 j = if j = cN T then -1 else I 9 j) (hq : ∀ q, q = 6 ∨ q = 7 ∨ q = 8 ∨ q = 10 → I' q = I q) : sl_rc (sl_add T (.inl b)) I' := by
  obtain ⟨⟨a1, a2, a3, a4, a5⟩, c1, c2, c3, c4, c5, c6⟩ := hr
  refine ⟨⟨?_, ?_, ?_, ?_, ?_⟩, ?_, ?_, ?_, ?_, ?_, ?_⟩
  · rw [h1.1, a1]; exact (nI_succ _).symm
  · rw [h1.2.1, a2, sl_add_S]; exact (nI_succ _).symm
  · rw [h1.2.2.1, a3]; rfl
  · rw [h1.2.2.2.1, a4, sl_add_ob hw]
  · rw [h1.2.2.2.2, a5, sl_add_P]; rfl
  · intro l hl b' hb
    by_cases hl' : l = cN T
    · subst hl'
      rw [sl_add_D] at hb
      cases hb
      rw [h2, h3, h4, if_pos rfl, if_pos rfl, if_pos rfl, sl_add_ns (Nat.le_refl _)]
      exact ⟨rfl, a2, rfl⟩
    · have h : l < cN T + 1 := hl
      have hl2 : l < cN T := by omega
      rw [sl_add_D' hl2] at hb
      rw [h2, h3, h4, if_neg hl', if_neg hl', if_neg hl', sl_add_ns (by omega)]
      exact c1 l hl2 b' hb
  · intro l hl k ps hk
    by_cases hl' : l = cN T
    · subst hl'
      rw [sl_add_D] at hk
      cases hk
    · have h : l < cN T + 1 := hl
      have hl2 : l < cN T := by omega
      rw [sl_add_D' hl2] at hk
      rw [h2, h4, if_neg hl', if_neg hl', sl_add_np (by omega), hq 6 (by simp), hq 7 (by simp)]
      exact c2 l hl2 k ps hk
  · intro l hl
    rw [h5]
    by_cases hl' : l = cN T + 1
    · subst hl'
      rw [if_pos rfl]
      show I 1 5 = nI (cP (sl_add T (.inl b)))
      rw [sl_add_P]; exact a5
    · have h : l ≤ cN T + 1 := hl
      have hl2 : l ≤ cN T := by omega
      rw [if_neg hl', sl_add_np hl2]
      exact c3 l hl2
  · intro l hl
    rw [h9]
    by_cases hl' : l = cN T
    · subst hl'
      rw [if_pos rfl]
      refine ⟨fun _ => rfl, fun x hx => ?_⟩
      have hx : cA T (cN T) = some x := hx
      rw [sl_wf_A hw] at hx
      cases hx
    · have h : l < cN T + 1 := hl
      rw [if_neg hl']
      exact c4 l (by omega)
  · rw [hq 10 (by simp)]; exact c5
  · rw [hq 8 (by simp), sl_add_ob hw]; exact c6
theorem t_C_addSource {x : Int32} {b : Bool} {K : Int32 → sk_I → sk_J → Prop} (hw : sl_wf T) (hr : sl_rc T I) (hN : cN T < 26) (hb : x = if b = true then 1 else 0)
    (h : ∀ I' : sk_I, sl_rc (sl_add T (.inl b)) I' → I' 1 0 = I 1 0 + 1 → (∀ q, 10 < q → I' q = I q) → K (nI (cN T)) I' J) : sk_S Γ m_C_addSource 0 0 [.ref 1, .int x] sk_gg I J (sk_Ki K) := by
  refine sk_spec (by decide) rfl (by exact Nat.le_of_ble_eq_true rfl) ?_
  refine s_C_addSource_0 ?_
  refine sk_spec (by decide) rfl (by exact Nat.le_of_ble_eq_true rfl) ?_
  refine s_C_addLine_0 ?_
  have e1 : I 1 1 = nI (cN T) := hr.1.1
  have e1' : I 1 1 + 1 = nI (cN T + 1) := by rw [e1]; exact (nI_succ _).symm
  rw [e1', e1, zI_cl (sl_lt31 (m := 27) (by omega) (by decide)), zI_cl (sl_lt31 (m := 27) (by omega) (by decide))]
  have v1 : vp_in (nI (cN T)) 26 := vp_nat hN (by decide)
  refine ⟨v1, v1, v1, v1, vp_nat (by omega) (by decide), _, rfl, rfl, ?_⟩
  refine s_C_addSource_5 ?_
  rw [zI_cl (sl_lt31 (m := 27) (by omega) (by decide))]
  refine ⟨v1, ?_, v1, _, rfl, rfl, h _ ?_ ?_ ?_⟩
  · rw [hb]; cases b <;> simp
  · refine sl_rc_source (I := I) hw hr hN ⟨?_, ?_, ?_, ?_, ?_⟩ ?_ ?_ ?_ ?_ ?_ ?_
    · rw [e1']; simp [sk_pi, sk_set, upd]
    · simp [sk_pi, sk_set, upd]
    · simp [sk_pi, sk_set, upd]
    · simp [sk_pi, sk_set, upd]
    · simp [sk_pi, sk_set, upd]
    · intro j; simp [sk_pi, sk_set, upd]
    · intro j; by_cases hj : j = cN T <;> simp [sk_pi, sk_set, upd, hj]
    · intro j; by_cases hj : j = cN T <;> simp [sk_pi, sk_set, upd, hj, hb]
    · intro j; simp [sk_pi, sk_set, upd]
    · intro j; simp [sk_pi, sk_set, upd]
    · rintro q (rfl | rfl | rfl | rfl) <;> simp [sk_pi, sk_set]
  · simp [sk_pi, sk_set, upd]
  · intro q hq
    have : q ≠ 1 ∧ q ≠ 2 ∧ q ≠ 3 ∧ q ≠ 4 ∧ q ≠ 5 ∧ q ≠ 9 := by omega
    simp [sk_pi, sk_set, this]
/-- a gate more, with the pins so far -/
theorem sl_rc_gate0 {I' : sk_I} {k : Nat} (hw : sl_wf T) (hr : sl_rc T I)
    (h1 : I' 1 1 = I 1 1 + 1 ∧ I' 1 2 = I 1 2 ∧ I' 1 3 = I 1 3 ∧ I' 1 4 = I 1 4 ∧ I' 1 5 = I 1 5)
    (h2 : ∀ j, I' 2 j = if j = cN T then nI k else I 2 j) (h3 : ∀ j, I' 3 j = if j = cN T then -1 else I 3 j) (h4 : ∀ j, I' 4 j = if j = cN T then 0 else I 4 j)
    (h5 : ∀ j, I' 5 j = if j = cN T + 1 then I 1 5 else I 5 j) (h9 : ∀ j, I' 9 j = if j = cN T then -1 else I 9 j) (hq : ∀ q, q = 6 ∨ q = 7 ∨ q = 8 ∨ q = 10 → I' q = I q) : sl_rc (sl_add T (.inr (k, []))) I' := by
  obtain ⟨⟨a1, a2, a3, a4, a5⟩, c1, c2, c3, c4, c5, c6⟩ := hr
  refine ⟨⟨?_, ?_, ?_, ?_, ?_⟩, ?_, ?_, ?_, ?_, ?_, ?_⟩
  · rw [h1.1, a1]; exact (nI_succ _).symm
  · rw [h1.2.1, a2, sl_add_S]; rfl
  · rw [h1.2.2.1, a3]; rfl
  · rw [h1.2.2.2.1, a4, sl_add_ob hw]
  · rw [h1.2.2.2.2, a5, sl_add_P]; rfl
  · intro l hl b' hb
    by_cases hl' : l = cN T
    · subst hl'
      rw [sl_add_D] at hb
      cases hb
    · have h : l < cN T + 1 := hl
      have hl2 : l < cN T := by omega
      rw [sl_add_D' hl2] at hb
      rw [h2, h3, h4, if_neg hl', if_neg hl', if_neg hl', sl_add_ns (by omega)]
      exact c1 l hl2 b' hb
  · intro l hl k ps hk
    by_cases hl' : l = cN T
    · subst hl'
      rw [sl_add_D] at hk
      cases hk
      rw [h2, h4, if_pos rfl, if_pos rfl]
      exact ⟨rfl, rfl, fun j x hx => by simp at hx⟩
    · have h : l < cN T + 1 := hl
      have hl2 : l < cN T := by omega
      rw [sl_add_D' hl2] at hk
      rw [h2, h4, if_neg hl', if_neg hl', sl_add_np (by omega), hq 6 (by simp), hq 7 (by simp)]
      exact c2 l hl2 k ps hk
  · intro l hl
    rw [h5]
    by_cases hl' : l = cN T + 1
    · subst hl'
      rw [if_pos rfl]
      show I 1 5 = nI (cP (sl_add T (.inr (k, []))))
      rw [sl_add_P]; exact a5
    · have h : l ≤ cN T + 1 := hl
      have hl2 : l ≤ cN T := by omega
      rw [if_neg hl', sl_add_np hl2]
      exact c3 l hl2
  · intro l hl
    rw [h9]
    by_cases hl' : l = cN T
    · subst hl'
      rw [if_pos rfl]
      refine ⟨fun _ => rfl, fun x hx => ?_⟩
      have hx : cA T (cN T) = some x := hx
      rw [sl_wf_A hw] at hx
      cases hx
    · have h : l < cN T + 1 := hl
      rw [if_neg hl']
      exact c4 l (by omega)
  · rw [hq 10 (by simp)]; exact c5
  · rw [hq 8 (by simp), sl_add_ob hw]; exact c6
theorem sl_rc_pin {I' : sk_I} {k x : Nat} {ps : List Nat} (hw : sl_wf T) (hr : sl_rc (sl_add T (.inr (k, ps))) I)
    (h1 : I' 1 1 = I 1 1 ∧ I' 1 2 = I 1 2 ∧ I' 1 3 = I 1 3 ∧ I' 1 4 = I 1 4 ∧ I' 1 5 = I 1 5 + 1)
    (h5 : ∀ j, I' 5 j = if j = cN T + 1 then I 1 5 + 1 else I 5 j) (h6 : ∀ j, I' 6 j = if j = cP T + ps.length then nI x else I 6 j) (h7 : ∀ j, I' 7 j = if j = cP T + ps.length then nI (cN T) else I 7 j)
    (hq : ∀ q, q = 2 ∨ q = 3 ∨ q = 4 ∨ q = 8 ∨ q = 9 ∨ q = 10 → I' q = I q) : sl_rc (sl_add T (.inr (k, ps ++ [x]))) I' := by
  obtain ⟨⟨a1, a2, a3, a4, a5⟩, c1, c2, c3, c4, c5, c6⟩ := hr
  rw [sl_add_P] at a5
  have a5' : I 1 5 = nI (cP T + ps.length) := a5
  refine ⟨⟨?_, ?_, ?_, ?_, ?_⟩, ?_, ?_, ?_, ?_, ?_, ?_⟩
  · rw [h1.1, a1]; rfl
  · rw [h1.2.1, a2, sl_add_S, sl_add_S]; rfl
  · rw [h1.2.2.1, a3]; rfl
  · rw [h1.2.2.2.1, a4, sl_add_ob hw, sl_add_ob hw]
  · rw [h1.2.2.2.2, a5', sl_add_P, ← nI_succ]
    show _ = nI (cP T + (ps ++ [x]).length)
    rw [List.length_append]; rfl
  · intro l hl b' hb
    by_cases hl' : l = cN T
    · subst hl'
      rw [sl_add_D] at hb
      cases hb
    · have h : l < cN T + 1 := hl
      have hl2 : l < cN T := by omega
      have hb2 : cD (sl_add T (.inr (k, ps))) l = .inl b' := by rw [sl_add_D' hl2] at hb ⊢; exact hb
      have := c1 l h b' hb2
      rw [hq 2 (by simp), hq 3 (by simp), hq 4 (by simp), sl_add_ns (by omega)]
      rw [sl_add_ns (by omega)] at this
      exact this
  · intro l hl k' ps' hk
    by_cases hl' : l = cN T
    · subst hl'
      rw [sl_add_D] at hk
      cases hk
      obtain ⟨d1, d2, d3⟩ := c2 (cN T) (Nat.lt_succ_self _) k ps sl_add_D
      rw [hq 2 (by simp), hq 4 (by simp)]
      refine ⟨d1, d2, fun j y hy => ?_⟩
      rw [sl_add_np (Nat.le_refl _), h6, h7]
      rw [sl_add_np (Nat.le_refl _)] at d3
      by_cases hj : j < ps.length
      · rw [List.getElem?_append_left hj] at hy
        have e : ¬ sl_np (cD T) (cN T) + j = cP T + ps.length := by
          show ¬ cP T + j = cP T + ps.length
          omega
        rw [if_neg e, if_neg e]
        exact d3 j y hy
      · by_cases hj2 : j = ps.length
        · subst hj2
          rw [List.getElem?_append_right (Nat.le_refl _)] at hy
          simp at hy
          subst hy
          rw [if_pos rfl, if_pos rfl]
          exact ⟨rfl, rfl⟩
        · have : (ps ++ [x])[j]? = none := List.getElem?_eq_none (by rw [List.length_append]; simp; omega)
          rw [this] at hy
          cases hy
    · have h : l < cN T + 1 := hl
      have hl2 : l < cN T := by omega
      have hk2 : cD (sl_add T (.inr (k, ps))) l = .inr (k', ps') := by rw [sl_add_D' hl2] at hk ⊢; exact hk
      obtain ⟨d1, d2, d3⟩ := c2 l h k' ps' hk2
      rw [hq 2 (by simp), hq 4 (by simp)]
      refine ⟨d1, d2, fun j y hy => ?_⟩
      have hlt : sl_np (cD T) l + j < cP T := by
        have h1 : j < ps'.length := (List.getElem?_eq_some_iff.mp hy).1
        rw [sl_add_D' hl2] at hk
        have h2 : sl_np (cD T) (l + 1) = sl_np (cD T) l + ps'.length := by simp only [sl_np]; rw [hk]; rfl
        have h3 : sl_np (cD T) (l + 1) ≤ cP T := sl_np_mono (cD T) (by omega)
        omega
      have d4 := d3 j y hy
      rw [sl_add_np (by omega)] at d4
      rw [sl_add_np (by omega), h6, h7, if_neg (by omega), if_neg (by omega)]
      exact d4
  · intro l hl
    rw [h5]
    by_cases hl' : l = cN T + 1
    · subst hl'
      rw [if_pos rfl]
      show I 1 5 + 1 = nI (cP (sl_add T (.inr (k, ps ++ [x]))))
      rw [sl_add_P, a5', ← nI_succ]
      show _ = nI (cP T + (ps ++ [x]).length)
      rw [List.length_append]; rfl
    · have h : l ≤ cN T + 1 := hl
      have hl2 : l ≤ cN T := by omega
      have := c3 l h
      rw [sl_add_np hl2] at this
      rw [if_neg hl', sl_add_np hl2]
      exact this
  · intro l hl
    rw [hq 9 (by simp)]
    exact c4 l hl
  · rw [hq 10 (by simp)]; exact c5
  · rw [hq 8 (by simp), sl_add_ob hw]
    rw [sl_add_ob hw] at c6
    exact c6
/-- a pin's line as an int: -1 for none -/
def sl_oi (x : Option Nat) : Int32 := match x with | none => -1 | some q => nI q
theorem t_C_addPin {k : Nat} {ps : List Nat} {x : Option Nat} {K : sk_I → sk_J → Prop} (hw : sl_wf T) (hN : cN T < 26) (hp : ps.length < 3) (hx : ∀ y, x = some y → y < cN T) (hr : sl_rc (sl_add T (.inr (k, ps))) I)
    (h : ∀ I' : sk_I, sl_rc (sl_add T (.inr (k, ps ++ x.toList))) I' → I' 1 0 = I 1 0 → (∀ q, 10 < q → I' q = I q) → K I' J) : sk_S Γ m_C_addPin 0 0 [.ref 1, .int (nI (cN T)), .int (sl_oi x)] sk_gg I J (sk_Kv K) := by
  refine sk_spec (by decide) rfl (by exact Nat.le_of_ble_eq_true rfl) ?_
  refine s_C_addPin_0 ⟨fun hne => ?_, fun he => ⟨rfl, rfl, ?_⟩⟩
  · cases x with
    | none => exact absurd rfl hne
    | some y =>
      have a5 : I 1 5 = nI (cP T + ps.length) := by rw [hr.1.2.2.2.2, sl_add_P]; rfl
      have hP : cP T ≤ 3 * cN T := sl_np_le hw (cN T) (Nat.le_refl _)
      have hv : vp_in (I 1 5) 78 := by rw [a5]; exact vp_nat (by omega) (by decide)
      have e1 : nI (cN T) + 1 = nI (cN T + 1) := (nI_succ _).symm
      refine ⟨hv, hv, by rw [e1]; exact vp_nat (by omega) (by decide), rfl, rfl, ?_⟩
      refine h _ (sl_rc_pin (x := y) hw hr ⟨?_, ?_, ?_, ?_, ?_⟩ ?_ ?_ ?_ ?_) ?_ ?_
      · simp [sk_pi, sk_set, upd]
      · simp [sk_pi, sk_set, upd]
      · simp [sk_pi, sk_set, upd]
      · simp [sk_pi, sk_set, upd]
      · simp [sk_pi, sk_set, upd]
      · intro j; rw [e1, zI_cl (sl_lt31 (m := 27) (by omega) (by decide))]; simp [sk_pi, sk_set, upd]
      · intro j; rw [a5, zI_cl (sl_lt31 (m := 100) (by omega) (by decide))]; simp [sk_pi, sk_set, upd, sl_oi]
      · intro j; rw [a5, zI_cl (sl_lt31 (m := 100) (by omega) (by decide))]; simp [sk_pi, sk_set, upd]
      · rintro q (rfl | rfl | rfl | rfl | rfl | rfl) <;> simp [sk_pi, sk_set]
      · simp [sk_pi, sk_set, upd]
      · intro q hq
        have : q ≠ 1 ∧ q ≠ 5 ∧ q ≠ 6 ∧ q ≠ 7 := by omega
        simp [sk_pi, sk_set, this]
  · cases x with
    | none =>
      refine h I ?_ rfl (fun q _ => rfl)
      rw [show ps ++ (none : Option Nat).toList = ps from List.append_nil ps]
      exact hr
    | some y =>
      have := hx y rfl
      exact absurd he (zI_m1 (sl_lt31 (m := 27) (by omega) (by decide)))
theorem t_C_addGate {k a : Nat} {b c : Option Nat} {K : Int32 → sk_I → sk_J → Prop} (hw : sl_wf T) (hr : sl_rc T I) (hN : cN T < 26) (ha : a < cN T) (hb : ∀ y, b = some y → y < cN T) (hc : ∀ y, c = some y → y < cN T)
    (h : ∀ I' : sk_I, sl_rc (sl_add T (.inr (k, a :: (b.toList ++ c.toList)))) I' → I' 1 0 = I 1 0 + 1 → (∀ q, 10 < q → I' q = I q) → K (nI (cN T)) I' J) : sk_S Γ m_C_addGate 0 0 [.ref 1, .int (nI k), .int (nI a), .int (sl_oi b), .int (sl_oi c)] sk_gg I J (sk_Ki K) := by
  refine sk_spec (by decide) rfl (by exact Nat.le_of_ble_eq_true rfl) ?_
  refine s_C_addGate_0 ?_
  refine sk_spec (by decide) rfl (by exact Nat.le_of_ble_eq_true rfl) ?_
  refine s_C_addLine_0 ?_
  have e1 : I 1 1 = nI (cN T) := hr.1.1
  have e1' : I 1 1 + 1 = nI (cN T + 1) := by rw [e1]; exact (nI_succ _).symm
  rw [e1', e1, zI_cl (sl_lt31 (m := 27) (by omega) (by decide)), zI_cl (sl_lt31 (m := 27) (by omega) (by decide))]
  have v1 : vp_in (nI (cN T)) 26 := vp_nat hN (by decide)
  refine ⟨v1, v1, v1, v1, vp_nat (by omega) (by decide), _, rfl, rfl, ?_⟩
  have hr0 := sl_rc_gate0 (k := k) (I := I) (I' := sk_pi (sk_pi (sk_pi (sk_pi (sk_pi (sk_pi (sk_pi I 2 (cN T) (nI k)) 4 (cN T) 0) 3 (cN T) (-1)) 9 (cN T) (-1)) 5 (cN T + 1) (I 1 5)) 1 1 (nI (cN T + 1))) 1 0 ((I 1 0) + 1)) hw hr
    ⟨by rw [e1']; simp [sk_pi, sk_set, upd], by simp [sk_pi, sk_set, upd], by simp [sk_pi, sk_set, upd], by simp [sk_pi, sk_set, upd], by simp [sk_pi, sk_set, upd]⟩
    (by intro j; simp [sk_pi, sk_set, upd]) (by intro j; simp [sk_pi, sk_set, upd]) (by intro j; simp [sk_pi, sk_set, upd]) (by intro j; simp [sk_pi, sk_set, upd]) (by intro j; simp [sk_pi, sk_set, upd])
    (by rintro q (rfl | rfl | rfl | rfl) <;> simp [sk_pi, sk_set])
  refine s_C_addGate_5 ?_
  refine t_C_addPin (x := some a) hw hN (by simp) (fun y hy => by cases hy; exact ha) hr0 (fun I1 r1 w1 f1 => ?_)
  refine s_C_addGate_14 ?_
  have hb3 : b.toList.length ≤ 1 := by cases b <;> simp
  refine t_C_addPin (x := b) hw hN (by simp) hb r1 (fun I2 r2 w2 f2 => ?_)
  refine s_C_addGate_21 ?_
  refine t_C_addPin (x := c) hw hN (by simp; omega) hc r2 (fun I3 r3 w3 f3 => ?_)
  refine s_C_addGate_29 ⟨_, rfl, rfl, h I3 ?_ ?_ ?_⟩
  · simpa using r3
  · rw [w3, w2, w1]; simp [sk_pi, sk_set, upd]
  · intro q hq
    rw [f3 q hq, f2 q hq, f1 q hq]
    have : q ≠ 1 ∧ q ≠ 2 ∧ q ≠ 3 ∧ q ≠ 4 ∧ q ≠ 5 ∧ q ≠ 9 := by omega
    simp [sk_pi, sk_set, this]
theorem t_C_observe {x : Option Nat} {xs : List Nat} {K : sk_I → sk_J → Prop} (hx : ∀ y, x = some y → y < 26 ∧ xs.length < 12) (h4 : I 1 4 = nI xs.length) (hp : sl_pre (I 8) xs)
    (h : ∀ I' : sk_I, I' 1 4 = nI (xs ++ x.toList).length → sl_pre (I' 8) (xs ++ x.toList) → (∀ j, j ≠ 4 → I' 1 j = I 1 j) → (∀ q, q ≠ 1 → q ≠ 8 → I' q = I q) → K I' J) : sk_S Γ m_C_observe 0 0 [.ref 1, .int (sl_oi x)] sk_gg I J (sk_Kv K) := by
  refine sk_spec (by decide) rfl (by exact Nat.le_of_ble_eq_true rfl) ?_
  refine s_C_observe_0 ⟨fun he => ⟨rfl, rfl, ?_⟩, fun hne => ?_⟩
  · cases x with
    | none =>
      refine h I ?_ ?_ (fun _ _ => rfl) (fun _ _ _ => rfl)
      · rw [show xs ++ (none : Option Nat).toList = xs from List.append_nil xs]; exact h4
      · rw [show xs ++ (none : Option Nat).toList = xs from List.append_nil xs]; exact hp
    | some y => exact absurd he (zI_m1 (sl_lt31 (m := 27) (by have := (hx y rfl).1; omega) (by decide)))
  · cases x with
    | none => exact absurd rfl hne
    | some y =>
      have hl := (hx y rfl).2
      rw [h4, zI_cl (sl_lt31 (m := 27) (by omega) (by decide))]
      refine ⟨vp_nat hl (by decide), rfl, rfl, h _ ?_ ?_ ?_ ?_⟩
      · rw [pi_eq, ← nI_succ]; simp
      · rw [pi_q _ _ _ _ (by decide)]
        exact sl_pre_push hp (fun j hj => pi_j _ _ _ _ (by omega)) (pi_eq _ _ _ _)
      · intro j hj
        rw [pi_j _ _ _ _ hj, pi_q _ _ _ _ (by decide)]
      · intro q h1 h8
        rw [pi_q _ _ _ _ h1, pi_q _ _ _ _ h8]
theorem t_C_gatherObserved {K : sk_I → sk_J → Prop} (hw : sl_wf T) (h1 : I 1 1 = nI (cN T)) (h3 : I 1 3 = nI (cO T).length) (h10 : sl_pre (I 10) (cO T)) (h9 : ∀ l, l < cN T → I 9 l = sl_oi (cA T l))
    (h : ∀ I' : sk_I, I' 1 4 = nI (sl_ob T).length → sl_pre (I' 8) (sl_ob T) → I' 1 0 = I 1 0 + 1 → (∀ j, j ≠ 0 → j ≠ 4 → I' 1 j = I 1 j) → (∀ q, q ≠ 1 → q ≠ 8 → I' q = I q) → K I' J) : sk_S Γ m_C_gatherObserved 0 0 [.ref 1] sk_gg I J (sk_Kv K) := by
  refine sk_spec (by decide) rfl (by exact Nat.le_of_ble_eq_true rfl) ?_
  have hN := sl_N31 hw
  have hO := sl_O31 hw
  have loop2 : ∀ d l (I1 : sk_I), l + d = cN T → I1 1 4 = nI (cO T ++ (List.range l).filterMap (cA T)).length → sl_pre (I1 8) (cO T ++ (List.range l).filterMap (cA T)) → (∀ j, j ≠ 4 → I1 1 j = I 1 j) → (∀ q, q ≠ 1 → q ≠ 8 → I1 q = I q) →
      sk_W Γ m_C_gatherObserved 0 0 33 [(0, .ref 1), (1, .int (nI l))] [] sk_gg I1 J 0 0 (sk_Kv K) := by
    intro d
    induction d with
    | zero =>
      intro l I1 hl i4 i8 i1 iq
      have hl : l = cN T := by omega
      subst hl
      refine s_C_gatherObserved_33 ⟨fun _ => ⟨rfl, rfl, h _ ?_ ?_ ?_ ?_ ?_⟩, fun hc => absurd ?_ hc⟩
      · rw [pi_j _ _ _ _ (by decide)]; exact i4
      · rw [pi_q _ _ _ _ (by decide)]; exact i8
      · rw [pi_eq, i1 0 (by decide)]
      · intro j h0 h4
        rw [pi_j _ _ _ _ h0, i1 j h4]
      · intro q hq1 hq8
        rw [pi_q _ _ _ _ hq1, iq q hq1 hq8]
      · rw [i1 1 (by decide), h1]; exact (zI_le hN hN).mpr (Nat.le_refl _)
    | succ d ih =>
      intro l I1 hl i4 i8 i1 iq
      have hlN : l < cN T := by omega
      have hl31 : l < 2 ^ 31 := by omega
      refine s_C_gatherObserved_33 ⟨fun hc => ?_, fun _ => ?_⟩
      · rw [i1 1 (by decide), h1, zI_le hN hl31] at hc
        omega
      · refine ⟨vp_nat (by have := hw.1; omega) (by decide), ?_⟩
        rw [zI_cl hl31, iq 9 (by decide) (by decide), h9 l hlN]
        refine t_C_observe (x := cA T l) (xs := cO T ++ (List.range l).filterMap (cA T)) (fun y hy => ?_) i4 i8 (fun I2 j4 j8 j1 jq => ?_)
        · obtain ⟨w1, w2, w3⟩ := hw.2.2.2.2.2 l y hy
          have e1 := sl_da_len hw l (by omega)
          have e2 : sl_ns (cD T) (l + 1) ≤ cS T := sl_ns_mono (cD T) (by omega)
          have e3 : sl_ns (cD T) (l + 1) = sl_ns (cD T) l + 1 := by simp only [sl_ns]; rw [w3]; rfl
          have e4 := hw.2.1
          have e5 := hw.2.2.1
          have e6 := hw.1
          refine ⟨by omega, ?_⟩
          rw [List.length_append]; omega
        · refine s_C_gatherObserved_51 ?_
          rw [show nI l + 1 = nI (l + 1) from (nI_succ l).symm]
          have e : cO T ++ (List.range (l + 1)).filterMap (cA T) = cO T ++ (List.range l).filterMap (cA T) ++ (cA T l).toList := by
            rw [List.range_succ, List.filterMap_append, List.append_assoc]
            congr 2
          refine ih (l + 1) I2 (by omega) (by rw [e]; exact j4) (by rw [e]; exact j8) (fun j hj => ?_) (fun q a b => ?_)
          · rw [j1 j hj, i1 j hj]
          · rw [jq q a b, iq q a b]
  have loop1 : ∀ d i (I1 : sk_I), i + d = (cO T).length → I1 1 4 = nI ((cO T).take i).length → sl_pre (I1 8) ((cO T).take i) → (∀ j, j ≠ 4 → I1 1 j = I 1 j) → (∀ q, q ≠ 1 → q ≠ 8 → I1 q = I q) →
      sk_W Γ m_C_gatherObserved 0 0 7 [(0, .ref 1), (1, .int (nI i))] [] sk_gg I1 J 0 0 (sk_Kv K) := by
    intro d
    induction d with
    | zero =>
      intro i I1 hi i4 i8 i1 iq
      have hi : i = (cO T).length := by omega
      subst hi
      refine s_C_gatherObserved_7 ⟨fun _ => ?_, fun hc => absurd ?_ hc⟩
      · rw [List.take_length] at i4 i8
        refine loop2 (cN T) 0 I1 (by omega) ?_ ?_ i1 iq
        · simpa using i4
        · simpa using i8
      · rw [i1 3 (by decide), h3]; exact (zI_le hO hO).mpr (Nat.le_refl _)
    | succ d ih =>
      intro i I1 hi i4 i8 i1 iq
      have hiO : i < (cO T).length := by omega
      have hi31 : i < 2 ^ 31 := by omega
      refine s_C_gatherObserved_7 ⟨fun hc => ?_, fun _ => ?_⟩
      · rw [i1 3 (by decide), h3, zI_le hO hi31] at hc
        omega
      · have hO6 := hw.2.2.1
        refine ⟨vp_nat (by omega) (by decide), ?_⟩
        have ev : I1 10 i = sl_oi ((cO T)[i]?) := by
          rw [iq 10 (by decide) (by decide), sl_pre_lt h10 hiO, List.getElem?_eq_getElem hiO]; rfl
        rw [zI_cl hi31, ev]
        refine t_C_observe (x := (cO T)[i]?) (xs := (cO T).take i) (fun y hy => ?_) i4 i8 (fun I2 j4 j8 j1 jq => ?_)
        · have e1 := hw.2.2.2.1 y (List.mem_of_getElem? hy)
          have e2 := hw.1
          refine ⟨by omega, ?_⟩
          rw [List.length_take]; omega
        · refine s_C_gatherObserved_25 ?_
          rw [show nI i + 1 = nI (i + 1) from (nI_succ i).symm]
          refine ih (i + 1) I2 (by omega) (by rw [List.take_succ]; exact j4) (by rw [List.take_succ]; exact j8) (fun j hj => ?_) (fun q a b => ?_)
          · rw [j1 j hj, i1 j hj]
          · rw [jq q a b, iq q a b]
  refine s_C_gatherObserved_0 ?_
  refine loop1 (cO T).length 0 _ (by omega) (by rw [pi_eq]; rfl) (by rw [List.take_zero]; exact sl_pre_nil _) (fun j hj => pi_j _ _ _ _ hj) (fun q hq _ => pi_q _ _ _ _ hq)
theorem sl_rc_oi (hr : sl_rc T I) {l : Nat} (hl : l < cN T) : I 9 l = sl_oi (cA T l) := by
  obtain ⟨h1, h2⟩ := hr.2.2.2.2.1 l hl
  cases hx : cA T l with
  | none => exact h1 hx
  | some x => exact h2 x hx
theorem sl_oi_rc {l : Nat} (h : I 9 l = sl_oi (cA T l)) : (cA T l = none → I 9 l = -1) ∧ ∀ x, cA T l = some x → I 9 l = nI x := by
  refine ⟨fun hx => ?_, fun x hx => ?_⟩
  · rw [h, hx]; rfl
  · rw [h, hx]; rfl
theorem t_C_addOutput {x : Nat} {K : Int32 → sk_I → sk_J → Prop} (hw : sl_wf T) (hr : sl_rc T I) (hx : x < cN T) (hO : (cO T).length < 6)
    (h : ∀ I' : sk_I, sl_rc (cN T, cD T, cO T ++ [x], cA T) I' → I' 1 0 = I 1 0 + 1 → (∀ q, 10 < q → I' q = I q) → K (nI ((cO T).length + 1)) I' J) : sk_S Γ m_C_addOutput 0 0 [.ref 1, .int (nI x)] sk_gg I J (sk_Ki K) := by
  refine sk_spec (by decide) rfl (by exact Nat.le_of_ble_eq_true rfl) ?_
  refine s_C_addOutput_0 ?_
  obtain ⟨⟨a1, a2, a3, a4, a5⟩, c1, c2, c3, c4, c5, c6⟩ := id hr
  rw [a3, zI_cl (sl_lt31 (m := 6) (by omega) (by decide)), show nI (cO T).length + 1 = nI ((cO T).length + 1) from (nI_succ _).symm]
  refine ⟨vp_nat hO (by decide), ?_⟩
  refine t_C_gatherObserved (T := (cN T, cD T, cO T ++ [x], cA T)) (sl_wf_out hw hx hO) ?_ ?_ ?_ ?_ (fun I' j4 j8 j0 jj jq => ?_)
  · rw [pi_j _ _ _ _ (by decide), pi_q _ _ _ _ (by decide)]; exact a1
  · rw [pi_eq]
    show _ = nI (cO T ++ [x]).length
    rw [List.length_append]; rfl
  · rw [pi_q _ _ _ _ (by decide)]
    exact sl_pre_push c5 (fun j hj => pi_j _ _ _ _ (by omega)) (pi_eq _ _ _ _)
  · intro l hl
    rw [pi_q _ _ _ _ (by decide), pi_q _ _ _ _ (by decide)]
    exact sl_rc_oi hr hl
  · have e3 : I' 1 3 = nI ((cO T).length + 1) := by rw [jj 3 (by decide) (by decide), pi_eq]
    refine s_C_addOutput_24 ⟨_, rfl, rfl, ?_⟩
    rw [e3]
    have fq : ∀ q, q ≠ 1 → q ≠ 8 → q ≠ 10 → I' q = I q := fun q b1 b8 b10 => by rw [jq q b1 b8, pi_q _ _ _ _ b1, pi_q _ _ _ _ b10]
    have fj : ∀ j, j ≠ 0 → j ≠ 4 → j ≠ 3 → I' 1 j = I 1 j := fun j b0 b4 b3 => by rw [jj j b0 b4, pi_j _ _ _ _ b3, pi_q _ _ _ _ (by decide)]
    refine h I' ⟨⟨?_, ?_, ?_, ?_, ?_⟩, ?_, ?_, ?_, ?_, ?_, ?_⟩ ?_ (fun q hq => fq q (by omega) (by omega) (by omega))
    · rw [fj 1 (by decide) (by decide) (by decide)]; exact a1
    · rw [fj 2 (by decide) (by decide) (by decide)]; exact a2
    · rw [e3]
      show _ = nI (cO T ++ [x]).length
      rw [List.length_append]; rfl
    · exact j4
    · rw [fj 5 (by decide) (by decide) (by decide)]; exact a5
    · rw [fq 2 (by decide) (by decide) (by decide), fq 3 (by decide) (by decide) (by decide), fq 4 (by decide) (by decide) (by decide)]; exact c1
    · rw [fq 2 (by decide) (by decide) (by decide), fq 4 (by decide) (by decide) (by decide), fq 6 (by decide) (by decide) (by decide), fq 7 (by decide) (by decide) (by decide)]; exact c2
    · rw [fq 5 (by decide) (by decide) (by decide)]; exact c3
    · rw [fq 9 (by decide) (by decide) (by decide)]; exact c4
    · rw [jq 10 (by decide) (by decide), pi_q _ _ _ _ (by decide)]
      exact sl_pre_push c5 (fun j hj => pi_j _ _ _ _ (by omega)) (pi_eq _ _ _ _)
    · exact j8
    · rw [j0, pi_j _ _ _ _ (by decide), pi_q _ _ _ _ (by decide)]
theorem t_C_connectData {fl x : Nat} {K : sk_I → sk_J → Prop} (hw : sl_wf T) (hr : sl_rc T I) (hx : x < cN T) (hf : fl < cN T) (hd : cD T fl = .inl true)
    (h : ∀ I' : sk_I, sl_rc (sl_dat T fl x) I' → I' 1 0 = I 1 0 + 1 → (∀ q, 10 < q → I' q = I q) → K I' J) : sk_S Γ m_C_connectData 0 0 [.ref 1, .int (nI fl), .int (nI x)] sk_gg I J (sk_Kv K) := by
  refine sk_spec (by decide) rfl (by exact Nat.le_of_ble_eq_true rfl) ?_
  refine s_C_connectData_0 ?_
  obtain ⟨⟨a1, a2, a3, a4, a5⟩, c1, c2, c3, c4, c5, c6⟩ := id hr
  have hN := hw.1
  rw [zI_cl (sl_lt31 (m := 26) (by omega) (by decide))]
  refine ⟨vp_nat (by omega) (by decide), ?_⟩
  have e9 : ∀ l, l < cN T → sk_pi I 9 fl (nI x) 9 l = sl_oi (cA (sl_dat T fl x) l) := by
    intro l hl
    rw [pi_at]
    show _ = sl_oi (if l = fl then some x else cA T l)
    by_cases hlf : l = fl
    · rw [if_pos hlf, if_pos hlf]; rfl
    · rw [if_neg hlf, if_neg hlf]; exact sl_rc_oi hr hl
  refine t_C_gatherObserved (T := sl_dat T fl x) (sl_wf_dat hw hx hf hd) ?_ ?_ ?_ e9 (fun I' j4 j8 j0 jj jq => ?_)
  · rw [pi_q _ _ _ _ (by decide)]; exact a1
  · rw [pi_q _ _ _ _ (by decide)]; exact a3
  · rw [pi_q _ _ _ _ (by decide)]; exact c5
  · refine s_C_connectData_11 ⟨rfl, rfl, ?_⟩
    have fq : ∀ q, q ≠ 1 → q ≠ 8 → q ≠ 9 → I' q = I q := fun q b1 b8 b9 => by rw [jq q b1 b8, pi_q _ _ _ _ b9]
    have fj : ∀ j, j ≠ 0 → j ≠ 4 → I' 1 j = I 1 j := fun j b0 b4 => by rw [jj j b0 b4, pi_q _ _ _ _ (by decide)]
    refine h I' ⟨⟨?_, ?_, ?_, ?_, ?_⟩, ?_, ?_, ?_, ?_, ?_, ?_⟩ ?_ (fun q hq => fq q (by omega) (by omega) (by omega))
    · rw [fj 1 (by decide) (by decide)]; exact a1
    · rw [fj 2 (by decide) (by decide)]; exact a2
    · rw [fj 3 (by decide) (by decide)]; exact a3
    · exact j4
    · rw [fj 5 (by decide) (by decide)]; exact a5
    · rw [fq 2 (by decide) (by decide) (by decide), fq 3 (by decide) (by decide) (by decide), fq 4 (by decide) (by decide) (by decide)]; exact c1
    · rw [fq 2 (by decide) (by decide) (by decide), fq 4 (by decide) (by decide) (by decide), fq 6 (by decide) (by decide) (by decide), fq 7 (by decide) (by decide) (by decide)]; exact c2
    · rw [fq 5 (by decide) (by decide) (by decide)]; exact c3
    · intro l hl
      refine sl_oi_rc ?_
      rw [jq 9 (by decide) (by decide)]; exact e9 l hl
    · rw [fq 10 (by decide) (by decide) (by decide)]; exact c5
    · exact j8
    · rw [j0, pi_q _ _ _ _ (by decide)]
theorem t_C_isOutput {x : Int32} {K : Int32 → sk_I → sk_J → Prop} (hw : sl_wf T) (hr : sl_rc T I) (h : K (if (∃ y ∈ cO T, x = nI y) then 1 else 0) I J) : sk_S Γ m_C_isOutput 0 0 [.ref 1, .int x] sk_gg I J (sk_Ki K) := by
  refine sk_spec (by decide) rfl (by exact Nat.le_of_ble_eq_true rfl) ?_
  refine s_C_isOutput_0 ?_
  have hO := sl_O31 hw
  have a3 : I 1 3 = nI (cO T).length := hr.1.2.2.1
  have c5 : sl_pre (I 10) (cO T) := hr.2.2.2.2.2.1
  have loop : ∀ d i, i + d = (cO T).length → (∀ j, j < i → ∀ y, (cO T)[j]? = some y → x ≠ nI y) → sk_W Γ m_C_isOutput 0 0 2 [(0, .ref 1), (1, .int x), (2, .int (nI i))] [] sk_gg I J 0 0 (sk_Ki K) := by
    intro d
    induction d with
    | zero =>
      intro i hi hno
      have hi : i = (cO T).length := by omega
      subst hi
      refine s_C_isOutput_2 ⟨fun _ => ⟨_, rfl, rfl, ?_⟩, fun hc => absurd ?_ hc⟩
      · rw [if_neg] at h
        · exact h
        · rintro ⟨y, hy, e⟩
          obtain ⟨j, hj⟩ := List.getElem?_of_mem hy
          exact hno j (List.getElem?_eq_some_iff.mp hj).1 y hj e
      · rw [a3]; exact (zI_le hO hO).mpr (Nat.le_refl _)
    | succ d ih =>
      intro i hi hno
      have hiO : i < (cO T).length := by omega
      have hi31 : i < 2 ^ 31 := by omega
      refine s_C_isOutput_2 ⟨fun hc => ?_, fun _ => ?_⟩
      · rw [a3, zI_le hO hi31] at hc; omega
      · have hO6 := hw.2.2.1
        refine ⟨vp_nat (by omega) (by decide), ?_, ?_⟩
        · rw [zI_cl hi31, sl_pre_lt c5 hiO, show nI i + 1 = nI (i + 1) from (nI_succ i).symm]
          intro hne
          refine ih (i + 1) (by omega) (fun j hj y hy => ?_)
          by_cases hji : j = i
          · subst hji
            rw [List.getElem?_eq_getElem hiO] at hy
            cases hy
            exact fun e => hne e.symm
          · exact hno j (by omega) y hy
        · rw [zI_cl hi31, sl_pre_lt c5 hiO]
          intro he
          refine ⟨_, rfl, rfl, ?_⟩
          rw [if_pos ⟨_, List.getElem_mem hiO, he.symm⟩] at h
          exact h
  exact loop (cO T).length 0 (by omega) (fun j hj => absurd hj (Nat.not_lt_zero _))
theorem sl_vec (hw : sl_wf T) (hr : sl_rc T I) : (1 : Int32) <<< (I 1 2 &&& 31) = nI (2 ^ cS T) := by
  rw [hr.1.2.1]
  exact zI_pow _ (by have := hw.2.1; omega)
theorem sl_S64 (hw : sl_wf T) : 2 ^ cS T ≤ 64 := by
  have h : 2 ^ cS T ≤ 2 ^ 6 := Nat.pow_le_pow_right (by decide) hw.2.1
  exact h
theorem t_C_vectors' {K : Int32 → sk_I → sk_J → Prop} (hw : sl_wf T) (hr : sl_rc T I) (h : K (nI (2 ^ cS T)) I J) : sk_S Γ m_C_vectors 0 0 [.ref 1] sk_gg I J (sk_Ki K) := by
  refine t_C_vectors ?_
  rw [sl_vec hw hr]; exact h
theorem t_C_faults' {K : Int32 → sk_I → sk_J → Prop} (hr : sl_rc T I) (h : K (nI (cF T)) I J) : sk_S Γ m_C_faults 0 0 [.ref 1] sk_gg I J (sk_Ki K) := by
  refine t_C_faults ?_
  rw [hr.1.1, hr.1.2.2.2.2, zI_add, zI_2, zI_mul]; exact h
theorem t_C_isSumOfSources {x : Int32} {K : Int32 → sk_I → sk_J → Prop} (hw : sl_wf T) (hr : sl_rc T I) (h : K (if x < 0 ∨ nI (2 ^ cS T) ≤ x then 0 else 1) I J) : sk_S Γ m_C_isSumOfSources 0 0 [.ref 1, .int x] sk_gg I J (sk_Ki K) := by
  refine sk_spec (by decide) rfl (by exact Nat.le_of_ble_eq_true rfl) ?_
  refine s_C_isSumOfSources_0 ⟨fun h1 => ⟨_, rfl, rfl, ?_⟩, fun h1 => ?_⟩
  · rw [if_pos (Or.inl h1)] at h; exact h
  · refine t_C_vectors' hw hr ?_
    refine s_C_isSumOfSources_9 ⟨fun h2 => ⟨_, rfl, rfl, ?_⟩, fun h2 => ⟨_, rfl, rfl, ?_⟩⟩
    · rw [if_pos (Or.inr h2)] at h; exact h
    · rw [if_neg (by rintro (h | h) <;> contradiction)] at h; exact h
end CB
