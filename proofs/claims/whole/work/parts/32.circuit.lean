/-! the class's circuit: what its cells say; its small methods -/
def sl_rc (T : sl_ct) (I : sk_I) : Prop :=
  (I 1 1 = nI (cN T) ∧ I 1 2 = nI (cS T) ∧ I 1 3 = nI (cO T).length ∧ I 1 4 = nI (sl_ob T).length ∧ I 1 5 = nI (cP T)) ∧
  (∀ l, l < cN T → ∀ b, cD T l = .inl b → I 2 l = -1 ∧ I 3 l = nI (sl_ns (cD T) l) ∧ I 4 l = (if b = true then 1 else 0)) ∧
  (∀ l, l < cN T → ∀ k ps, cD T l = .inr (k, ps) → I 2 l = nI k ∧ I 4 l = 0 ∧ ∀ j x, ps[j]? = some x → I 6 (sl_np (cD T) l + j) = nI x ∧ I 7 (sl_np (cD T) l + j) = nI l) ∧
  (∀ l, l ≤ cN T → I 5 l = nI (sl_np (cD T) l)) ∧
  (∀ l, l < cN T → (cA T l = none → I 9 l = -1) ∧ ∀ x, cA T l = some x → I 9 l = nI x) ∧
  (∀ i x, (cO T)[i]? = some x → I 10 i = nI x) ∧ (∀ i x, (sl_ob T)[i]? = some x → I 8 i = nI x)
theorem sl_rc_frame {T : sl_ct} {I I' : sk_I} (h : sl_rc T I) (h1 : ∀ j, 1 ≤ j → j ≤ 5 → I' 1 j = I 1 j) (h2 : ∀ q, 2 ≤ q → q ≤ 10 → I' q = I q) : sl_rc T I' := by
  obtain ⟨⟨a1, a2, a3, a4, a5⟩, b, c, d, e, f, g⟩ := h
  have e2 := h2 2 (by omega) (by omega)
  have e3 := h2 3 (by omega) (by omega)
  have e4 := h2 4 (by omega) (by omega)
  have e5 := h2 5 (by omega) (by omega)
  have e6 := h2 6 (by omega) (by omega)
  have e7 := h2 7 (by omega) (by omega)
  have e8 := h2 8 (by omega) (by omega)
  have e9 := h2 9 (by omega) (by omega)
  have e10 := h2 10 (by omega) (by omega)
  refine ⟨⟨?_, ?_, ?_, ?_, ?_⟩, ?_, ?_, ?_, ?_, ?_, ?_⟩
  · rw [h1 1 (by omega) (by omega)]; exact a1
  · rw [h1 2 (by omega) (by omega)]; exact a2
  · rw [h1 3 (by omega) (by omega)]; exact a3
  · rw [h1 4 (by omega) (by omega)]; exact a4
  · rw [h1 5 (by omega) (by omega)]; exact a5
  · intro l hl b' hb; rw [e2, e3, e4]; exact b l hl b' hb
  · intro l hl k ps hk; rw [e2, e4, e6, e7]; exact c l hl k ps hk
  · intro l hl; rw [e5]; exact d l hl
  · intro l hl; rw [e9]; exact e l hl
  · intro i x hx; rw [e10]; exact f i x hx
  · intro i x hx; rw [e8]; exact g i x hx
theorem sl_lt31 {n m : Nat} (h : n ≤ m) (hm : m ≤ 65536) : n < 2 ^ 31 := by
  have : (65536 : Nat) < 2 ^ 31 := by decide
  omega
theorem sl_N31 {T : sl_ct} (h : sl_wf T) : cN T < 2 ^ 31 := sl_lt31 h.1 (by decide)
theorem sl_P31 {T : sl_ct} (h : sl_wf T) : cP T < 2 ^ 31 := sl_lt31 (sl_P_le h) (by decide)
section CC
variable {Γ : sk_T} {I : sk_I} {J : sk_J} {T : sl_ct}
theorem t_C_hasLine {x : Int32} {K : Int32 → sk_I → sk_J → Prop} (h : K (if x < 0 ∨ I 1 1 ≤ x then 0 else 1) I J) : sk_S Γ m_C_hasLine 0 0 [.ref 1, .int x] sk_gg I J (sk_Ki K) := by
  refine sk_spec (by decide) rfl (by exact Nat.le_of_ble_eq_true rfl) ?_
  refine s_C_hasLine_0 ⟨fun h1 => ⟨_, rfl, rfl, ?_⟩, fun h1 => ⟨fun h2 => ⟨_, rfl, rfl, ?_⟩, fun h2 => ⟨_, rfl, rfl, ?_⟩⟩⟩
  · rw [if_pos (Or.inl h1)] at h; exact h
  · rw [if_pos (Or.inr h2)] at h; exact h
  · rw [if_neg (by rintro (h | h) <;> contradiction)] at h; exact h
theorem t_C_pinsOf {l : Nat} {K : Int32 → sk_I → sk_J → Prop} (hl : l < 26) (h : K (I 5 (l + 1) - I 5 l) I J) : sk_S Γ m_C_pinsOf 0 0 [.ref 1, .int (nI l)] sk_gg I J (sk_Ki K) := by
  refine sk_spec (by decide) rfl (by exact Nat.le_of_ble_eq_true rfl) ?_
  have e : nI l + 1 = nI (l + 1) := (nI_succ l).symm
  refine s_C_pinsOf_0 ?_
  rw [e, zI_cl (sl_lt31 (m := 27) (by omega) (by decide)), zI_cl (sl_lt31 (m := 27) (by omega) (by decide))]
  exact ⟨vp_nat (by omega) (by decide), vp_nat (by omega) (by decide), _, rfl, rfl, h⟩
theorem t_C_faults {K : Int32 → sk_I → sk_J → Prop} (h : K (2 * (I 1 1 + I 1 5)) I J) : sk_S Γ m_C_faults 0 0 [.ref 1] sk_gg I J (sk_Ki K) := by
  refine sk_spec (by decide) rfl (by exact Nat.le_of_ble_eq_true rfl) ?_
  exact s_C_faults_0 ⟨_, rfl, rfl, h⟩
theorem t_C_vectors {K : Int32 → sk_I → sk_J → Prop} (h : K (1 <<< (I 1 2 &&& 31)) I J) : sk_S Γ m_C_vectors 0 0 [.ref 1] sk_gg I J (sk_Ki K) := by
  refine sk_spec (by decide) rfl (by exact Nat.le_of_ble_eq_true rfl) ?_
  exact s_C_vectors_0 ⟨_, rfl, rfl, h⟩
/-- a fault as an int: -1 for none -/
def sl_fi (f : Option Nat) : Int32 := match f with | none => -1 | some q => nI q
def sl_fh (f : Option Nat) : Int32 := match f with | none => -1 | some q => nI (q / 2)
theorem sl_fi_half {f : Option Nat} (hf : ∀ q, f = some q → q < 256) : sl_fi f >>> (1 &&& 31) = sl_fh f := by
  cases f with
  | none => show (-1 : Int32) >>> (1 &&& 31) = -1; decide +kernel
  | some q => exact zI_half q (hf q rfl)
/-- where the stuck line is, as the class has it -/
def sl_sl (T : sl_ct) (f : Option Nat) : Int32 := match f with | none => -1 | some q => if q / 2 < cN T then nI (q / 2) else -1
def sl_sp (T : sl_ct) (f : Option Nat) : Int32 := match f with | none => -1 | some q => if q / 2 < cN T then -1 else nI (q / 2 - cN T)
theorem t_C_stuckLine {f : Option Nat} {K : Int32 → sk_I → sk_J → Prop} (hw : sl_wf T) (hN : I 1 1 = nI (cN T)) (hf : ∀ q, f = some q → q < 256) (h : K (sl_sl T f) I J) : sk_S Γ m_C_stuckLine 0 0 [.ref 1, .int (sl_fi f)] sk_gg I J (sk_Ki K) := by
  refine sk_spec (by decide) rfl (by exact Nat.le_of_ble_eq_true rfl) ?_
  refine s_C_stuckLine_0 ?_
  rw [sl_fi_half hf, hN]
  cases f with
  | none => exact ⟨fun _ => ⟨_, rfl, rfl, h⟩, fun hc => absurd (by decide : (-1 : Int32) < 0) hc⟩
  | some q =>
    have hq := hf q rfl
    have h1 : q / 2 < 2 ^ 31 := sl_lt31 (m := 256) (by omega) (by decide)
    refine ⟨fun hc => absurd hc (nI_pos h1), fun _ => ⟨fun hc => ⟨_, rfl, rfl, ?_⟩, fun hc => ⟨_, rfl, rfl, ?_⟩⟩⟩
    · have h2 := (zI_le (sl_N31 hw) h1).mp hc
      simp only [sl_sl, if_neg (Nat.not_lt.mpr h2)] at h
      exact h
    · have h2 : q / 2 < cN T := Nat.not_le.mp fun h3 => hc ((zI_le (sl_N31 hw) h1).mpr h3)
      simp only [sl_sl, if_pos h2] at h
      exact h
theorem t_C_stuckPin {f : Option Nat} {K : Int32 → sk_I → sk_J → Prop} (hw : sl_wf T) (hN : I 1 1 = nI (cN T)) (hf : ∀ q, f = some q → q < 256) (h : K (sl_sp T f) I J) : sk_S Γ m_C_stuckPin 0 0 [.ref 1, .int (sl_fi f)] sk_gg I J (sk_Ki K) := by
  refine sk_spec (by decide) rfl (by exact Nat.le_of_ble_eq_true rfl) ?_
  refine s_C_stuckPin_0 ?_
  rw [sl_fi_half hf, hN]
  cases f with
  | none =>
    refine ⟨fun _ => ⟨_, rfl, rfl, h⟩, fun hc => absurd ?_ hc⟩
    rw [Int32.lt_iff_toInt_lt, nI_toInt (sl_N31 hw)]
    have h2 : (-1 : Int32).toInt = -1 := by decide +kernel
    show (-1 : Int32).toInt < _
    rw [h2]; omega
  | some q =>
    have hq := hf q rfl
    have h1 : q / 2 < 2 ^ 31 := sl_lt31 (m := 256) (by omega) (by decide)
    refine ⟨fun hc => ⟨_, rfl, rfl, ?_⟩, fun hc => ⟨_, rfl, rfl, ?_⟩⟩
    · have h2 := (zI_lt h1 (sl_N31 hw)).mp hc
      simp only [sl_sp, if_pos h2] at h
      exact h
    · have h2 : ¬ q / 2 < cN T := fun h3 => hc ((zI_lt h1 (sl_N31 hw)).mpr h3)
      simp only [sl_sp, if_neg h2] at h
      show K (nI (q / 2) - nI (cN T)) I J
      rw [zI_sub (Nat.not_lt.mp h2)]
      exact h
end CC
