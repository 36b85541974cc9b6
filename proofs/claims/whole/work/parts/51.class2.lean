/-! the class: what is asked -/
section XY
variable {Γ : sk_T} {I : sk_I} {J : sk_J} {T : sl_ct} {lg : List (Nat × Nat)} {n : Nat}
theorem sl_fR_hi {I I' : sk_I} {J J' : sk_J} (f : sl_fR I I' J J') : ∀ q, 40 < q → I' q = I q := fun q hq => f.1 q (by omega) (by omega)
theorem x_count_bad {x : Int32} {K : String → sk_I → sk_J → Prop} (hx : x < 0 ∨ 5 < x) (h : K "java/lang/IllegalArgumentException" I J) : sk_S Γ m_X_count 1 6 [.ref 0, .int x] sk_gg I J (sk_Kx K) := by
  refine sk_spec (by decide) rfl (by exact Nat.le_of_ble_eq_true rfl) ?_
  have no : ∀ k : Int32, ¬ (k < 0 ∨ 5 < k) → ¬ x = k := fun k hk e => hk (e ▸ hx)
  exact s_X_count_0 ⟨fun e => absurd e (no 0 (by decide)), fun e => absurd e (no 1 (by decide)), fun e => absurd e (no 2 (by decide)), fun e => absurd e (no 3 (by decide)), fun e => absurd e (no 4 (by decide)), fun e => absurd e (no 5 (by decide)), fun _ _ _ _ _ _ => ⟨⟨by decide, by decide⟩, _, rfl, rfl, h⟩⟩
theorem x_count_ok {x : Int32} {K : Int32 → sk_I → sk_J → Prop} (hc : sl_cl T lg n I J) (hx : ¬ (x < 0 ∨ 5 < x)) (h : ∀ I' J', sl_cl T lg n I' J' → (∀ q, 40 < q → I' q = I q) → K (sl_c6 T x) I' J') : sk_S Γ m_X_count 0 0 [.ref 0, .int x] sk_gg I J (sk_Ki K) := by
  refine sk_spec (by decide) rfl (by exact Nat.le_of_ble_eq_true rfl) ?_
  have hw := hc.1
  have hr := hc.2.1
  have r := h I J hc (fun _ _ => rfl)
  refine s_X_count_0 ⟨fun e => ⟨_, rfl, rfl, ?_⟩, fun e => ⟨_, rfl, rfl, ?_⟩, fun e => ⟨_, rfl, rfl, ?_⟩, fun e => t_C_faults' hr (s_X_count_71 ⟨_, rfl, rfl, ?_⟩), fun e => ?_, fun e => ?_, fun n0 n1 n2 n3 n4 n5 => ?_⟩
  · subst e; rw [hr.1.1]; exact r
  · subst e; rw [hr.1.2.1]; exact r
  · subst e; rw [hr.1.2.2.2.1]; exact r
  · subst e; exact r
  · subst e
    refine t_R_prepareAll hw hr hc.2.2.1 (fun I1 J1 f1 c1 o1 => ?_)
    have hc1 := sl_cl_prep hc f1 c1
    exact s_X_count_79 (t_R_shownFaults hw hc1.2.1 o1 (s_X_count_86 ⟨_, rfl, rfl, h I1 J1 hc1 (sl_fR_hi f1)⟩))
  · subst e
    refine t_R_prepareAll hw hr hc.2.2.1 (fun I1 J1 f1 c1 o1 => ?_)
    have hc1 := sl_cl_prep hc f1 c1
    exact s_X_count_94 (t_R_classesOfAlike hw hc1.2.1 o1 (s_X_count_101 ⟨_, rfl, rfl, h I1 J1 hc1 (sl_fR_hi f1)⟩))
  · exfalso
    rcases sk_swOut6 n0 n1 n2 n3 n4 n5 with hh | hh
    · refine hx (Or.inl ?_)
      rw [Int32.lt_iff_toInt_lt]
      have : (0 : Int32).toInt = 0 := by decide +kernel
      omega
    · refine hx (Or.inr ?_)
      rw [Int32.lt_iff_toInt_lt]
      have : (5 : Int32).toInt = 5 := by decide +kernel
      omega
theorem x_value_bad {x y z : Int32} {K : String → sk_I → sk_J → Prop} (hc : sl_cl T lg n I J) (hA : sl_nv T x ∨ sl_nl T y ∨ (¬ z = -1 ∧ sl_nf T z)) (h : K "java/lang/IndexOutOfBoundsException" I J) : sk_S Γ m_X_value 1 6 [.ref 0, .int x, .int y, .int z] sk_gg I J (sk_Kx K) := by
  refine sk_spec (by decide) rfl (by exact Nat.le_of_ble_eq_true rfl) ?_
  have hw := hc.1
  have hr := hc.2.1
  by_cases hy : sl_nl T y
  · exact s_X_value_0 (Or.inr ⟨⟨by decide, by decide⟩, x_rLine_bad hr hy ⟨_, rfl, rfl, h⟩⟩)
  · refine s_X_value_0 (Or.inl (x_rLine_ok hr hy (s_X_value_5 ?_)))
    by_cases hx : sl_nv T x
    · exact Or.inr ⟨⟨by decide, by decide⟩, x_rVec_bad hw hr hx ⟨_, rfl, rfl, h⟩⟩
    · refine Or.inl (x_rVec_ok hw hr hx (s_X_value_10 (Or.inr ⟨⟨by decide, by decide⟩, x_rFN_bad hr ?_ ⟨_, rfl, rfl, h⟩⟩)))
      rcases hA with h | h | h
      · exact absurd h hx
      · exact absurd h hy
      · exact h
theorem x_value_ok {v l p : Nat} {K : Int32 → sk_I → sk_J → Prop} (hc : sl_cl T lg n I J) (hA : ¬ (sl_nv T (nI v) ∨ sl_nl T (nI l) ∨ (¬ sl_fi (sl_pf p) = -1 ∧ sl_nf T (sl_fi (sl_pf p))))) (hv : v < 2 ^ cS T) (hl : l < cN T) (hp : p ≤ cF T)
    (h : ∀ I' J', sl_cl T lg n I' J' → (∀ q, 40 < q → I' q = I q) → K (nI (sl_vv T (sl_sv v) (sl_pf p) l)) I' J') : sk_S Γ m_X_value 0 0 [.ref 0, .int (nI v), .int (nI l), .int (sl_fi (sl_pf p))] sk_gg I J (sk_Ki K) := by
  refine sk_spec (by decide) rfl (by exact Nat.le_of_ble_eq_true rfl) ?_
  have hw := hc.1
  have hr := hc.2.1
  have hN := hw.1
  have hS := sl_S64 hw
  refine s_X_value_0 (Or.inl (x_rLine_ok hr (fun hh => hA (Or.inr (Or.inl hh))) (s_X_value_5 (Or.inl (x_rVec_ok hw hr (fun hh => hA (Or.inl hh)) (s_X_value_10 (Or.inl (x_rFN_ok hr (fun hh => hA (Or.inr (Or.inr hh))) (s_X_value_15 ?_)))))))))
  refine t_S_settleVectors (Or.inl rfl) hw hr (sl_vf_pf hp) (fun I1 J1 fI fJ fE => ?_)
  refine s_X_value_23 ?_
  refine t_S_stateOf (g := fun v => sl_vv T (sl_sv v) (sl_pf p) l) (Or.inl rfl) (by omega) (by omega) (fE l hl) (sl_vv_le (fun i => Nat.le_trans (sl_sv_le v i) (by decide))) ?_
  exact s_X_value_32 ⟨_, rfl, rfl, h I1 J1 (sl_cl_frame hc (fun q hq => fI q (by omega)) (fJ 17 (by decide)) (fJ 18 (by decide))) (fun q hq => fI q (by omega))⟩
theorem x_response_bad {x z : Int32} {K : String → sk_I → sk_J → Prop} (hc : sl_cl T lg n I J) (hA : sl_nv T x ∨ (¬ z = -1 ∧ sl_nf T z)) (h : K "java/lang/IndexOutOfBoundsException" I J) : sk_S Γ m_X_response 1 6 [.ref 0, .int x, .int z] sk_gg I J (sk_Kx K) := by
  refine sk_spec (by decide) rfl (by exact Nat.le_of_ble_eq_true rfl) ?_
  have hw := hc.1
  have hr := hc.2.1
  by_cases hx : sl_nv T x
  · exact s_X_response_0 (Or.inr ⟨⟨by decide, by decide⟩, x_rVec_bad hw hr hx ⟨_, rfl, rfl, h⟩⟩)
  · refine s_X_response_0 (Or.inl (x_rVec_ok hw hr hx (s_X_response_5 (Or.inr ⟨⟨by decide, by decide⟩, x_rFN_bad hr ?_ ⟨_, rfl, rfl, h⟩⟩))))
    rcases hA with h | h
    · exact absurd h hx
    · exact h
theorem x_response_ok {v p : Nat} {K : Int32 → sk_I → sk_J → Prop} (hc : sl_cl T lg n I J) (hA : ¬ (sl_nv T (nI v) ∨ (¬ sl_fi (sl_pf p) = -1 ∧ sl_nf T (sl_fi (sl_pf p))))) (hv : v < 2 ^ cS T) (hp : p ≤ cF T)
    (h : ∀ I' J', sl_cl T lg n I' J' → (∀ q, 40 < q → I' q = I q) → K (nI (sl_rp T (sl_pf p) v)) I' J') : sk_S Γ m_X_response 0 0 [.ref 0, .int (nI v), .int (sl_fi (sl_pf p))] sk_gg I J (sk_Ki K) := by
  refine sk_spec (by decide) rfl (by exact Nat.le_of_ble_eq_true rfl) ?_
  have hw := hc.1
  have hr := hc.2.1
  refine s_X_response_0 (Or.inl (x_rVec_ok hw hr (fun hh => hA (Or.inl hh)) (s_X_response_5 (Or.inl (x_rFN_ok hr (fun hh => hA (Or.inr hh)) (s_X_response_10 ?_))))))
  refine t_R_prepare hw hr hc.2.2.1 hp (fun I1 J1 f1 c1 o0 op => ?_)
  have hc1 := sl_cl_prep hc f1 c1
  exact s_X_response_18 (t_R_to hw hc1.2.1 hp hv op (s_X_response_27 ⟨_, rfl, rfl, h I1 J1 hc1 (sl_fR_hi f1)⟩))
theorem x_least_bad {x : Int32} {K : String → sk_I → sk_J → Prop} (hc : sl_cl T lg n I J) (hA : sl_nf T x) (h : K "java/lang/IndexOutOfBoundsException" I J) : sk_S Γ m_X_least 1 6 [.ref 0, .int x] sk_gg I J (sk_Kx K) := by
  refine sk_spec (by decide) rfl (by exact Nat.le_of_ble_eq_true rfl) ?_
  exact s_X_least_0 (Or.inr ⟨⟨by decide, by decide⟩, x_rFault_bad hc.2.1 hA ⟨_, rfl, rfl, h⟩⟩)
theorem x_showing_bad {x : Int32} {K : String → sk_I → sk_J → Prop} (hc : sl_cl T lg n I J) (hA : sl_nf T x) (h : K "java/lang/IndexOutOfBoundsException" I J) : sk_S Γ m_X_showing 1 6 [.ref 0, .int x] sk_gg I J (sk_Kx K) := by
  refine sk_spec (by decide) rfl (by exact Nat.le_of_ble_eq_true rfl) ?_
  exact s_X_showing_0 (Or.inr ⟨⟨by decide, by decide⟩, x_rFault_bad hc.2.1 hA ⟨_, rfl, rfl, h⟩⟩)
theorem x_alike_bad {x : Int32} {K : String → sk_I → sk_J → Prop} (hc : sl_cl T lg n I J) (hA : sl_nf T x) (h : K "java/lang/IndexOutOfBoundsException" I J) : sk_S Γ m_X_alike 1 6 [.ref 0, .int x] sk_gg I J (sk_Kx K) := by
  refine sk_spec (by decide) rfl (by exact Nat.le_of_ble_eq_true rfl) ?_
  exact s_X_alike_0 (Or.inr ⟨⟨by decide, by decide⟩, x_rFault_bad hc.2.1 hA ⟨_, rfl, rfl, h⟩⟩)
theorem x_cube_bad {x : Int32} {K : String → sk_I → sk_J → Prop} (hc : sl_cl T lg n I J) (hA : sl_nf T x) (h : K "java/lang/IndexOutOfBoundsException" I J) : sk_S Γ m_X_cube 1 6 [.ref 0, .int x] sk_gg I J (sk_Kx K) := by
  refine sk_spec (by decide) rfl (by exact Nat.le_of_ble_eq_true rfl) ?_
  exact s_X_cube_0 (Or.inr ⟨⟨by decide, by decide⟩, x_rFault_bad hc.2.1 hA ⟨_, rfl, rfl, h⟩⟩)
theorem x_least_ok {q : Nat} {K : Int32 → sk_I → sk_J → Prop} (hc : sl_cl T lg n I J) (hA : ¬ sl_nf T (nI q)) (hq : q < cF T) (h : ∀ I' J', sl_cl T lg n I' J' → (∀ q, 40 < q → I' q = I q) → K (sl_oi (sl_ls T q)) I' J') : sk_S Γ m_X_least 0 0 [.ref 0, .int (nI q)] sk_gg I J (sk_Ki K) := by
  refine sk_spec (by decide) rfl (by exact Nat.le_of_ble_eq_true rfl) ?_
  have hw := hc.1
  refine s_X_least_0 (Or.inl (x_rFault_ok hc.2.1 hA (s_X_least_5 ?_)))
  refine t_R_prepare (p := q + 1) hw hc.2.1 hc.2.2.1 hq (fun I1 J1 f1 c1 o0 op => ?_)
  exact s_X_least_13 (t_R_firstShowing hw hq op (s_X_least_21 ⟨_, rfl, rfl, h I1 J1 (sl_cl_prep hc f1 c1) (sl_fR_hi f1)⟩))
theorem x_showing_ok {q : Nat} {K : Int64 → sk_I → sk_J → Prop} (hc : sl_cl T lg n I J) (hA : ¬ sl_nf T (nI q)) (hq : q < cF T) (h : ∀ I' J' (y : Int64), sl_SW T (some q) y → sl_cl T lg n I' J' → (∀ q, 40 < q → I' q = I q) → K y I' J') : sk_S Γ m_X_showing 0 0 [.ref 0, .int (nI q)] sk_gg I J (sk_Kl K) := by
  refine sk_spec (by decide) rfl (by exact Nat.le_of_ble_eq_true rfl) ?_
  have hw := hc.1
  have hF : cF T ≤ 208 := sl_F_le hw
  refine s_X_showing_0 (Or.inl (x_rFault_ok hc.2.1 hA (s_X_showing_5 ?_)))
  refine t_R_prepare (p := q + 1) hw hc.2.1 hc.2.2.1 hq (fun I1 J1 f1 c1 o0 op => ?_)
  exact s_X_showing_13 (t_R_vectorsShowing (by omega) (s_X_showing_21 ⟨_, rfl, rfl, h I1 J1 _ op.2 (sl_cl_prep hc f1 c1) (sl_fR_hi f1)⟩))
theorem x_alike_ok {q : Nat} {K : Int32 → sk_I → sk_J → Prop} (hc : sl_cl T lg n I J) (hA : ¬ sl_nf T (nI q)) (hq : q < cF T) (h : ∀ I' J', sl_cl T lg n I' J' → (∀ q, 40 < q → I' q = I q) → K (nI (sl_fa T q)) I' J') : sk_S Γ m_X_alike 0 0 [.ref 0, .int (nI q)] sk_gg I J (sk_Ki K) := by
  refine sk_spec (by decide) rfl (by exact Nat.le_of_ble_eq_true rfl) ?_
  have hw := hc.1
  refine s_X_alike_0 (Or.inl (x_rFault_ok hc.2.1 hA (s_X_alike_5 ?_)))
  refine t_R_prepareAll hw hc.2.1 hc.2.2.1 (fun I1 J1 f1 c1 o1 => ?_)
  have hc1 := sl_cl_prep hc f1 c1
  exact s_X_alike_12 (t_R_firstAlike hw hc1.2.1 hq o1 (s_X_alike_20 ⟨_, rfl, rfl, h I1 J1 hc1 (sl_fR_hi f1)⟩))
theorem x_cube_ok {q : Nat} {K : Int32 → sk_I → sk_J → Prop} (hc : sl_cl T lg n I J) (hA : ¬ sl_nf T (nI q)) (hq : q < cF T) (h : ∀ I' J', sl_cl T lg n I' J' → (∀ q, 40 < q → I' q = I q) → K (sl_cu T q) I' J') : sk_S Γ m_X_cube 0 0 [.ref 0, .int (nI q)] sk_gg I J (sk_Ki K) := by
  refine sk_spec (by decide) rfl (by exact Nat.le_of_ble_eq_true rfl) ?_
  have hw := hc.1
  have hS := sl_S64 hw
  refine s_X_cube_0 (Or.inl (x_rFault_ok hc.2.1 hA (s_X_cube_5 ?_)))
  refine t_R_prepare (p := q + 1) hw hc.2.1 hc.2.2.1 hq (fun I1 J1 f1 c1 o0 op => ?_)
  have hc1 := sl_cl_prep hc f1 c1
  refine s_X_cube_13 (t_R_firstShowing hw hq op (s_X_cube_21 ?_))
  unfold sl_cu at h
  cases hl : sl_ls T q with
  | none =>
    rw [hl] at h
    exact ⟨fun hn => absurd rfl hn, fun _ => s_X_cube_40 ⟨_, rfl, rfl, h I1 J1 hc1 (sl_fR_hi f1)⟩⟩
  | some v =>
    rw [hl] at h
    have hv := (sl_ls_lt hl).1
    refine ⟨fun _ => t_U_widen hw hc1.2.1 (by omega) hq (fun I2 J2 f2 g2 => s_X_cube_40 ⟨_, rfl, rfl, h I2 J2 (sl_cl_frame hc1 (fun q hq => f2 q (by omega) (by omega)) (g2 17 (by decide)) (g2 18 (by decide))) (fun q hq => by rw [f2 q (by omega) (by omega), sl_fR_hi f1 q hq])⟩), fun hn => absurd hn (zI_m1 (a := v) (sl_lt31 (m := 64) (by omega) (by decide)))⟩
theorem x_ternary_b1 {x y z w : Int32} {K : String → sk_I → sk_J → Prop} (hc : sl_cl T lg n I J) (hA : sl_nl T z ∨ (¬ w = -1 ∧ sl_nf T w)) (h : K "java/lang/IndexOutOfBoundsException" I J) : sk_S Γ m_X_ternary 1 6 [.ref 0, .int x, .int y, .int z, .int w] sk_gg I J (sk_Kx K) := by
  refine sk_spec (by decide) rfl (by exact Nat.le_of_ble_eq_true rfl) ?_
  have hr := hc.2.1
  by_cases hz : sl_nl T z
  · exact s_X_ternary_0 (Or.inr ⟨⟨by decide, by decide⟩, x_rLine_bad hr hz ⟨_, rfl, rfl, h⟩⟩)
  · refine s_X_ternary_0 (Or.inl (x_rLine_ok hr hz (s_X_ternary_5 (Or.inr ⟨⟨by decide, by decide⟩, x_rFN_bad hr ?_ ⟨_, rfl, rfl, h⟩⟩))))
    rcases hA with h | h
    · exact absurd h hz
    · exact h
theorem x_ternary_b2 {x y z w : Int32} {K : String → sk_I → sk_J → Prop} (hc : sl_cl T lg n I J) (hA : ¬ (sl_nl T z ∨ (¬ w = -1 ∧ sl_nf T w))) (hB : sl_tB T x y) (h : K "java/lang/IllegalArgumentException" I J) : sk_S Γ m_X_ternary 1 6 [.ref 0, .int x, .int y, .int z, .int w] sk_gg I J (sk_Kx K) := by
  refine sk_spec (by decide) rfl (by exact Nat.le_of_ble_eq_true rfl) ?_
  have hw := hc.1
  have hr := hc.2.1
  have bad : (1 ≤ 1 ∧ 6 ≤ 6) ∧ (sk_Kx K) (.inr "java/lang/IllegalArgumentException") sk_gg I J := ⟨⟨by decide, by decide⟩, _, rfl, rfl, h⟩
  refine s_X_ternary_0 (Or.inl (x_rLine_ok hr (fun hh => hA (Or.inl hh)) (s_X_ternary_5 (Or.inl (x_rFN_ok hr (fun hh => hA (Or.inr hh)) (s_X_ternary_11 (t_C_isSumOfSources hw hr (s_X_ternary_19 ?_))))))))
  by_cases hx : sl_nv T x
  · rw [if_pos hx]
    exact ⟨fun _ => bad, fun hn => absurd rfl hn⟩
  · rw [if_neg hx]
    refine ⟨fun _ => bad, fun _ => t_C_isSumOfSources hw hr (s_X_ternary_30 ?_)⟩
    by_cases hy : sl_nv T y
    · rw [if_pos hy]
      exact ⟨fun hn => absurd rfl hn, fun _ => bad⟩
    · rw [if_neg hy]
      refine ⟨fun _ => ⟨fun he => ?_, fun _ => bad⟩, fun hn => absurd hn (by decide)⟩
      rcases hB with h | h | h
      · exact absurd h hx
      · exact absurd h hy
      · exact absurd he h
theorem x_ternary_ok {a b l p : Nat} {K : Int32 → sk_I → sk_J → Prop} (hc : sl_cl T lg n I J) (hA : ¬ (sl_nl T (nI l) ∨ (¬ sl_fi (sl_pf p) = -1 ∧ sl_nf T (sl_fi (sl_pf p))))) (hB : ¬ sl_tB T (nI a) (nI b)) (ha : a < 2 ^ cS T) (hb : b < 2 ^ cS T) (hl : l < cN T) (hp : p ≤ cF T)
    (h : ∀ I' J', sl_cl T lg n I' J' → (∀ q, 40 < q → I' q = I q) → K (nI (sl_vv T (sl_sc a b) (sl_pf p) l)) I' J') : sk_S Γ m_X_ternary 0 0 [.ref 0, .int (nI a), .int (nI b), .int (nI l), .int (sl_fi (sl_pf p))] sk_gg I J (sk_Ki K) := by
  refine sk_spec (by decide) rfl (by exact Nat.le_of_ble_eq_true rfl) ?_
  have hw := hc.1
  have hr := hc.2.1
  have hN := hw.1
  have hS := sl_S64 hw
  refine s_X_ternary_0 (Or.inl (x_rLine_ok hr (fun hh => hA (Or.inl hh)) (s_X_ternary_5 (Or.inl (x_rFN_ok hr (fun hh => hA (Or.inr hh)) (s_X_ternary_11 (t_C_isSumOfSources hw hr (s_X_ternary_19 ?_))))))))
  rw [if_neg (fun hh => hB (Or.inl hh))]
  refine ⟨fun hn => absurd hn (by decide), fun _ => t_C_isSumOfSources hw hr (s_X_ternary_30 ?_)⟩
  rw [if_neg (fun hh => hB (Or.inr (Or.inl hh)))]
  refine ⟨fun _ => ⟨fun _ => ?_, fun hn => absurd (Or.inr (Or.inr hn)) hB⟩, fun hn => absurd hn (by decide)⟩
  refine t_S_settleCube (Or.inl rfl) hw hr (sl_vf_pf hp) (by omega) (by omega) (fun I1 J1 fI fJ fE => ?_)
  refine s_X_ternary_70 ?_
  refine t_S_stateOf (v := 0) (g := fun _ => sl_vv T (sl_sc a b) (sl_pf p) l) (Or.inl rfl) (by omega) (by decide) (fE l hl) (sl_vv_le (sl_sc_le a b)) ?_
  exact s_X_ternary_79 ⟨_, rfl, rfl, h I1 J1 (sl_cl_frame hc (fun q hq => fI q (by omega)) (fJ 17 (by decide)) (fJ 18 (by decide))) (fun q hq => fI q (by omega))⟩
theorem x_log_b1 {x y : Int32} {K : String → sk_I → sk_J → Prop} (hc : sl_cl T lg n I J) (hx : sl_nv T x) (h : K "java/lang/IndexOutOfBoundsException" I J) : sk_S Γ m_X_log 1 6 [.ref 0, .int x, .int y] sk_gg I J (sk_Kx K) := by
  refine sk_spec (by decide) rfl (by exact Nat.le_of_ble_eq_true rfl) ?_
  exact s_X_log_0 (Or.inr ⟨⟨by decide, by decide⟩, x_rVec_bad hc.1 hc.2.1 hx ⟨_, rfl, rfl, h⟩⟩)
theorem sl_4096 {y : Int32} : y < 4096 ↔ ¬ 4095 < y := by
  rw [Int32.lt_iff_toInt_lt, Int32.lt_iff_toInt_lt]
  have e1 : (4096 : Int32).toInt = 4096 := by decide +kernel
  have e2 : (4095 : Int32).toInt = 4095 := by decide +kernel
  omega
theorem x_log_b2 {x y : Int32} {K : String → sk_I → sk_J → Prop} (hc : sl_cl T lg n I J) (hx : ¬ sl_nv T x) (hy : y < 0 ∨ 4095 < y) (h : K "java/lang/IllegalArgumentException" I J) : sk_S Γ m_X_log 1 6 [.ref 0, .int x, .int y] sk_gg I J (sk_Kx K) := by
  refine sk_spec (by decide) rfl (by exact Nat.le_of_ble_eq_true rfl) ?_
  refine s_X_log_0 (Or.inl (x_rVec_ok hc.1 hc.2.1 hx (s_X_log_5 ⟨fun _ => ⟨⟨by decide, by decide⟩, _, rfl, rfl, h⟩, fun y0 => ⟨fun y1 => ?_, fun _ => ⟨⟨by decide, by decide⟩, _, rfl, rfl, h⟩⟩⟩)))
  rcases hy with hy | hy
  · exact absurd hy y0
  · exact absurd hy (sl_4096.mp y1)
theorem x_log_b3 {x y : Int32} {K : String → sk_I → sk_J → Prop} (hc : sl_cl T lg n I J) (hx : ¬ sl_nv T x) (hy : ¬ (y < 0 ∨ 4095 < y)) (hl : lg.length = 16) (h : K "java/lang/IllegalStateException" I J) : sk_S Γ m_X_log 1 6 [.ref 0, .int x, .int y] sk_gg I J (sk_Kx K) := by
  refine sk_spec (by decide) rfl (by exact Nat.le_of_ble_eq_true rfl) ?_
  refine s_X_log_0 (Or.inl (x_rVec_ok hc.1 hc.2.1 hx (s_X_log_5 ⟨fun hn => absurd (Or.inl hn) hy, fun y0 => ⟨fun y1 => ⟨fun h16 => ?_, fun _ => ⟨⟨by decide, by decide⟩, _, rfl, rfl, h⟩⟩, fun hn => absurd (sl_4096.mpr (fun hh => hy (Or.inr hh))) hn⟩⟩)))
  rw [hc.2.2.2.2.1.1, hl] at h16
  exact absurd h16 (by decide +kernel)
theorem x_log_ok {v r : Nat} {K : Int32 → sk_I → sk_J → Prop} (hc : sl_cl T lg n I J) (hx : ¬ sl_nv T (nI v)) (hy : ¬ (nI r < 0 ∨ 4095 < nI r)) (hl : lg.length < 16) (hv : v < 2 ^ cS T) (hr : r < 4096)
    (h : ∀ I' : sk_I, sl_cl T (lg ++ [(v, r)]) n I' J → (∀ q, 40 < q → I' q = I q) → K (nI (lg.length + 1)) I' J) : sk_S Γ m_X_log 0 0 [.ref 0, .int (nI v), .int (nI r)] sk_gg I J (sk_Ki K) := by
  refine sk_spec (by decide) rfl (by exact Nat.le_of_ble_eq_true rfl) ?_
  refine s_X_log_0 (Or.inl (x_rVec_ok hc.1 hc.2.1 hx (s_X_log_5 ⟨fun hn => absurd (Or.inl hn) hy, fun y0 => ⟨fun y1 => ⟨fun _ => ?_, fun h16 => ?_⟩, fun hn => absurd (sl_4096.mpr (fun hh => hy (Or.inr hh))) hn⟩⟩)))
  · refine t_G_add hc.2.2.2.2.1 hl hv hr (fun I1 f1 g1 => ?_)
    obtain ⟨hw, hrc, hch, hpp, hlg, hvr⟩ := hc
    refine s_X_log_57 ⟨_, rfl, rfl, h I1 ⟨hw, sl_rc_frame hrc (fun j _ _ => by rw [f1 1 (by decide)]) (fun q _ _ => f1 q (by omega)), ?_, ?_, g1, ?_⟩ (fun q hq => f1 q (by omega))⟩
    · unfold sl_ch at hch ⊢
      rw [f1 19 (by decide), f1 1 (by decide)]; exact hch
    · unfold sl_pp at hpp ⊢
      rw [f1 36 (by decide), f1 37 (by decide), f1 1 (by decide)]; exact hpp
    · unfold sl_vr at hvr ⊢
      rw [f1 36 (by decide), f1 19 (by decide), f1 1 (by decide)]; exact hvr
  · rw [hc.2.2.2.2.1.1, show (16 : Int32) = nI 16 by decide +kernel, zI_lt (sl_lt31 (m := 16) (by omega) (by decide)) (by decide)] at h16
    exact absurd hl h16
theorem x_forget {K : Int32 → sk_I → sk_J → Prop} (hc : sl_cl T lg n I J) (h : ∀ I' : sk_I, sl_cl T [] n I' J → (∀ q, 40 < q → I' q = I q) → K (nI lg.length) I' J) : sk_S Γ m_X_forget 0 0 [.ref 0] sk_gg I J (sk_Ki K) := by
  refine sk_spec (by decide) rfl (by exact Nat.le_of_ble_eq_true rfl) ?_
  refine s_X_forget_0 ?_
  refine t_G_removeAll (fun I1 f1 z1 => ?_)
  obtain ⟨hw, hrc, hch, hpp, hlg, hvr⟩ := hc
  rw [hlg.1]
  refine s_X_forget_15 ⟨_, rfl, rfl, h I1 ⟨hw, sl_rc_frame hrc (fun j _ _ => by rw [f1 1 (by decide)]) (fun q _ _ => f1 q (by omega)), ?_, ?_, ⟨z1, Nat.zero_le _, fun x hx => by simp at hx, fun i x hx => by simp at hx⟩, ?_⟩ (fun q hq => f1 q (by omega))⟩
  · unfold sl_ch at hch ⊢
    rw [f1 19 (by decide), f1 1 (by decide)]; exact hch
  · unfold sl_pp at hpp ⊢
    rw [f1 36 (by decide), f1 37 (by decide), f1 1 (by decide)]; exact hpp
  · unfold sl_vr at hvr ⊢
    rw [f1 36 (by decide), f1 19 (by decide), f1 1 (by decide)]; exact hvr
theorem x_packed {x : Int32} {K : Int32 → sk_I → sk_J → Prop} (hc : sl_cl T lg n I J) (h : ∀ I' J', sl_cl T lg n I' J' → (∀ q, 40 < q → I' q = I q) → K (sl_pa (sl_pk T) x) I' J') : sk_S Γ m_X_packed 0 0 [.ref 0, .int x] sk_gg I J (sk_Ki K) := by
  refine sk_spec (by decide) rfl (by exact Nat.le_of_ble_eq_true rfl) ?_
  have hw := hc.1
  refine s_X_packed_0 ?_
  refine t_R_prepareAll hw hc.2.1 hc.2.2.1 (fun I1 J1 f1 c1 o1 => ?_)
  have hc1 := sl_cl_prep hc f1 c1
  refine s_X_packed_7 ?_
  refine t_P_at hw hc1.2.1 o1 hc1.2.2.2.1 (fun I2 J2 f2 g2 p2 v2 => ?_)
  exact s_X_packed_15 ⟨_, rfl, rfl, h I2 J2 (sl_cl_pack hc1 f2 g2 p2 v2) (fun q hq => by rw [f2 q (by omega) (by omega), sl_fR_hi f1 q hq])⟩
theorem x_explains {x : Int32} {K : Int32 → sk_I → sk_J → Prop} (hc : sl_cl T lg n I J) (h : ∀ I' J', sl_cl T lg n I' J' → (∀ q, 40 < q → I' q = I q) → K (sl_xp T lg x) I' J') : sk_S Γ m_X_explains 0 0 [.ref 0, .int x] sk_gg I J (sk_Ki K) := by
  refine sk_spec (by decide) rfl (by exact Nat.le_of_ble_eq_true rfl) ?_
  have hw := hc.1
  have hF : cF T ≤ 208 := sl_F_le hw
  have hF31 : cF T < 2 ^ 31 := sl_lt31 (m := 208) (by omega) (by decide)
  unfold sl_xp at h
  refine s_X_explains_0 ⟨fun hne => ?_, fun he => ?_⟩
  · refine t_R_prepareAll hw hc.2.1 hc.2.2.1 (fun I1 J1 f1 c1 o1 => ?_)
    have hc1 := sl_cl_prep hc f1 c1
    have r := h I1 J1 hc1 (sl_fR_hi f1)
    rw [if_neg hne] at r
    refine s_X_explains_37 ?_
    have loop : ∀ d i m, i + d = cF T → K (sl_kth (fun f => sl_ex T lg (some f)) x d i m) I1 J1 → sk_W Γ m_X_explains 0 0 41 [(0, .ref 0), (1, .int x), (2, .int (nI m)), (3, .int (nI i))] [] sk_gg I1 J1 0 0 (sk_Ki K) := by
      intro d
      induction d with
      | zero =>
        intro i m hi hk
        have hi : i = cF T := by omega
        subst hi
        exact s_X_explains_41 (t_C_faults' hc1.2.1 (s_X_explains_49 ⟨fun _ => ⟨_, rfl, rfl, hk⟩, fun hcc => absurd ((zI_le hF31 hF31).mpr (Nat.le_refl _)) hcc⟩))
      | succ d ih =>
        intro i m hi hk
        have hi31 : i < 2 ^ 31 := by omega
        simp only [sl_kth] at hk
        refine s_X_explains_41 (t_C_faults' hc1.2.1 (s_X_explains_49 ⟨fun hcc => ?_, fun _ => ?_⟩))
        · rw [zI_le hF31 hi31] at hcc; omega
        · refine t_G_isExplainedBy (p := i + 1) hw hc1.2.1 hc1.2.2.2.2.1 (by omega) (o1 _ (by omega)) ?_
          refine s_X_explains_60 ?_
          rw [show nI i + 1 = nI (i + 1) from (nI_succ i).symm, show nI m + 1 = nI (m + 1) from (nI_succ m).symm]
          by_cases he : sl_ex T lg (some i) = true
          · rw [if_pos he] at hk
            rw [show sl_pf (i + 1) = some i from rfl, if_pos he]
            refine ⟨fun h => absurd h (by decide), fun _ => ⟨fun hn => ih (i + 1) (m + 1) (by omega) ?_, fun hy => ⟨_, rfl, rfl, ?_⟩⟩⟩
            · rw [if_neg hn] at hk; exact hk
            · rw [if_pos hy] at hk; exact hk
          · rw [if_neg he] at hk
            rw [show sl_pf (i + 1) = some i from rfl, if_neg he]
            exact ⟨fun _ => ih (i + 1) m (by omega) hk, fun h => absurd rfl h⟩
    exact loop (cF T) 0 0 (by omega) r
  · refine t_R_prepare (p := 0) hw hc.2.1 hc.2.2.1 (Nat.zero_le _) (fun I1 J1 f1 c1 o0 _ => ?_)
    have hc1 := sl_cl_prep hc f1 c1
    have r := h I1 J1 hc1 (sl_fR_hi f1)
    rw [if_pos he] at r
    refine s_X_explains_13 (t_G_isExplainedBy (p := 0) hw hc1.2.1 hc1.2.2.2.2.1 (Nat.zero_le _) o0 (s_X_explains_21 ?_))
    by_cases hex : sl_ex T lg none = true
    · rw [if_pos hex] at r
      rw [show sl_pf 0 = none from rfl, if_pos hex]
      exact ⟨fun h => absurd h (by decide), fun _ => ⟨_, rfl, rfl, r⟩⟩
    · rw [if_neg hex] at r
      rw [show sl_pf 0 = none from rfl, if_neg hex]
      exact ⟨fun _ => ⟨_, rfl, rfl, r⟩, fun h => absurd rfl h⟩
end XY
