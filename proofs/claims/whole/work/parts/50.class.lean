/-! the class: what holds between calls -/
def sl_vr (n : Nat) (I : sk_I) : Prop := ∃ w, I 1 0 = nI w ∧ w ≤ n ∧ (∀ p, p < 209 → ∃ u, u ≤ w ∧ I 19 p = nI u) ∧ ∃ u, u ≤ w ∧ I 36 5 = nI u
def sl_cl (T : sl_ct) (lg : List (Nat × Nat)) (n : Nat) (I : sk_I) (J : sk_J) : Prop := sl_wf T ∧ sl_rc T I ∧ sl_ch T I J ∧ sl_pp T I ∧ sl_lg T lg I ∧ sl_vr n I
theorem sl_cl_frame {T : sl_ct} {lg : List (Nat × Nat)} {n : Nat} {I I' : sk_I} {J J' : sk_J} (h : sl_cl T lg n I J) (hI : ∀ q, q ≤ 10 ∨ q = 19 ∨ (36 ≤ q ∧ q ≤ 40) → I' q = I q) (h7 : J' 17 = J 17) (h8 : J' 18 = J 18) : sl_cl T lg n I' J' := by
  obtain ⟨hw, hr, hc, hp, hg, hv⟩ := h
  refine ⟨hw, sl_rc_frame hr (fun j _ _ => by rw [hI 1 (by omega)]) (fun q _ _ => hI q (by omega)), ?_, ?_, ?_, ?_⟩
  · unfold sl_ch sl_ok at hc ⊢
    rw [hI 19 (by omega), hI 1 (by omega), h7, h8]; exact hc
  · unfold sl_pp at hp ⊢
    rw [hI 36 (by omega), hI 37 (by omega), hI 1 (by omega)]; exact hp
  · unfold sl_lg at hg ⊢
    rw [hI 38 (by omega), hI 39 (by omega), hI 40 (by omega)]; exact hg
  · unfold sl_vr at hv ⊢
    rw [hI 19 (by omega), hI 36 (by omega), hI 1 (by omega)]; exact hv
theorem sl_cl_mono {T : sl_ct} {lg : List (Nat × Nat)} {n m : Nat} {I : sk_I} {J : sk_J} (h : sl_cl T lg n I J) (hn : n ≤ m) : sl_cl T lg m I J := by
  obtain ⟨hw, hr, hc, hp, hg, w, a, b, c⟩ := h
  exact ⟨hw, hr, hc, hp, hg, w, a, by omega, c⟩
/-- after a change: all that was worked out is old -/
theorem sl_cl_new {T T' : sl_ct} {lg : List (Nat × Nat)} {n : Nat} {I I' : sk_I} {J : sk_J} (h : sl_cl T lg n I J) (hn : n < 1000) (hw : sl_wf T') (hr : sl_rc T' I') (h0 : I' 1 0 = I 1 0 + 1) (hq : ∀ q, 10 < q → q ≤ 40 → q ≠ 38 → I' q = I q) (h38 : I' 38 3 = 0) : sl_cl T' [] (n + 1) I' J := by
  obtain ⟨-, -, -, -, -, w, a, b, c, u0, hu0, e0⟩ := h
  have ev : I' 1 0 = nI (w + 1) := by rw [h0, a]; exact (nI_succ w).symm
  have hw31 : w + 1 < 2 ^ 31 := sl_lt31 (m := 2000) (by omega) (by decide)
  refine ⟨hw, hr, fun p hp hv => ?_, fun hv => ?_, ⟨h38, Nat.zero_le _, fun x hx => by simp at hx, fun i x hx => by simp at hx⟩, w + 1, ev, by omega, fun p hp => ?_, u0, by omega, ?_⟩
  · have hF : cF T' ≤ 208 := sl_F_le hw
    obtain ⟨u, hu, e⟩ := c p (by omega)
    rw [hq 19 (by decide) (by decide) (by decide), e, ev, zI_inj (by omega) hw31] at hv
    omega
  · rw [hq 36 (by decide) (by decide) (by decide), e0, ev, zI_inj (by omega) hw31] at hv
    omega
  · obtain ⟨u, hu, e⟩ := c p hp
    exact ⟨u, by omega, by rw [hq 19 (by decide) (by decide) (by decide)]; exact e⟩
  · rw [hq 36 (by decide) (by decide) (by decide)]; exact e0
theorem sl_cl_prep {T : sl_ct} {lg : List (Nat × Nat)} {n : Nat} {I I' : sk_I} {J J' : sk_J} (h : sl_cl T lg n I J) (f : sl_fR I I' J J') (c' : sl_ch T I' J') : sl_cl T lg n I' J' := by
  obtain ⟨hw, hr, hc, hp, hg, w, a, b, c, d⟩ := h
  have g : ∀ q, q ≠ 19 → q ≠ 20 → I' q = I q := f.1
  refine ⟨hw, sl_fR_rc f hr, c', ?_, ?_, w, ?_, b, fun p hpp => ?_, ?_⟩
  · unfold sl_pp at hp ⊢
    rw [g 36 (by decide) (by decide), g 37 (by decide) (by decide), g 1 (by decide) (by decide)]; exact hp
  · unfold sl_lg at hg ⊢
    rw [g 38 (by decide) (by decide), g 39 (by decide) (by decide), g 40 (by decide) (by decide)]; exact hg
  · rw [g 1 (by decide) (by decide)]; exact a
  · rcases f.2.2 p with e | e
    · rw [e]; exact c p hpp
    · exact ⟨w, Nat.le_refl _, by rw [e]; exact a⟩
  · rw [g 36 (by decide) (by decide)]; exact d
theorem sl_cl_pack {T : sl_ct} {lg : List (Nat × Nat)} {n : Nat} {I I' : sk_I} {J J' : sk_J} (h : sl_cl T lg n I J) (f : ∀ q, q ≠ 36 → q ≠ 37 → I' q = I q) (g : ∀ q, q ≠ 36 → J' q = J q) (p' : sl_pp T I') (v' : I' 36 5 = I 1 0) : sl_cl T lg n I' J' := by
  obtain ⟨hw, hr, hc, hp, hg, w, a, b, c, d⟩ := h
  refine ⟨hw, sl_rc_frame hr (fun j _ _ => by rw [f 1 (by decide) (by decide)]) (fun q _ _ => f q (by omega) (by omega)), ?_, p', ?_, w, ?_, b, ?_, w, Nat.le_refl _, ?_⟩
  · unfold sl_ch sl_ok at hc ⊢
    rw [f 19 (by decide) (by decide), f 1 (by decide) (by decide), g 17 (by decide), g 18 (by decide)]; exact hc
  · unfold sl_lg at hg ⊢
    rw [f 38 (by decide) (by decide), f 39 (by decide) (by decide), f 40 (by decide) (by decide)]; exact hg
  · rw [f 1 (by decide) (by decide)]; exact a
  · rw [f 19 (by decide) (by decide)]; exact c
  · rw [v']; exact a
section XX
variable {Γ : sk_T} {I : sk_I} {J : sk_J} {T : sl_ct} {lg : List (Nat × Nat)} {n : Nat}
theorem x_rLine_ok {x : Int32} {K : sk_I → sk_J → Prop} (hr : sl_rc T I) (hx : ¬ sl_nl T x) (h : K I J) : sk_S Γ m_X_requireLine 0 0 [.ref 0, .int x] sk_gg I J (sk_Kv K) := by
  refine sk_spec (by decide) rfl (by exact Nat.le_of_ble_eq_true rfl) ?_
  refine s_X_requireLine_0 ?_
  refine t_C_hasLine ?_
  rw [hr.1.1, if_neg hx]
  exact s_X_requireLine_8 ⟨fun _ => ⟨rfl, rfl, h⟩, fun h => absurd h (by decide)⟩
theorem x_rLine_bad {x : Int32} {K : String → sk_I → sk_J → Prop} (hr : sl_rc T I) (hx : sl_nl T x) (h : K "java/lang/IndexOutOfBoundsException" I J) : sk_S Γ m_X_requireLine 1 6 [.ref 0, .int x] sk_gg I J (sk_Kx K) := by
  refine sk_spec (by decide) rfl (by exact Nat.le_of_ble_eq_true rfl) ?_
  refine s_X_requireLine_0 ?_
  refine t_C_hasLine ?_
  rw [hr.1.1, if_pos hx]
  exact s_X_requireLine_8 ⟨fun h => absurd rfl h, fun _ => ⟨⟨by decide, by decide⟩, _, rfl, rfl, h⟩⟩
theorem x_rLN_ok {x : Int32} {K : sk_I → sk_J → Prop} (hr : sl_rc T I) (hx : ¬ (¬ x = -1 ∧ sl_nl T x)) (h : K I J) : sk_S Γ m_X_requireLineOrNone 0 0 [.ref 0, .int x] sk_gg I J (sk_Kv K) := by
  refine sk_spec (by decide) rfl (by exact Nat.le_of_ble_eq_true rfl) ?_
  refine s_X_requireLineOrNone_0 ⟨fun _ => s_X_requireLineOrNone_10 ⟨rfl, rfl, h⟩, fun hn => Or.inl (x_rLine_ok hr (fun hh => hx ⟨hn, hh⟩) (s_X_requireLineOrNone_10 ⟨rfl, rfl, h⟩))⟩
theorem x_rLN_bad {x : Int32} {K : String → sk_I → sk_J → Prop} (hr : sl_rc T I) (hx : ¬ x = -1 ∧ sl_nl T x) (h : K "java/lang/IndexOutOfBoundsException" I J) : sk_S Γ m_X_requireLineOrNone 1 6 [.ref 0, .int x] sk_gg I J (sk_Kx K) := by
  refine sk_spec (by decide) rfl (by exact Nat.le_of_ble_eq_true rfl) ?_
  exact s_X_requireLineOrNone_0 ⟨fun hn => absurd hn hx.1, fun _ => Or.inr ⟨⟨by decide, by decide⟩, x_rLine_bad hr hx.2 ⟨_, rfl, rfl, h⟩⟩⟩
theorem x_rVec_ok {x : Int32} {K : sk_I → sk_J → Prop} (hw : sl_wf T) (hr : sl_rc T I) (hx : ¬ sl_nv T x) (h : K I J) : sk_S Γ m_X_requireVector 0 0 [.ref 0, .int x] sk_gg I J (sk_Kv K) := by
  refine sk_spec (by decide) rfl (by exact Nat.le_of_ble_eq_true rfl) ?_
  refine s_X_requireVector_0 ⟨fun hn => absurd (Or.inl hn) hx, fun _ => t_C_vectors' hw hr (s_X_requireVector_12 ⟨fun _ => ⟨rfl, rfl, h⟩, fun hn => absurd (Or.inr (Int32.not_lt.mp hn)) hx⟩)⟩
theorem x_rVec_bad {x : Int32} {K : String → sk_I → sk_J → Prop} (hw : sl_wf T) (hr : sl_rc T I) (hx : sl_nv T x) (h : K "java/lang/IndexOutOfBoundsException" I J) : sk_S Γ m_X_requireVector 1 6 [.ref 0, .int x] sk_gg I J (sk_Kx K) := by
  refine sk_spec (by decide) rfl (by exact Nat.le_of_ble_eq_true rfl) ?_
  refine s_X_requireVector_0 ⟨fun _ => ⟨⟨by decide, by decide⟩, _, rfl, rfl, h⟩, fun h0 => t_C_vectors' hw hr (s_X_requireVector_12 ⟨fun hn => ?_, fun _ => ⟨⟨by decide, by decide⟩, _, rfl, rfl, h⟩⟩)⟩
  rcases hx with hx | hx
  · exact absurd hx h0
  · exact absurd hn (Int32.not_lt.mpr hx)
theorem x_rFault_ok {x : Int32} {K : sk_I → sk_J → Prop} (hr : sl_rc T I) (hx : ¬ sl_nf T x) (h : K I J) : sk_S Γ m_X_requireFault 0 0 [.ref 0, .int x] sk_gg I J (sk_Kv K) := by
  refine sk_spec (by decide) rfl (by exact Nat.le_of_ble_eq_true rfl) ?_
  refine s_X_requireFault_0 ⟨fun hn => absurd (Or.inl hn) hx, fun _ => t_C_faults' hr (s_X_requireFault_12 ⟨fun _ => ⟨rfl, rfl, h⟩, fun hn => absurd (Or.inr (Int32.not_lt.mp hn)) hx⟩)⟩
theorem x_rFault_bad {x : Int32} {K : String → sk_I → sk_J → Prop} (hr : sl_rc T I) (hx : sl_nf T x) (h : K "java/lang/IndexOutOfBoundsException" I J) : sk_S Γ m_X_requireFault 1 6 [.ref 0, .int x] sk_gg I J (sk_Kx K) := by
  refine sk_spec (by decide) rfl (by exact Nat.le_of_ble_eq_true rfl) ?_
  refine s_X_requireFault_0 ⟨fun _ => ⟨⟨by decide, by decide⟩, _, rfl, rfl, h⟩, fun h0 => t_C_faults' hr (s_X_requireFault_12 ⟨fun hn => ?_, fun _ => ⟨⟨by decide, by decide⟩, _, rfl, rfl, h⟩⟩)⟩
  rcases hx with hx | hx
  · exact absurd hx h0
  · exact absurd hn (Int32.not_lt.mpr hx)
theorem x_rFN_ok {x : Int32} {K : sk_I → sk_J → Prop} (hr : sl_rc T I) (hx : ¬ (¬ x = -1 ∧ sl_nf T x)) (h : K I J) : sk_S Γ m_X_requireFaultOrNone 0 0 [.ref 0, .int x] sk_gg I J (sk_Kv K) := by
  refine sk_spec (by decide) rfl (by exact Nat.le_of_ble_eq_true rfl) ?_
  exact s_X_requireFaultOrNone_0 ⟨fun _ => s_X_requireFaultOrNone_10 ⟨rfl, rfl, h⟩, fun hn => Or.inl (x_rFault_ok hr (fun hh => hx ⟨hn, hh⟩) (s_X_requireFaultOrNone_10 ⟨rfl, rfl, h⟩))⟩
theorem x_rFN_bad {x : Int32} {K : String → sk_I → sk_J → Prop} (hr : sl_rc T I) (hx : ¬ x = -1 ∧ sl_nf T x) (h : K "java/lang/IndexOutOfBoundsException" I J) : sk_S Γ m_X_requireFaultOrNone 1 6 [.ref 0, .int x] sk_gg I J (sk_Kx K) := by
  refine sk_spec (by decide) rfl (by exact Nat.le_of_ble_eq_true rfl) ?_
  exact s_X_requireFaultOrNone_0 ⟨fun hn => absurd hn hx.1, fun _ => Or.inr ⟨⟨by decide, by decide⟩, x_rFault_bad hr hx.2 ⟨_, rfl, rfl, h⟩⟩⟩
/-! building -/
theorem x_clear {K : sk_I → sk_J → Prop} (hc : sl_cl T lg n I J) (hn : n < 1000) (h : ∀ I' : sk_I, sl_cl sl_t0 [] (n + 1) I' J → (∀ q, 40 < q → I' q = I q) → K I' J) : sk_S Γ m_X_clear 0 0 [.ref 0] sk_gg I J (sk_Kv K) := by
  refine sk_spec (by decide) rfl (by exact Nat.le_of_ble_eq_true rfl) ?_
  refine s_X_clear_0 ?_
  refine t_C_removeAll hc.2.1 (fun I1 r1 w1 f1 => ?_)
  refine s_X_clear_7 ?_
  refine t_G_removeAll (fun I2 f2 z2 => ?_)
  refine s_X_clear_14 ⟨rfl, rfl, h I2 (sl_cl_new hc hn sl_wf_0 (sl_rc_frame r1 (fun j _ _ => by rw [f2 1 (by decide)]) (fun q _ _ => f2 q (by omega))) (by rw [f2 1 (by decide)]; exact w1) (fun q a b c => by rw [f2 q c, f1 q (by omega)]) z2) (fun q hq => by rw [f2 q (by omega), f1 q (by omega)])⟩
theorem x_source_ok {x : Int32} {b : Bool} {K : Int32 → sk_I → sk_J → Prop} (hc : sl_cl T lg n I J) (hn : n < 1000) (hb : x = if b = true then 1 else 0) (hA : ¬ (cS T = 6 ∨ cN T = 26))
    (h : ∀ I' : sk_I, sl_cl (sl_add T (.inl b)) [] (n + 1) I' J → (∀ q, 40 < q → I' q = I q) → K (nI (cN T)) I' J) : sk_S Γ m_X_source 0 0 [.ref 0, .int x] sk_gg I J (sk_Ki K) := by
  refine sk_spec (by decide) rfl (by exact Nat.le_of_ble_eq_true rfl) ?_
  have hw := hc.1
  have hr := hc.2.1
  have hN := hw.1
  have hS := hw.2.1
  have hN31 := sl_N31 hw
  have hS31 : cS T < 2 ^ 31 := sl_lt31 (m := 6) hS (by decide)
  refine s_X_source_0 ?_
  rw [hr.1.2.1, hr.1.1, show (6 : Int32) = nI 6 by decide +kernel, show (26 : Int32) = nI 26 by decide +kernel, zI_le (by decide) hS31, zI_lt hN31 (by decide)]
  refine ⟨fun h6 => absurd h6 (by omega), fun _ => ⟨fun _ => t_G_removeAll (fun I1 f1 z1 => ?_), fun h26 => absurd h26 (by omega)⟩⟩
  have r1 : sl_rc T I1 := sl_rc_frame hr (fun j _ _ => by rw [f1 1 (by decide)]) (fun q _ _ => f1 q (by omega))
  refine s_X_source_41 ?_
  refine t_C_addSource hw r1 (by omega) hb (fun I2 r2 w2 f2 => ?_)
  refine s_X_source_49 ⟨_, rfl, rfl, h I2 (sl_cl_new hc hn (sl_wf_add hw (by omega) (by show cS T + 1 ≤ 6; omega) (fun k ps hk => by cases hk)) r2 (by rw [w2, f1 1 (by decide)]) (fun q a _ c => by rw [f2 q a, f1 q c]) (by rw [f2 38 (by decide)]; exact z1)) (fun q hq => by rw [f2 q (by omega), f1 q (by omega)])⟩
theorem x_source_bad {x : Int32} {K : String → sk_I → sk_J → Prop} (hc : sl_cl T lg n I J) (hA : cS T = 6 ∨ cN T = 26) (h : K "java/lang/IllegalStateException" I J) : sk_S Γ m_X_source 1 6 [.ref 0, .int x] sk_gg I J (sk_Kx K) := by
  refine sk_spec (by decide) rfl (by exact Nat.le_of_ble_eq_true rfl) ?_
  have hw := hc.1
  have hr := hc.2.1
  have hS := hw.2.1
  have hN31 := sl_N31 hw
  have hS31 : cS T < 2 ^ 31 := sl_lt31 (m := 6) hS (by decide)
  refine s_X_source_0 ?_
  rw [hr.1.2.1, hr.1.1, show (6 : Int32) = nI 6 by decide +kernel, show (26 : Int32) = nI 26 by decide +kernel, zI_le (by decide) hS31, zI_lt hN31 (by decide)]
  exact ⟨fun _ => ⟨⟨by decide, by decide⟩, _, rfl, rfl, h⟩, fun h6 => ⟨fun h26 => absurd h26 (by omega), fun _ => ⟨⟨by decide, by decide⟩, _, rfl, rfl, h⟩⟩⟩
theorem sl_gA_k {k a b c : Int32} (h : ¬ sl_gA k a b c) : ¬ k < 0 ∧ k < 6 ∧ ¬ a = -1 ∧ (¬ b = -1 ∨ c = -1) := by
  refine ⟨fun h1 => h (Or.inl h1), ?_, fun h1 => h (Or.inr (Or.inr (Or.inl h1))), ?_⟩
  · have h5 : ¬ 5 < k := fun h1 => h (Or.inr (Or.inl h1))
    rw [Int32.lt_iff_toInt_lt] at h5 ⊢
    have e5 : (5 : Int32).toInt = 5 := by decide +kernel
    have e6 : (6 : Int32).toInt = 6 := by decide +kernel
    omega
  · by_cases hb : b = -1
    · exact Or.inr (Classical.byContradiction fun hcc => h (Or.inr (Or.inr (Or.inr ⟨hb, hcc⟩))))
    · exact Or.inl hb
theorem x_gate_b1 {k a b c : Int32} {K : String → sk_I → sk_J → Prop} (hA : sl_gA k a b c) (h : K "java/lang/IllegalArgumentException" I J) : sk_S Γ m_X_gate 1 6 [.ref 0, .int k, .int a, .int b, .int c] sk_gg I J (sk_Kx K) := by
  refine sk_spec (by decide) rfl (by exact Nat.le_of_ble_eq_true rfl) ?_
  have bad : (1 ≤ 1 ∧ 6 ≤ 6) ∧ (sk_Kx K) (.inr "java/lang/IllegalArgumentException") sk_gg I J := ⟨⟨by decide, by decide⟩, _, rfl, rfl, h⟩
  refine s_X_gate_0 ⟨fun _ => bad, fun k0 => ⟨fun k6 => ⟨fun _ => bad, fun a1 => ⟨fun b1 => ?_, fun b1 => ⟨fun c1 => ?_, fun _ => bad⟩⟩⟩, fun _ => bad⟩⟩
  · exfalso
    rcases hA with h | h | h | h
    · exact k0 h
    · rw [Int32.lt_iff_toInt_lt] at h k6
      have e5 : (5 : Int32).toInt = 5 := by decide +kernel
      have e6 : (6 : Int32).toInt = 6 := by decide +kernel
      omega
    · exact a1 h
    · exact b1 h.1
  · exfalso
    rcases hA with h | h | h | h
    · exact k0 h
    · rw [Int32.lt_iff_toInt_lt] at h k6
      have e5 : (5 : Int32).toInt = 5 := by decide +kernel
      have e6 : (6 : Int32).toInt = 6 := by decide +kernel
      omega
    · exact a1 h
    · exact h.2 c1
/-- a gate's road to where its lines are looked at -/
theorem x_gate_to {k a b c : Int32} {mc ms : Nat} {Q : sk_Q} (hA : ¬ sl_gA k a b c)
    (h : (sk_S Γ m_X_requireLine 0 0 [.ref 0, .int a] sk_gg I J (sk_Kv fun I' J' => sk_W Γ m_X_gate mc ms 51 [(0, .ref 0), (1, .int k), (2, .int a), (3, .int b), (4, .int c)] [] sk_gg I' J' 0 0 Q)) ∨ ((1 ≤ mc ∧ 6 ≤ ms) ∧ sk_S Γ m_X_requireLine 1 6 [.ref 0, .int a] sk_gg I J (sk_Kx fun E I' J' => Q (.inr E) sk_gg I' J'))) :
    sk_W Γ m_X_gate mc ms 0 [(0, .ref 0), (1, .int k), (2, .int a), (3, .int b), (4, .int c)] [] sk_gg I J 0 0 Q := by
  obtain ⟨k0, k6, a1, bc⟩ := sl_gA_k hA
  refine s_X_gate_0 ⟨fun hn => absurd hn k0, fun _ => ⟨fun _ => ⟨fun hn => absurd hn a1, fun _ => ⟨fun _ => h, fun b1 => ⟨fun _ => h, fun c1 => ?_⟩⟩⟩, fun hn => absurd k6 hn⟩⟩
  rcases bc with hb | hcc
  · exact absurd b1 hb
  · exact absurd hcc c1
theorem x_gate_b2 {k a b c : Int32} {K : String → sk_I → sk_J → Prop} (hc : sl_cl T lg n I J) (hA : ¬ sl_gA k a b c) (hB : sl_gB T a b c) (h : K "java/lang/IndexOutOfBoundsException" I J) : sk_S Γ m_X_gate 1 6 [.ref 0, .int k, .int a, .int b, .int c] sk_gg I J (sk_Kx K) := by
  refine sk_spec (by decide) rfl (by exact Nat.le_of_ble_eq_true rfl) ?_
  have hr := hc.2.1
  refine x_gate_to hA ?_
  by_cases ha : sl_nl T a
  · exact Or.inr ⟨⟨by decide, by decide⟩, x_rLine_bad hr ha ⟨_, rfl, rfl, h⟩⟩
  · refine Or.inl (x_rLine_ok hr ha (s_X_gate_51 ?_))
    by_cases hb : ¬ b = -1 ∧ sl_nl T b
    · exact Or.inr ⟨⟨by decide, by decide⟩, x_rLN_bad hr hb ⟨_, rfl, rfl, h⟩⟩
    · refine Or.inl (x_rLN_ok hr hb (s_X_gate_56 (Or.inr ⟨⟨by decide, by decide⟩, x_rLN_bad hr ?_ ⟨_, rfl, rfl, h⟩⟩)))
      rcases hB with h | h | h
      · exact absurd h ha
      · exact absurd h hb
      · exact h
theorem x_gate_b3 {k a b c : Int32} {K : String → sk_I → sk_J → Prop} (hc : sl_cl T lg n I J) (hA : ¬ sl_gA k a b c) (hB : ¬ sl_gB T a b c) (hC : cN T = 26) (h : K "java/lang/IllegalStateException" I J) : sk_S Γ m_X_gate 1 6 [.ref 0, .int k, .int a, .int b, .int c] sk_gg I J (sk_Kx K) := by
  refine sk_spec (by decide) rfl (by exact Nat.le_of_ble_eq_true rfl) ?_
  have hr := hc.2.1
  refine x_gate_to hA (Or.inl (x_rLine_ok hr (fun hh => hB (Or.inl hh)) (s_X_gate_51 (Or.inl (x_rLN_ok hr (fun hh => hB (Or.inr (Or.inl hh))) (s_X_gate_56 (Or.inl (x_rLN_ok hr (fun hh => hB (Or.inr (Or.inr hh))) (s_X_gate_62 ?_)))))))))
  rw [hr.1.1, show (26 : Int32) = nI 26 by decide +kernel, zI_lt (sl_N31 hc.1) (by decide)]
  exact ⟨fun hn => absurd hn (by omega), fun _ => ⟨⟨by decide, by decide⟩, _, rfl, rfl, h⟩⟩
theorem x_gate_ok {kn an : Nat} {bo co : Option Nat} {K : Int32 → sk_I → sk_J → Prop} (hc : sl_cl T lg n I J) (hn : n < 1000) (hA : ¬ sl_gA (nI kn) (nI an) (sl_oi bo) (sl_oi co)) (hB : ¬ sl_gB T (nI an) (sl_oi bo) (sl_oi co)) (hk : kn < 6) (ha : an < cN T) (hb : ∀ y, bo = some y → y < cN T) (hcc : ∀ y, co = some y → y < cN T) (hN : cN T < 26)
    (h : ∀ I' : sk_I, sl_cl (sl_add T (.inr (kn, an :: (bo.toList ++ co.toList)))) [] (n + 1) I' J → (∀ q, 40 < q → I' q = I q) → K (nI (cN T)) I' J) : sk_S Γ m_X_gate 0 0 [.ref 0, .int (nI kn), .int (nI an), .int (sl_oi bo), .int (sl_oi co)] sk_gg I J (sk_Ki K) := by
  refine sk_spec (by decide) rfl (by exact Nat.le_of_ble_eq_true rfl) ?_
  have hw := hc.1
  have hr := hc.2.1
  refine x_gate_to hA (Or.inl (x_rLine_ok hr (fun hh => hB (Or.inl hh)) (s_X_gate_51 (Or.inl (x_rLN_ok hr (fun hh => hB (Or.inr (Or.inl hh))) (s_X_gate_56 (Or.inl (x_rLN_ok hr (fun hh => hB (Or.inr (Or.inr hh))) (s_X_gate_62 ?_)))))))))
  rw [hr.1.1, show (26 : Int32) = nI 26 by decide +kernel, zI_lt (sl_N31 hw) (by decide)]
  refine ⟨fun _ => t_G_removeAll (fun I1 f1 z1 => ?_), fun hh => absurd hN hh⟩
  have r1 : sl_rc T I1 := sl_rc_frame hr (fun j _ _ => by rw [f1 1 (by decide)]) (fun q _ _ => f1 q (by omega))
  have hps : ∀ y ∈ an :: (bo.toList ++ co.toList), y < cN T := by
    intro y hy
    rcases List.mem_cons.mp hy with rfl | hy
    · exact ha
    · rcases List.mem_append.mp hy with hy | hy
      · exact hb y (by cases bo with | none => cases hy | some z => simp at hy; rw [hy])
      · exact hcc y (by cases co with | none => cases hy | some z => simp at hy; rw [hy])
  have hlen : (an :: (bo.toList ++ co.toList)).length ≤ 3 := by cases bo <;> cases co <;> simp
  refine s_X_gate_91 ?_
  refine t_C_addGate hw r1 hN ha hb hcc (fun I2 r2 w2 f2 => ?_)
  refine s_X_gate_103 ⟨_, rfl, rfl, h I2 (sl_cl_new hc hn (sl_wf_add hw hN (by show cS T + 0 ≤ 6; exact hw.2.1) (fun k ps hk' => by cases hk'; exact ⟨hk, by simp, hlen, hps⟩)) r2 (by rw [w2, f1 1 (by decide)]) (fun q a _ c => by rw [f2 q a, f1 q c]) (by rw [f2 38 (by decide)]; exact z1)) (fun q hq => by rw [f2 q (by omega), f1 q (by omega)])⟩
theorem x_output_b1 {x : Int32} {K : String → sk_I → sk_J → Prop} (hc : sl_cl T lg n I J) (hx : sl_nl T x) (h : K "java/lang/IndexOutOfBoundsException" I J) : sk_S Γ m_X_output 1 6 [.ref 0, .int x] sk_gg I J (sk_Kx K) := by
  refine sk_spec (by decide) rfl (by exact Nat.le_of_ble_eq_true rfl) ?_
  exact s_X_output_0 (Or.inr ⟨⟨by decide, by decide⟩, x_rLine_bad hc.2.1 hx ⟨_, rfl, rfl, h⟩⟩)
theorem x_output_b2 {x : Int32} {K : String → sk_I → sk_J → Prop} (hc : sl_cl T lg n I J) (hx : ¬ sl_nl T x) (hA : sl_oA T x) (h : K "java/lang/IllegalStateException" I J) : sk_S Γ m_X_output 1 6 [.ref 0, .int x] sk_gg I J (sk_Kx K) := by
  refine sk_spec (by decide) rfl (by exact Nat.le_of_ble_eq_true rfl) ?_
  have hw := hc.1
  have hr := hc.2.1
  refine s_X_output_0 (Or.inl (x_rLine_ok hr hx (s_X_output_5 (t_C_isOutput hw hr (s_X_output_13 ?_)))))
  rw [hr.1.2.2.1, show (6 : Int32) = nI 6 by decide +kernel, zI_lt (sl_O31 hw) (by decide)]
  by_cases ho : ∃ y ∈ cO T, x = nI y
  · rw [if_pos ho]
    exact ⟨fun _ => ⟨⟨by decide, by decide⟩, _, rfl, rfl, h⟩, fun hn => absurd hn (by decide)⟩
  · rw [if_neg ho]
    refine ⟨fun hn => absurd rfl hn, fun _ => ⟨fun h6 => ?_, fun _ => ⟨⟨by decide, by decide⟩, _, rfl, rfl, h⟩⟩⟩
    rcases hA with hA | hA
    · exact absurd hA ho
    · exact absurd h6 (by omega)
theorem x_output_ok {m : Nat} {K : Int32 → sk_I → sk_J → Prop} (hc : sl_cl T lg n I J) (hn : n < 1000) (hx : m < cN T) (hA : ¬ sl_oA T (nI m))
    (h : ∀ I' : sk_I, sl_cl (cN T, cD T, cO T ++ [m], cA T) [] (n + 1) I' J → (∀ q, 40 < q → I' q = I q) → K (nI ((cO T).length + 1)) I' J) : sk_S Γ m_X_output 0 0 [.ref 0, .int (nI m)] sk_gg I J (sk_Ki K) := by
  refine sk_spec (by decide) rfl (by exact Nat.le_of_ble_eq_true rfl) ?_
  have hw := hc.1
  have hr := hc.2.1
  have hO := hw.2.2.1
  have hO6 : (cO T).length < 6 := by
    have : ¬ (cO T).length = 6 := fun hh => hA (Or.inr hh)
    omega
  refine s_X_output_0 (Or.inl (x_rLine_ok hr (sl_nl_nI hw hx) (s_X_output_5 (t_C_isOutput hw hr (s_X_output_13 ?_)))))
  rw [hr.1.2.2.1, show (6 : Int32) = nI 6 by decide +kernel, zI_lt (sl_O31 hw) (by decide), if_neg (fun hh => hA (Or.inl hh))]
  refine ⟨fun hh => absurd rfl hh, fun _ => ⟨fun _ => t_G_removeAll (fun I1 f1 z1 => ?_), fun hh => absurd hO6 hh⟩⟩
  have r1 : sl_rc T I1 := sl_rc_frame hr (fun j _ _ => by rw [f1 1 (by decide)]) (fun q _ _ => f1 q (by omega))
  refine s_X_output_45 ?_
  refine t_C_addOutput hw r1 hx hO6 (fun I2 r2 w2 f2 => ?_)
  refine s_X_output_53 ⟨_, rfl, rfl, h I2 (sl_cl_new hc hn (sl_wf_out hw hx hO6) r2 (by rw [w2, f1 1 (by decide)]) (fun q a _ c => by rw [f2 q a, f1 q c]) (by rw [f2 38 (by decide)]; exact z1)) (fun q hq => by rw [f2 q (by omega), f1 q (by omega)])⟩
theorem x_data_b1 {x y : Int32} {K : String → sk_I → sk_J → Prop} (hc : sl_cl T lg n I J) (hx : sl_nl T x ∨ sl_nl T y) (h : K "java/lang/IndexOutOfBoundsException" I J) : sk_S Γ m_X_data 1 6 [.ref 0, .int x, .int y] sk_gg I J (sk_Kx K) := by
  refine sk_spec (by decide) rfl (by exact Nat.le_of_ble_eq_true rfl) ?_
  have hr := hc.2.1
  by_cases h1 : sl_nl T x
  · exact s_X_data_0 (Or.inr ⟨⟨by decide, by decide⟩, x_rLine_bad hr h1 ⟨_, rfl, rfl, h⟩⟩)
  · refine s_X_data_0 (Or.inl (x_rLine_ok hr h1 (s_X_data_5 (Or.inr ⟨⟨by decide, by decide⟩, x_rLine_bad hr ?_ ⟨_, rfl, rfl, h⟩⟩))))
    rcases hx with hx | hx
    · exact absurd hx h1
    · exact hx
theorem sl_rc_fl {fl : Nat} (hr : sl_rc T I) (hl : fl < cN T) : I 4 fl = 0 ↔ ¬ cD T fl = .inl true := by
  cases hd : cD T fl with
  | inl b =>
    rw [(hr.2.1 fl hl b hd).2.2]
    cases b with
    | true => exact ⟨fun h => absurd h (by decide), fun h => absurd rfl h⟩
    | false => exact ⟨fun _ h => (by cases h), fun _ => rfl⟩
  | inr kp =>
    obtain ⟨k, ps⟩ := kp
    rw [(hr.2.2.1 fl hl k ps hd).2.1]
    exact ⟨fun _ h => (by cases h), fun _ => rfl⟩
theorem x_data_b2 {fl m : Nat} {K : String → sk_I → sk_J → Prop} (hc : sl_cl T lg n I J) (hf : fl < cN T) (hm : m < cN T) (hd : ¬ cD T fl = .inl true) (h : K "java/lang/IllegalArgumentException" I J) : sk_S Γ m_X_data 1 6 [.ref 0, .int (nI fl), .int (nI m)] sk_gg I J (sk_Kx K) := by
  refine sk_spec (by decide) rfl (by exact Nat.le_of_ble_eq_true rfl) ?_
  have hw := hc.1
  have hr := hc.2.1
  have hN := hw.1
  refine s_X_data_0 (Or.inl (x_rLine_ok hr (sl_nl_nI hw hf) (s_X_data_5 (Or.inl (x_rLine_ok hr (sl_nl_nI hw hm) (s_X_data_10 ?_))))))
  rw [zI_cl (sl_lt31 (m := 26) (by omega) (by decide)), sl_rc_fl hr hf]
  exact ⟨vp_nat (by omega) (by decide), fun hh => absurd hd hh, fun _ => ⟨⟨by decide, by decide⟩, _, rfl, rfl, h⟩⟩
theorem x_data_ok {fl m : Nat} {K : sk_I → sk_J → Prop} (hc : sl_cl T lg n I J) (hn : n < 1000) (hf : fl < cN T) (hm : m < cN T) (hd : cD T fl = .inl true)
    (h : ∀ I' : sk_I, sl_cl (sl_dat T fl m) [] (n + 1) I' J → (∀ q, 40 < q → I' q = I q) → K I' J) : sk_S Γ m_X_data 0 0 [.ref 0, .int (nI fl), .int (nI m)] sk_gg I J (sk_Kv K) := by
  refine sk_spec (by decide) rfl (by exact Nat.le_of_ble_eq_true rfl) ?_
  have hw := hc.1
  have hr := hc.2.1
  have hN := hw.1
  refine s_X_data_0 (Or.inl (x_rLine_ok hr (sl_nl_nI hw hf) (s_X_data_5 (Or.inl (x_rLine_ok hr (sl_nl_nI hw hm) (s_X_data_10 ?_))))))
  rw [zI_cl (sl_lt31 (m := 26) (by omega) (by decide)), sl_rc_fl hr hf]
  refine ⟨vp_nat (by omega) (by decide), fun _ => t_G_removeAll (fun I1 f1 z1 => ?_), fun hh => absurd hd hh⟩
  have r1 : sl_rc T I1 := sl_rc_frame hr (fun j _ _ => by rw [f1 1 (by decide)]) (fun q _ _ => f1 q (by omega))
  refine s_X_data_39 ?_
  refine t_C_connectData hw r1 hm hf hd (fun I2 r2 w2 f2 => ?_)
  refine s_X_data_48 ⟨rfl, rfl, h I2 (sl_cl_new hc hn (sl_wf_dat hw hm hf hd) r2 (by rw [w2, f1 1 (by decide)]) (fun q a _ c => by rw [f2 q a, f1 q c]) (by rw [f2 38 (by decide)]; exact z1)) (fun q hq => by rw [f2 q (by omega), f1 q (by omega)])⟩
end XX
