/-! the law: the loop over the script -/
theorem sl_lenlt {L i : Nat} (hL : L ≤ 2560) (hi : i ≤ 4000) : (Int32.ofNat L - 5 < nI i) ↔ L < i + 5 := by
  have hi31 : i < 2 ^ 31 := sl_lt31 (m := 4000) hi (by decide)
  show (nI L - 5 < nI i) ↔ _
  by_cases h5 : L < 5
  · have key : ∀ k, k < 5 → nI k - 5 < 0 := by decide +kernel
    have h := key L h5
    rw [Int32.lt_iff_toInt_lt] at h
    have e0 : (0 : Int32).toInt = 0 := by decide +kernel
    rw [Int32.lt_iff_toInt_lt, nI_toInt hi31]
    omega
  · rw [show (5 : Int32) = nI 5 by decide +kernel, zI_sub (by omega), zI_lt (sl_lt31 (m := 4000) (by omega) (by decide)) hi31]
    omega
theorem sl_start_cl : sl_cl sl_t0 [] 1 sk_I1 sk_j0 := by
  have h1 : ∀ j, j ≠ 0 → sk_I1 1 j = 0 := by
    intro j hj
    by_cases h1 : j = 1
    · subst h1; rfl
    · by_cases h2 : j = 2
      · subst h2; rfl
      · by_cases h3 : j = 3
        · subst h3; rfl
        · by_cases h4 : j = 4
          · subst h4; rfl
          · by_cases h5 : j = 5
            · subst h5; rfl
            · simp [sk_i60, sk_i54, sk_i53, sk_i48, sk_i41, sk_i32, sk_i21, sk_i6, sk_i5, sk_i4, sk_i3, sk_i2, sk_i1, sk_i0, sk_pi, sk_set, upd, hj, h1, h2, h3, h4, h5]
  have hv : sk_I1 1 0 = nI 1 := by decide +kernel
  have h19 : ∀ p, sk_I1 19 p = nI 0 := fun p => rfl
  have h36 : sk_I1 36 5 = nI 0 := by decide +kernel
  have hF0 : cF sl_t0 = 0 := by decide
  refine ⟨sl_wf_0, ⟨⟨h1 1 (by decide), h1 2 (by decide), h1 3 (by decide), h1 4 (by decide), h1 5 (by decide)⟩, ?_, ?_, ?_, ?_, ?_, ?_⟩, ?_, ?_, ?_, ?_⟩
  · intro l hl; exact absurd hl (Nat.not_lt_zero _)
  · intro l hl; exact absurd hl (Nat.not_lt_zero _)
  · intro l hl
    have hl : l = 0 := Nat.le_zero.mp hl
    subst hl
    rfl
  · intro l hl; exact absurd hl (Nat.not_lt_zero _)
  · intro i x hx
    have hx : ([] : List Nat)[i]? = some x := hx
    simp at hx
  · intro i x hx
    have hx : ([] : List Nat)[i]? = some x := hx
    simp at hx
  · intro p hp he
    rw [h19, hv] at he
    exact absurd he (by decide +kernel)
  · intro he
    rw [h36, hv] at he
    exact absurd he (by decide +kernel)
  · refine ⟨by decide +kernel, Nat.zero_le _, fun x hx => by simp at hx, fun i x hx => by simp at hx⟩
  · exact ⟨1, hv, Nat.le_refl _, fun p _ => ⟨0, by decide, h19 p⟩, 0, by decide, h36⟩
theorem sl_start_ms : sl_ms sl_t0 [] sk_I1 := by
  have h41 : ∀ j, sk_I1 41 j = 0 := fun j => rfl
  refine sl_ms_new ⟨⟨h41 1, h41 6, h41 10⟩, ?_, ?_, sl_pre_nil _⟩ ⟨h41 12, sl_pre_nil _, h41 14, ?_, ?_⟩ (h41 19) (h41 22) (h41 26)
  · intro l hl; exact absurd hl (Nat.not_lt_zero _)
  · intro l hl; exact absurd hl (Nat.not_lt_zero _)
  · intro l hl; exact absurd hl (Nat.not_lt_zero _)
  · intro l hl; exact absurd hl (Nat.not_lt_zero _)
theorem sk_law_walk {Γ : sk_T} (hL : sk_len Γ ≤ 2560) : sk_W Γ m_law 1101 25936 0 [(0, .ref sk_scr)] [] sk_g0 sk_i0 sk_j0 0 0 (fun r _ _ _ => r = .inl (some (.int 1))) := by
  refine sk_law_head (s_law_20 ?_)
  have loop : ∀ d m (T : sl_ct) (lg : List (Nat × Nat)) (I : sk_I) (J : sk_J) (kc kn : Nat), m + d = 513 → sl_cl T lg (m + 1) I J → sl_ms T lg I → kc ≤ 62 + m → kn ≤ 17654 + 6 * m →
      sk_W Γ m_law 1101 25936 23 [(0, .ref sk_scr), (1, .ref 0), (2, .ref 41), (3, .ref 61), (4, .int (nI (5 * m)))] [] sk_gg I J kc kn (fun r _ _ _ => r = .inl (some (.int 1))) := by
    intro d
    induction d with
    | zero =>
      intro m T lg I J kc kn hm hc hs hk hn
      refine s_law_23 (c9 := 0) (s9 := 0) ⟨fun _ => ⟨⟨by omega, by omega⟩, rfl⟩, fun hlt => absurd ?_ hlt⟩
      rw [sl_lenlt hL (by omega)]; omega
    | succ d ih =>
      intro m T lg I J kc kn hm hc hs hk hn
      by_cases hlt : (Int32.ofNat (sk_len Γ) - 5) < nI (5 * m)
      · exact s_law_23 (c9 := 0) (s9 := 0) ⟨fun _ => ⟨⟨by omega, by omega⟩, rfl⟩, fun hn => absurd hlt hn⟩
      · have hlen : ¬ sk_len Γ < 5 * m + 5 := fun h => hlt ((sl_lenlt hL (by omega)).mpr h)
        have hm9 : m < 512 := by omega
        have hL31 : sk_len Γ < 2 ^ 31 := sl_lt31 (m := 2560) hL (by decide)
        have hvp : vp_in (nI (5 * m)) (sk_len Γ) := vp_nat (by omega) hL31
        have v1 : vp_in (nI (5 * m) + 1) (sk_len Γ) := by rw [zI_1, zI_add]; exact vp_nat (by omega) hL31
        have v2 : vp_in (nI (5 * m) + 2) (sk_len Γ) := by rw [zI_2, zI_add]; exact vp_nat (by omega) hL31
        have v3 : vp_in (nI (5 * m) + 3) (sk_len Γ) := by rw [show (3 : Int32) = nI 3 by decide +kernel, zI_add]; exact vp_nat (by omega) hL31
        have v4 : vp_in (nI (5 * m) + 4) (sk_len Γ) := by rw [show (4 : Int32) = nI 4 by decide +kernel, zI_add]; exact vp_nat (by omega) hL31
        have hnx : sl_nx Γ (m + 1) (nI (5 * m)) (fun r _ _ _ => r = .inl (some (.int 1))) := by
          intro T' lg' I' J' kc' kn' hc' hs' hk' hn'
          rw [show nI (5 * m) + 5 = nI (5 * (m + 1)) by rw [show (5 : Int32) = nI 5 by decide +kernel, zI_add, show 5 * m + 5 = 5 * (m + 1) by omega]]
          exact ih (m + 1) T' lg' I' J' kc' kn' (by omega) hc' hs' hk' hn'
        by_cases h0 : ((sk_xs Γ (nI (5 * m)).toNatClampNeg) &&& 31) = 0
        · exact o_clear hm9 hnx hc hs hk hn hlt hvp v1 v2 v3 v4 h0
        by_cases h1 : ((sk_xs Γ (nI (5 * m)).toNatClampNeg) &&& 31) = 1
        · exact o_source hm9 hnx hc hs hk hn hlt hvp v1 v2 v3 v4 h1
        by_cases h2 : ((sk_xs Γ (nI (5 * m)).toNatClampNeg) &&& 31) = 2
        · exact o_gate hm9 hnx hc hs hk hn hlt hvp v1 v2 v3 v4 h2
        by_cases h3 : ((sk_xs Γ (nI (5 * m)).toNatClampNeg) &&& 31) = 3
        · exact o_output hm9 hnx hc hs hk hn hlt hvp v1 v2 v3 v4 h3
        by_cases h4 : ((sk_xs Γ (nI (5 * m)).toNatClampNeg) &&& 31) = 4
        · exact o_data hm9 hnx hc hs hk hn hlt hvp v1 v2 v3 v4 h4
        by_cases h5 : ((sk_xs Γ (nI (5 * m)).toNatClampNeg) &&& 31) = 5
        · exact o_count hm9 hnx hc hs hk hn hlt hvp v1 v2 v3 v4 h5
        by_cases h6 : ((sk_xs Γ (nI (5 * m)).toNatClampNeg) &&& 31) = 6
        · exact o_value hm9 hnx hc hs hk hn hlt hvp v1 v2 v3 v4 h6
        by_cases h7 : ((sk_xs Γ (nI (5 * m)).toNatClampNeg) &&& 31) = 7
        · exact o_response hm9 hnx hc hs hk hn hlt hvp v1 v2 v3 v4 h7
        by_cases h8 : ((sk_xs Γ (nI (5 * m)).toNatClampNeg) &&& 31) = 8
        · exact o_fault hm9 hnx hc hs hk hn hlt hvp v1 v2 v3 v4 h8
        by_cases h9 : ((sk_xs Γ (nI (5 * m)).toNatClampNeg) &&& 31) = 9
        · exact o_faultAt hm9 hnx hc hs hk hn hlt hvp v1 v2 v3 v4 h9
        by_cases h10 : ((sk_xs Γ (nI (5 * m)).toNatClampNeg) &&& 31) = 10
        · exact o_least hm9 hnx hc hs hk hn hlt hvp v1 v2 v3 v4 h10
        by_cases h11 : ((sk_xs Γ (nI (5 * m)).toNatClampNeg) &&& 31) = 11
        · exact o_showing hm9 hnx hc hs hk hn hlt hvp v1 v2 v3 v4 h11
        by_cases h12 : ((sk_xs Γ (nI (5 * m)).toNatClampNeg) &&& 31) = 12
        · exact o_alike hm9 hnx hc hs hk hn hlt hvp v1 v2 v3 v4 h12
        by_cases h13 : ((sk_xs Γ (nI (5 * m)).toNatClampNeg) &&& 31) = 13
        · exact o_ternary hm9 hnx hc hs hk hn hlt hvp v1 v2 v3 v4 h13
        by_cases h14 : ((sk_xs Γ (nI (5 * m)).toNatClampNeg) &&& 31) = 14
        · exact o_cube hm9 hnx hc hs hk hn hlt hvp v1 v2 v3 v4 h14
        by_cases h15 : ((sk_xs Γ (nI (5 * m)).toNatClampNeg) &&& 31) = 15
        · exact o_packed hm9 hnx hc hs hk hn hlt hvp v1 v2 v3 v4 h15
        by_cases h16 : ((sk_xs Γ (nI (5 * m)).toNatClampNeg) &&& 31) = 16
        · exact o_log hm9 hnx hc hs hk hn hlt hvp v1 v2 v3 v4 h16
        by_cases h17 : ((sk_xs Γ (nI (5 * m)).toNatClampNeg) &&& 31) = 17
        · exact o_forget hm9 hnx hc hs hk hn hlt hvp v1 v2 v3 v4 h17
        by_cases h18 : ((sk_xs Γ (nI (5 * m)).toNatClampNeg) &&& 31) = 18
        · exact o_explains hm9 hnx hc hs hk hn hlt hvp v1 v2 v3 v4 h18
        exact s_op_d hlt hvp h0 h1 h2 h3 h4 h5 h6 h7 h8 h9 h10 h11 h12 h13 h14 h15 h16 h17 h18 (hnx T lg I J kc kn (sl_cl_mono hc (by omega)) hs (by omega) (by omega))
  exact loop 513 0 sl_t0 [] sk_I1 sk_j0 62 17654 (by omega) sl_start_cl sl_start_ms (by omega) (by omega)
