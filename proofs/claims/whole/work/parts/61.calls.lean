/-! the law's calls -/
def sl_nx (Γ : sk_T) (m : Nat) (x4 : Int32) (Q : sk_Q) : Prop := ∀ (T : sl_ct) (lg : List (Nat × Nat)) (I : sk_I) (J : sk_J) (kc kn : Nat), sl_cl T lg (m + 1) I J → sl_ms T lg I → kc ≤ 62 + m → kn ≤ 17654 + 6 * m →
  sk_W Γ m_law 1101 25936 23 [(0, .ref sk_scr), (1, .ref 0), (2, .ref 41), (3, .ref 61), (4, .int (x4 + 5))] [] sk_gg I J kc kn Q
theorem sl_oi_inj {N : Nat} {a b : Option Nat} (hN : N ≤ 26) (ha : ∀ y, a = some y → y < N) (hb : ∀ y, b = some y → y < N) (h : sl_oi a = sl_oi b) : a = b := by
  cases a with
  | none => cases b with
    | none => rfl
    | some y => have := hb y rfl; exact absurd h.symm (zI_m1 (sl_lt31 (m := 26) (by omega) (by decide)))
  | some x => cases b with
    | none => have := ha x rfl; exact absurd h (zI_m1 (sl_lt31 (m := 26) (by omega) (by decide)))
    | some y =>
      have h1 := ha x rfl
      have h2 := hb y rfl
      rw [(zI_inj (sl_lt31 (m := 26) (by omega) (by decide)) (sl_lt31 (m := 26) (by omega) (by decide))).mp h]
theorem sl_pf_inj {p p' : Nat} (h1 : p ≤ 208) (h2 : p' ≤ 208) (h : sl_fi (sl_pf p) = sl_fi (sl_pf p')) : p = p' := by
  have e := congrArg (fun x => x + 1) h
  simp only [sl_fi_pf] at e
  exact (zI_inj (sl_lt31 (m := 208) h1 (by decide)) (sl_lt31 (m := 208) h2 (by decide))).mp e
theorem sl_SW_eq {T : sl_ct} {f : Option Nat} {x y : Int64} (h1 : sl_SW T f x) (h2 : sl_SW T f y) : x = y := bt_ext fun v hv => by rw [h1 v hv, h2 v hv]
section LW
variable {Γ : sk_T} {I : sk_I} {J : sk_J} {Q : sk_Q} {x4 : Int32} {kc kn m : Nat} {T : sl_ct} {lg : List (Nat × Nat)}
theorem sl_go {I1 I2 : sk_I} {J1 J2 : sk_J} {k : Nat} (hnx : sl_nx Γ (m + 1) x4 Q) (hc1 : sl_cl T lg k I1 J1) (hk : k ≤ m + 2) (hm2 : sl_ms T lg I2) (hq : ∀ q, q < 41 ∨ 60 < q → I2 q = I1 q) (h7 : J2 17 = J1 17) (h8 : J2 18 = J1 18) (hkc : kc ≤ 62 + (m + 1)) (hkn : kn ≤ 17654 + 6 * (m + 1)) :
    sk_W Γ m_law 1101 25936 23 [(0, .ref sk_scr), (1, .ref 0), (2, .ref 41), (3, .ref 61), (4, .int (x4 + 5))] [] sk_gg I2 J2 kc kn Q :=
  hnx T lg I2 J2 kc kn (sl_cl_mono (sl_cl_frame hc1 (fun q h => hq q (by omega)) h7 h8) hk) hm2 hkc hkn
theorem sl_hm {I1 : sk_I} (hm : sl_ms T lg I) (f : ∀ q, 40 < q → I1 q = I q) : sl_ms T lg I1 := sl_ms_frame hm (fun j _ => by rw [f 41 (by decide)]) (fun q a _ _ _ => f q (by omega))
theorem o_clear (hm9 : m < 512) (hnx : sl_nx Γ (m + 1) x4 Q) (hc : sl_cl T lg (m + 1) I J) (hm : sl_ms T lg I) (hkc : kc ≤ 62 + m) (hkn : kn ≤ 17654 + 6 * m) (hlt : ¬ ((Int32.ofNat (sk_len Γ)) - 5) < x4) (hvp : vp_in x4 (sk_len Γ)) (v1 : vp_in (x4 + 1) (sk_len Γ)) (v2 : vp_in (x4 + 2) (sk_len Γ)) (v3 : vp_in (x4 + 3) (sk_len Γ)) (v4 : vp_in (x4 + 4) (sk_len Γ)) (ho : ((sk_xs Γ x4.toNatClampNeg) &&& 31) = 0) : sk_W Γ m_law 1101 25936 23 [(0, .ref sk_scr), (1, .ref 0), (2, .ref 41), (3, .ref 61), (4, .int x4)] [] sk_gg I J kc kn Q := by
  refine s_op_0 hlt hvp ho ⟨⟨by omega, by omega⟩, x_clear hc (by omega) (fun I1 c1 f1 => ?_)⟩
  exact s_law_132 ⟨⟨by omega, by omega⟩, t_M_clear (fun I2 m2 q2 => s_law_136 (sl_go hnx c1 (by omega) m2 q2 rfl rfl (by omega) (by omega)))⟩
theorem o_source (hm9 : m < 512) (hnx : sl_nx Γ (m + 1) x4 Q) (hc : sl_cl T lg (m + 1) I J) (hm : sl_ms T lg I) (hkc : kc ≤ 62 + m) (hkn : kn ≤ 17654 + 6 * m) (hlt : ¬ ((Int32.ofNat (sk_len Γ)) - 5) < x4) (hvp : vp_in x4 (sk_len Γ)) (v1 : vp_in (x4 + 1) (sk_len Γ)) (v2 : vp_in (x4 + 2) (sk_len Γ)) (v3 : vp_in (x4 + 3) (sk_len Γ)) (v4 : vp_in (x4 + 4) (sk_len Γ)) (ho : ((sk_xs Γ x4.toNatClampNeg) &&& 31) = 1) : sk_W Γ m_law 1101 25936 23 [(0, .ref sk_scr), (1, .ref 0), (2, .ref 41), (3, .ref 61), (4, .int x4)] [] sk_gg I J kc kn Q := by
  by_cases hx : (sk_xs Γ (x4 + 1).toNatClampNeg) = 0
  · by_cases hA : cS T = 6 ∨ cN T = 26
    · refine s_op_1 (c9 := 1) (s9 := 6) hlt hvp ho ⟨v1, fun _ => ⟨⟨by omega, by omega⟩, t_L_source_bad (x_source_bad hc hA ⟨rfl, ?_⟩)⟩, fun hn => absurd hx hn⟩
      refine s_law_158 ⟨v1, fun _ => ⟨⟨by omega, by omega⟩, t_M_source (b := false) hc.1 hm rfl (fun _ => ?_) (fun h => absurd hA h)⟩, fun hn => absurd hx hn⟩
      exact s_law_178 ⟨⟨by omega, by omega⟩, t_M_thrown (s_law_184 ⟨fun _ => ⟨fun _ => sl_go hnx hc (by omega) (sl_ms_code hm 1) (sl_hq0 1) rfl rfl (by omega) (by omega), fun hz => absurd hz (by decide)⟩, fun hne => absurd (pi_eq _ _ _ _) hne⟩)⟩
    · refine s_op_1 (c9 := 0) (s9 := 0) hlt hvp ho ⟨v1, fun _ => ⟨⟨by omega, by omega⟩, t_L_source_ok (x_source_ok (b := false) hc (by omega) rfl hA (fun I1 c1 f1 => ?_))⟩, fun hn => absurd hx hn⟩
      refine s_law_158 ⟨v1, fun _ => ⟨⟨by omega, by omega⟩, t_M_source (b := false) hc.1 (sl_hm hm f1) rfl (fun h => absurd h hA) (fun _ I2 m2 z2 q2 => ?_)⟩, fun hn => absurd hx hn⟩
      refine s_law_178 ⟨⟨by omega, by omega⟩, t_M_thrown (s_law_184 ?_)⟩
      rw [z2]
      exact ⟨fun _ => ⟨fun hn => absurd rfl hn, fun _ => ⟨fun _ => sl_go hnx c1 (by omega) m2 q2 (pj_q _ _ _ _ (by decide)) (pj_q _ _ _ _ (by decide)) (by omega) (by omega), fun hn => absurd (by rw [lg_cmp_eq, pj_eq]) hn⟩⟩, fun hn => absurd rfl hn⟩
  · by_cases hA : cS T = 6 ∨ cN T = 26
    · refine s_op_1 (c9 := 1) (s9 := 6) hlt hvp ho ⟨v1, fun hn => absurd hn hx, fun _ => ⟨⟨by omega, by omega⟩, t_L_source_bad (x_source_bad hc hA ⟨rfl, ?_⟩)⟩⟩
      refine s_law_158 ⟨v1, fun hn => absurd hn hx, fun _ => ⟨⟨by omega, by omega⟩, t_M_source (b := true) hc.1 hm rfl (fun _ => ?_) (fun h => absurd hA h)⟩⟩
      exact s_law_178 ⟨⟨by omega, by omega⟩, t_M_thrown (s_law_184 ⟨fun _ => ⟨fun _ => sl_go hnx hc (by omega) (sl_ms_code hm 1) (sl_hq0 1) rfl rfl (by omega) (by omega), fun hz => absurd hz (by decide)⟩, fun hne => absurd (pi_eq _ _ _ _) hne⟩)⟩
    · refine s_op_1 (c9 := 0) (s9 := 0) hlt hvp ho ⟨v1, fun hn => absurd hn hx, fun _ => ⟨⟨by omega, by omega⟩, t_L_source_ok (x_source_ok (b := true) hc (by omega) rfl hA (fun I1 c1 f1 => ?_))⟩⟩
      refine s_law_158 ⟨v1, fun hn => absurd hn hx, fun _ => ⟨⟨by omega, by omega⟩, t_M_source (b := true) hc.1 (sl_hm hm f1) rfl (fun h => absurd h hA) (fun _ I2 m2 z2 q2 => ?_)⟩⟩
      refine s_law_178 ⟨⟨by omega, by omega⟩, t_M_thrown (s_law_184 ?_)⟩
      rw [z2]
      exact ⟨fun _ => ⟨fun hn => absurd rfl hn, fun _ => ⟨fun _ => sl_go hnx c1 (by omega) m2 q2 (pj_q _ _ _ _ (by decide)) (pj_q _ _ _ _ (by decide)) (by omega) (by omega), fun hn => absurd (by rw [lg_cmp_eq, pj_eq]) hn⟩⟩, fun hn => absurd rfl hn⟩
theorem o_gate (hm9 : m < 512) (hnx : sl_nx Γ (m + 1) x4 Q) (hc : sl_cl T lg (m + 1) I J) (hm : sl_ms T lg I) (hkc : kc ≤ 62 + m) (hkn : kn ≤ 17654 + 6 * m) (hlt : ¬ ((Int32.ofNat (sk_len Γ)) - 5) < x4) (hvp : vp_in x4 (sk_len Γ)) (v1 : vp_in (x4 + 1) (sk_len Γ)) (v2 : vp_in (x4 + 2) (sk_len Γ)) (v3 : vp_in (x4 + 3) (sk_len Γ)) (v4 : vp_in (x4 + 4) (sk_len Γ)) (ho : ((sk_xs Γ x4.toNatClampNeg) &&& 31) = 2) : sk_W Γ m_law 1101 25936 23 [(0, .ref sk_scr), (1, .ref 0), (2, .ref 41), (3, .ref 61), (4, .int x4)] [] sk_gg I J kc kn Q := by
  by_cases hA : sl_gA (sk_xs Γ (x4 + 1).toNatClampNeg) (sk_xs Γ (x4 + 2).toNatClampNeg) (sk_xs Γ (x4 + 3).toNatClampNeg) (sk_xs Γ (x4 + 4).toNatClampNeg)
  · refine s_op_2 (c9 := 1) (s9 := 6) hlt hvp ho ⟨v1, v2, v3, v4, ⟨by omega, by omega⟩, t_L_gate_bad (x_gate_b1 hA (Or.inl ⟨rfl, ?_⟩))⟩
    refine s_law_240 ⟨v1, v2, v3, v4, ⟨by omega, by omega⟩, t_M_gate hc.1 hm (fun _ => ?_) (fun h => absurd hA h) (fun h => absurd hA h) (fun h => absurd hA h)⟩
    exact s_law_270 ⟨⟨by omega, by omega⟩, t_M_thrown (s_law_276 ⟨fun _ => ⟨fun _ => sl_go hnx hc (by omega) (sl_ms_code hm 1) (sl_hq0 1) rfl rfl (by omega) (by omega), fun hz => absurd hz (by decide)⟩, fun hne => absurd (pi_eq _ _ _ _) hne⟩)⟩
  by_cases hB : sl_gB T (sk_xs Γ (x4 + 2).toNatClampNeg) (sk_xs Γ (x4 + 3).toNatClampNeg) (sk_xs Γ (x4 + 4).toNatClampNeg)
  · refine s_op_2 (c9 := 1) (s9 := 6) hlt hvp ho ⟨v1, v2, v3, v4, ⟨by omega, by omega⟩, t_L_gate_bad (x_gate_b2 hc hA hB (Or.inr (Or.inl ⟨rfl, ?_⟩)))⟩
    refine s_law_240 ⟨v1, v2, v3, v4, ⟨by omega, by omega⟩, t_M_gate hc.1 hm (fun h => absurd h hA) (fun _ _ => ?_) (fun _ h => absurd hB h) (fun _ h => absurd hB h)⟩
    exact s_law_270 ⟨⟨by omega, by omega⟩, t_M_thrown (s_law_276 ⟨fun _ => ⟨fun _ => sl_go hnx hc (by omega) (sl_ms_code hm 2) (sl_hq0 2) rfl rfl (by omega) (by omega), fun hz => absurd hz (by decide)⟩, fun hne => absurd (pi_eq _ _ _ _) hne⟩)⟩
  by_cases hC : cN T = 26
  · refine s_op_2 (c9 := 1) (s9 := 6) hlt hvp ho ⟨v1, v2, v3, v4, ⟨by omega, by omega⟩, t_L_gate_bad (x_gate_b3 hc hA hB hC (Or.inr (Or.inr ⟨rfl, ?_⟩)))⟩
    refine s_law_240 ⟨v1, v2, v3, v4, ⟨by omega, by omega⟩, t_M_gate hc.1 hm (fun h => absurd h hA) (fun _ h => absurd h hB) (fun _ _ _ => ?_) (fun _ _ _ _ _ _ _ _ _ _ _ _ _ _ _ hlt26 => absurd hC (by omega))⟩
    exact s_law_270 ⟨⟨by omega, by omega⟩, t_M_thrown (s_law_276 ⟨fun _ => ⟨fun _ => sl_go hnx hc (by omega) (sl_ms_code hm 3) (sl_hq0 3) rfl rfl (by omega) (by omega), fun hz => absurd hz (by decide)⟩, fun hne => absurd (pi_eq _ _ _ _) hne⟩)⟩
  have hN := hc.1.1
  obtain ⟨kn', hk31, e1⟩ := zI_of (fun h => hA (Or.inl h))
  obtain ⟨an, han, e2⟩ := sl_nl_of hc.1 (fun h => hB (Or.inl h))
  obtain ⟨bo, e3, hbo⟩ := sl_oi_of hc.1 (fun h => hB (Or.inr (Or.inl h)))
  obtain ⟨co, e4, hco⟩ := sl_oi_of hc.1 (fun h => hB (Or.inr (Or.inr h)))
  rw [e1, e2, e3, e4] at hA
  rw [e2, e3, e4] at hB
  have k6 : kn' < 6 := by
    have := (sl_gA_k hA).2.1
    rw [show (6 : Int32) = nI 6 by decide +kernel, zI_lt hk31 (by decide)] at this
    exact this
  refine s_op_2 (c9 := 0) (s9 := 0) hlt hvp ho ⟨v1, v2, v3, v4, ⟨by omega, by omega⟩, ?_⟩
  rw [e1, e2, e3, e4]
  refine t_L_gate_ok (x_gate_ok hc (by omega) hA hB k6 han hbo hco (by omega) (fun I1 c1 f1 => ?_))
  refine s_law_240 ⟨v1, v2, v3, v4, ⟨by omega, by omega⟩, ?_⟩
  rw [e1, e2, e3, e4]
  refine t_M_gate hc.1 (sl_hm hm f1) (fun h => absurd h hA) (fun _ h => absurd h hB) (fun _ _ h => absurd h hC) (fun _ _ ka aa ba ca u1 u2 u3 u4 k6' ha' hb' hc' _ _ I2 m2 z2 q2 => ?_)
  have w1 : kn' = ka := (zI_inj hk31 (sl_lt31 (m := 6) (by omega) (by decide))).mp u1
  have w2 : an = aa := (zI_inj (sl_lt31 (m := 26) (by omega) (by decide)) (sl_lt31 (m := 26) (by omega) (by decide))).mp u2
  have w3 : bo = ba := sl_oi_inj hN hbo hb' u3
  have w4 : co = ca := sl_oi_inj hN hco hc' u4
  subst w1 w2 w3 w4
  refine s_law_270 ⟨⟨by omega, by omega⟩, t_M_thrown (s_law_276 ?_)⟩
  rw [z2]
  exact ⟨fun _ => ⟨fun hn => absurd rfl hn, fun _ => ⟨fun _ => sl_go hnx c1 (by omega) m2 q2 (pj_q _ _ _ _ (by decide)) (pj_q _ _ _ _ (by decide)) (by omega) (by omega), fun hn => absurd (by rw [lg_cmp_eq, pj_eq]) hn⟩⟩, fun hn => absurd rfl hn⟩
theorem o_output (hm9 : m < 512) (hnx : sl_nx Γ (m + 1) x4 Q) (hc : sl_cl T lg (m + 1) I J) (hm : sl_ms T lg I) (hkc : kc ≤ 62 + m) (hkn : kn ≤ 17654 + 6 * m) (hlt : ¬ ((Int32.ofNat (sk_len Γ)) - 5) < x4) (hvp : vp_in x4 (sk_len Γ)) (v1 : vp_in (x4 + 1) (sk_len Γ)) (v2 : vp_in (x4 + 2) (sk_len Γ)) (v3 : vp_in (x4 + 3) (sk_len Γ)) (v4 : vp_in (x4 + 4) (sk_len Γ)) (ho : ((sk_xs Γ x4.toNatClampNeg) &&& 31) = 3) : sk_W Γ m_law 1101 25936 23 [(0, .ref sk_scr), (1, .ref 0), (2, .ref 41), (3, .ref 61), (4, .int x4)] [] sk_gg I J kc kn Q := by
  by_cases hA : sl_nl T (sk_xs Γ (x4 + 1).toNatClampNeg)
  · refine s_op_3 (c9 := 1) (s9 := 6) hlt hvp ho ⟨v1, ⟨by omega, by omega⟩, t_L_output_bad (x_output_b1 hc hA (Or.inl ⟨rfl, ?_⟩))⟩
    refine s_law_314 ⟨v1, ⟨by omega, by omega⟩, t_M_output hc.1 hm (fun _ => ?_) (fun h => absurd hA h) (fun h => absurd hA h)⟩
    exact s_law_326 ⟨⟨by omega, by omega⟩, t_M_thrown (s_law_332 ⟨fun _ => ⟨fun _ => sl_go hnx hc (by omega) (sl_ms_code hm 1) (sl_hq0 1) rfl rfl (by omega) (by omega), fun hz => absurd hz (by decide)⟩, fun hne => absurd (pi_eq _ _ _ _) hne⟩)⟩
  by_cases hB : sl_oA T (sk_xs Γ (x4 + 1).toNatClampNeg)
  · refine s_op_3 (c9 := 1) (s9 := 6) hlt hvp ho ⟨v1, ⟨by omega, by omega⟩, t_L_output_bad (x_output_b2 hc hA hB (Or.inr ⟨rfl, ?_⟩))⟩
    refine s_law_314 ⟨v1, ⟨by omega, by omega⟩, t_M_output hc.1 hm (fun h => absurd h hA) (fun _ _ => ?_) (fun _ h => absurd hB h)⟩
    exact s_law_326 ⟨⟨by omega, by omega⟩, t_M_thrown (s_law_332 ⟨fun _ => ⟨fun _ => sl_go hnx hc (by omega) (sl_ms_code hm 2) (sl_hq0 2) rfl rfl (by omega) (by omega), fun hz => absurd hz (by decide)⟩, fun hne => absurd (pi_eq _ _ _ _) hne⟩)⟩
  have hN := hc.1.1
  obtain ⟨x, hx, e1⟩ := sl_nl_of hc.1 hA
  rw [e1] at hA hB
  refine s_op_3 (c9 := 0) (s9 := 0) hlt hvp ho ⟨v1, ⟨by omega, by omega⟩, ?_⟩
  rw [e1]
  refine t_L_output_ok (x_output_ok hc (by omega) hx hB (fun I1 c1 f1 => ?_))
  refine s_law_314 ⟨v1, ⟨by omega, by omega⟩, ?_⟩
  rw [e1]
  refine t_M_output hc.1 (sl_hm hm f1) (fun h => absurd h hA) (fun _ h => absurd h hB) (fun _ _ x' u1 hx' I2 m2 z2 q2 => ?_)
  have w1 : x = x' := (zI_inj (sl_lt31 (m := 26) (by omega) (by decide)) (sl_lt31 (m := 26) (by omega) (by decide))).mp u1
  subst w1
  refine s_law_326 ⟨⟨by omega, by omega⟩, t_M_thrown (s_law_332 ?_)⟩
  rw [z2]
  exact ⟨fun _ => ⟨fun hn => absurd rfl hn, fun _ => ⟨fun _ => sl_go hnx c1 (by omega) m2 q2 (pj_q _ _ _ _ (by decide)) (pj_q _ _ _ _ (by decide)) (by omega) (by omega), fun hn => absurd (by rw [lg_cmp_eq, pj_eq]) hn⟩⟩, fun hn => absurd rfl hn⟩
theorem o_data (hm9 : m < 512) (hnx : sl_nx Γ (m + 1) x4 Q) (hc : sl_cl T lg (m + 1) I J) (hm : sl_ms T lg I) (hkc : kc ≤ 62 + m) (hkn : kn ≤ 17654 + 6 * m) (hlt : ¬ ((Int32.ofNat (sk_len Γ)) - 5) < x4) (hvp : vp_in x4 (sk_len Γ)) (v1 : vp_in (x4 + 1) (sk_len Γ)) (v2 : vp_in (x4 + 2) (sk_len Γ)) (v3 : vp_in (x4 + 3) (sk_len Γ)) (v4 : vp_in (x4 + 4) (sk_len Γ)) (ho : ((sk_xs Γ x4.toNatClampNeg) &&& 31) = 4) : sk_W Γ m_law 1101 25936 23 [(0, .ref sk_scr), (1, .ref 0), (2, .ref 41), (3, .ref 61), (4, .int x4)] [] sk_gg I J kc kn Q := by
  have hN := hc.1.1
  by_cases hA : sl_nl T (sk_xs Γ (x4 + 1).toNatClampNeg) ∨ sl_nl T (sk_xs Γ (x4 + 2).toNatClampNeg)
  · refine s_op_4 (c9 := 1) (s9 := 6) hlt hvp ho ⟨v1, v2, ⟨by omega, by omega⟩, t_L_data_bad (x_data_b1 hc hA (Or.inl ⟨rfl, ?_⟩))⟩
    refine s_law_375 ⟨v1, v2, ⟨by omega, by omega⟩, t_M_data hc.1 hm (fun _ => ?_) (fun h => absurd hA h) (fun h => absurd hA h)⟩
    exact s_law_393 ⟨⟨by omega, by omega⟩, t_M_thrown (s_law_397 ⟨fun _ => sl_go hnx hc (by omega) (sl_ms_code hm 1) (sl_hq0 1) rfl rfl (by omega) (by omega), fun hne => absurd (pi_eq _ _ _ _) hne⟩)⟩
  obtain ⟨fl, hfl, e1⟩ := sl_nl_of hc.1 (fun h => hA (Or.inl h))
  obtain ⟨x, hx, e2⟩ := sl_nl_of hc.1 (fun h => hA (Or.inr h))
  rw [e1, e2] at hA
  have f31 : ∀ z, z < cN T → z < 2 ^ 31 := fun z hz => sl_lt31 (m := 26) (by omega) (by decide)
  by_cases hd : cD T fl = .inl true
  · refine s_op_4 (c9 := 0) (s9 := 0) hlt hvp ho ⟨v1, v2, ⟨by omega, by omega⟩, ?_⟩
    rw [e1, e2]
    refine t_L_data_ok (x_data_ok hc (by omega) hfl hx hd (fun I1 c1 f1 => ?_))
    refine s_law_375 ⟨v1, v2, ⟨by omega, by omega⟩, ?_⟩
    rw [e1, e2]
    refine t_M_data hc.1 (sl_hm hm f1) (fun h => absurd h hA) (fun _ fa xa u1 u2 hfa hxa hda => ?_) (fun _ fa xa u1 u2 hfa hxa hda I2 m2 z2 q2 => ?_)
    · have w1 : fl = fa := (zI_inj (f31 _ hfl) (f31 _ hfa)).mp u1
      subst w1
      exact absurd hd hda
    · have w1 : fl = fa := (zI_inj (f31 _ hfl) (f31 _ hfa)).mp u1
      have w2 : x = xa := (zI_inj (f31 _ hx) (f31 _ hxa)).mp u2
      subst w1 w2
      refine s_law_393 ⟨⟨by omega, by omega⟩, t_M_thrown (s_law_397 ?_)⟩
      rw [z2]
      exact ⟨fun _ => sl_go hnx c1 (by omega) m2 q2 rfl rfl (by omega) (by omega), fun hn => absurd rfl hn⟩
  · refine s_op_4 (c9 := 1) (s9 := 6) hlt hvp ho ⟨v1, v2, ⟨by omega, by omega⟩, ?_⟩
    rw [e1, e2]
    refine t_L_data_bad (x_data_b2 hc hfl hx hd (Or.inr ⟨rfl, ?_⟩))
    refine s_law_375 ⟨v1, v2, ⟨by omega, by omega⟩, ?_⟩
    rw [e1, e2]
    refine t_M_data hc.1 hm (fun h => absurd h hA) (fun _ fa xa u1 u2 hfa hxa hda I2 m2 z2 q2 => ?_) (fun _ fa xa u1 u2 hfa hxa hda => ?_)
    · refine s_law_393 ⟨⟨by omega, by omega⟩, t_M_thrown (s_law_397 ?_)⟩
      rw [z2]
      exact ⟨fun _ => sl_go hnx hc (by omega) m2 q2 rfl rfl (by omega) (by omega), fun hn => absurd rfl hn⟩
    · have w1 : fl = fa := (zI_inj (f31 _ hfl) (f31 _ hfa)).mp u1
      subst w1
      exact absurd hda hd
theorem o_count (hm9 : m < 512) (hnx : sl_nx Γ (m + 1) x4 Q) (hc : sl_cl T lg (m + 1) I J) (hm : sl_ms T lg I) (hkc : kc ≤ 62 + m) (hkn : kn ≤ 17654 + 6 * m) (hlt : ¬ ((Int32.ofNat (sk_len Γ)) - 5) < x4) (hvp : vp_in x4 (sk_len Γ)) (v1 : vp_in (x4 + 1) (sk_len Γ)) (v2 : vp_in (x4 + 2) (sk_len Γ)) (v3 : vp_in (x4 + 3) (sk_len Γ)) (v4 : vp_in (x4 + 4) (sk_len Γ)) (ho : ((sk_xs Γ x4.toNatClampNeg) &&& 31) = 5) : sk_W Γ m_law 1101 25936 23 [(0, .ref sk_scr), (1, .ref 0), (2, .ref 41), (3, .ref 61), (4, .int x4)] [] sk_gg I J kc kn Q := by
  by_cases hA : (sk_xs Γ (x4 + 1).toNatClampNeg) < 0 ∨ 5 < (sk_xs Γ (x4 + 1).toNatClampNeg)
  · refine s_op_5 (c9 := 1) (s9 := 6) hlt hvp ho ⟨v1, ⟨by omega, by omega⟩, t_L_count_bad (x_count_bad hA ⟨rfl, ?_⟩)⟩
    refine s_law_418 ⟨v1, ⟨by omega, by omega⟩, t_M_count hc.1 hm (fun _ => ?_) (fun h => absurd hA h)⟩
    exact s_law_430 ⟨⟨by omega, by omega⟩, t_M_thrown (s_law_436 ⟨fun _ => ⟨fun _ => sl_go hnx hc (by omega) (sl_ms_code hm 1) (sl_hq0 1) rfl rfl (by omega) (by omega), fun hz => absurd hz (by decide)⟩, fun hne => absurd (pi_eq _ _ _ _) hne⟩)⟩
  refine s_op_5 (c9 := 0) (s9 := 0) hlt hvp ho ⟨v1, ⟨by omega, by omega⟩, t_L_count_ok (x_count_ok hc hA (fun I1 J1 c1 f1 => ?_))⟩
  refine s_law_418 ⟨v1, ⟨by omega, by omega⟩, t_M_count hc.1 (sl_hm hm f1) (fun h => absurd h hA) (fun _ I2 m2 z2 q2 => ?_)⟩
  refine s_law_430 ⟨⟨by omega, by omega⟩, t_M_thrown (s_law_436 ?_)⟩
  rw [z2]
  exact ⟨fun _ => ⟨fun hn => absurd rfl hn, fun _ => ⟨fun _ => sl_go hnx c1 (by omega) m2 q2 (pj_q _ _ _ _ (by decide)) (pj_q _ _ _ _ (by decide)) (by omega) (by omega), fun hn => absurd (by rw [lg_cmp_eq, pj_eq]) hn⟩⟩, fun hn => absurd rfl hn⟩
theorem o_value (hm9 : m < 512) (hnx : sl_nx Γ (m + 1) x4 Q) (hc : sl_cl T lg (m + 1) I J) (hm : sl_ms T lg I) (hkc : kc ≤ 62 + m) (hkn : kn ≤ 17654 + 6 * m) (hlt : ¬ ((Int32.ofNat (sk_len Γ)) - 5) < x4) (hvp : vp_in x4 (sk_len Γ)) (v1 : vp_in (x4 + 1) (sk_len Γ)) (v2 : vp_in (x4 + 2) (sk_len Γ)) (v3 : vp_in (x4 + 3) (sk_len Γ)) (v4 : vp_in (x4 + 4) (sk_len Γ)) (ho : ((sk_xs Γ x4.toNatClampNeg) &&& 31) = 6) : sk_W Γ m_law 1101 25936 23 [(0, .ref sk_scr), (1, .ref 0), (2, .ref 41), (3, .ref 61), (4, .int x4)] [] sk_gg I J kc kn Q := by
  by_cases hA : sl_nv T (sk_xs Γ (x4 + 1).toNatClampNeg) ∨ sl_nl T (sk_xs Γ (x4 + 2).toNatClampNeg) ∨ (¬ (sk_xs Γ (x4 + 3).toNatClampNeg) = -1 ∧ sl_nf T (sk_xs Γ (x4 + 3).toNatClampNeg))
  · refine s_op_6 (c9 := 1) (s9 := 6) hlt hvp ho ⟨v1, v2, v3, ⟨by omega, by omega⟩, t_L_value_bad (x_value_bad hc hA ⟨rfl, ?_⟩)⟩
    refine s_law_486 ⟨v1, v2, v3, ⟨by omega, by omega⟩, t_M_value hc.1 hm (fun _ => ?_) (fun h => absurd hA h)⟩
    exact s_law_510 ⟨⟨by omega, by omega⟩, t_M_thrown (s_law_516 ⟨fun _ => ⟨fun _ => sl_go hnx hc (by omega) (sl_ms_code hm 1) (sl_hq0 1) rfl rfl (by omega) (by omega), fun hz => absurd hz (by decide)⟩, fun hne => absurd (pi_eq _ _ _ _) hne⟩)⟩
  have hN := hc.1.1
  have hS := sl_S64 hc.1
  have hF : cF T ≤ 208 := sl_F_le hc.1
  obtain ⟨v, hv, e1⟩ := sl_nv_of hc.1 (fun h => hA (Or.inl h))
  obtain ⟨l, hl, e2⟩ := sl_nl_of hc.1 (fun h => hA (Or.inr (Or.inl h)))
  obtain ⟨p, hp, e3⟩ := sl_fi_of hc.1 (fun h => hA (Or.inr (Or.inr h)))
  rw [e1, e2, e3] at hA
  refine s_op_6 (c9 := 0) (s9 := 0) hlt hvp ho ⟨v1, v2, v3, ⟨by omega, by omega⟩, ?_⟩
  rw [e1, e2, e3]
  refine t_L_value_ok (x_value_ok hc hA hv hl hp (fun I1 J1 c1 f1 => ?_))
  refine s_law_486 ⟨v1, v2, v3, ⟨by omega, by omega⟩, ?_⟩
  rw [e1, e2, e3]
  refine t_M_value hc.1 (sl_hm hm f1) (fun h => absurd h hA) (fun _ va la pa u1 u2 u3 hva hla hpa I2 m2 z2 q2 => ?_)
  have w1 : v = va := (zI_inj (sl_lt31 (m := 64) (by omega) (by decide)) (sl_lt31 (m := 64) (by omega) (by decide))).mp u1
  have w2 : l = la := (zI_inj (sl_lt31 (m := 26) (by omega) (by decide)) (sl_lt31 (m := 26) (by omega) (by decide))).mp u2
  have w3 : p = pa := sl_pf_inj (by omega) (by omega) u3
  subst w1 w2 w3
  refine s_law_510 ⟨⟨by omega, by omega⟩, t_M_thrown (s_law_516 ?_)⟩
  rw [z2]
  exact ⟨fun _ => ⟨fun hn => absurd rfl hn, fun _ => ⟨fun _ => sl_go hnx c1 (by omega) m2 q2 (pj_q _ _ _ _ (by decide)) (pj_q _ _ _ _ (by decide)) (by omega) (by omega), fun hn => absurd (by rw [lg_cmp_eq, pj_eq]) hn⟩⟩, fun hn => absurd rfl hn⟩
theorem o_response (hm9 : m < 512) (hnx : sl_nx Γ (m + 1) x4 Q) (hc : sl_cl T lg (m + 1) I J) (hm : sl_ms T lg I) (hkc : kc ≤ 62 + m) (hkn : kn ≤ 17654 + 6 * m) (hlt : ¬ ((Int32.ofNat (sk_len Γ)) - 5) < x4) (hvp : vp_in x4 (sk_len Γ)) (v1 : vp_in (x4 + 1) (sk_len Γ)) (v2 : vp_in (x4 + 2) (sk_len Γ)) (v3 : vp_in (x4 + 3) (sk_len Γ)) (v4 : vp_in (x4 + 4) (sk_len Γ)) (ho : ((sk_xs Γ x4.toNatClampNeg) &&& 31) = 7) : sk_W Γ m_law 1101 25936 23 [(0, .ref sk_scr), (1, .ref 0), (2, .ref 41), (3, .ref 61), (4, .int x4)] [] sk_gg I J kc kn Q := by
  by_cases hA : sl_nv T (sk_xs Γ (x4 + 1).toNatClampNeg) ∨ (¬ (sk_xs Γ (x4 + 2).toNatClampNeg) = -1 ∧ sl_nf T (sk_xs Γ (x4 + 2).toNatClampNeg))
  · refine s_op_7 (c9 := 1) (s9 := 6) hlt hvp ho ⟨v1, v2, ⟨by omega, by omega⟩, t_L_response_bad (x_response_bad hc hA ⟨rfl, ?_⟩)⟩
    refine s_law_560 ⟨v1, v2, ⟨by omega, by omega⟩, t_M_response hc.1 hm (fun _ => ?_) (fun h => absurd hA h)⟩
    exact s_law_578 ⟨⟨by omega, by omega⟩, t_M_thrown (s_law_584 ⟨fun _ => ⟨fun _ => sl_go hnx hc (by omega) (sl_ms_code hm 1) (sl_hq0 1) rfl rfl (by omega) (by omega), fun hz => absurd hz (by decide)⟩, fun hne => absurd (pi_eq _ _ _ _) hne⟩)⟩
  have hS := sl_S64 hc.1
  have hF : cF T ≤ 208 := sl_F_le hc.1
  obtain ⟨v, hv, e1⟩ := sl_nv_of hc.1 (fun h => hA (Or.inl h))
  obtain ⟨p, hp, e2⟩ := sl_fi_of hc.1 (fun h => hA (Or.inr h))
  rw [e1, e2] at hA
  refine s_op_7 (c9 := 0) (s9 := 0) hlt hvp ho ⟨v1, v2, ⟨by omega, by omega⟩, ?_⟩
  rw [e1, e2]
  refine t_L_response_ok (x_response_ok hc hA hv hp (fun I1 J1 c1 f1 => ?_))
  refine s_law_560 ⟨v1, v2, ⟨by omega, by omega⟩, ?_⟩
  rw [e1, e2]
  refine t_M_response hc.1 (sl_hm hm f1) (fun h => absurd h hA) (fun _ va pa u1 u2 hva hpa I2 m2 z2 q2 => ?_)
  have w1 : v = va := (zI_inj (sl_lt31 (m := 64) (by omega) (by decide)) (sl_lt31 (m := 64) (by omega) (by decide))).mp u1
  have w2 : p = pa := sl_pf_inj (by omega) (by omega) u2
  subst w1 w2
  refine s_law_578 ⟨⟨by omega, by omega⟩, t_M_thrown (s_law_584 ?_)⟩
  rw [z2]
  exact ⟨fun _ => ⟨fun hn => absurd rfl hn, fun _ => ⟨fun _ => sl_go hnx c1 (by omega) m2 q2 (pj_q _ _ _ _ (by decide)) (pj_q _ _ _ _ (by decide)) (by omega) (by omega), fun hn => absurd (by rw [lg_cmp_eq, pj_eq]) hn⟩⟩, fun hn => absurd rfl hn⟩
theorem o_fault (hm9 : m < 512) (hnx : sl_nx Γ (m + 1) x4 Q) (hc : sl_cl T lg (m + 1) I J) (hm : sl_ms T lg I) (hkc : kc ≤ 62 + m) (hkn : kn ≤ 17654 + 6 * m) (hlt : ¬ ((Int32.ofNat (sk_len Γ)) - 5) < x4) (hvp : vp_in x4 (sk_len Γ)) (v1 : vp_in (x4 + 1) (sk_len Γ)) (v2 : vp_in (x4 + 2) (sk_len Γ)) (v3 : vp_in (x4 + 3) (sk_len Γ)) (v4 : vp_in (x4 + 4) (sk_len Γ)) (ho : ((sk_xs Γ x4.toNatClampNeg) &&& 31) = 8) : sk_W Γ m_law 1101 25936 23 [(0, .ref sk_scr), (1, .ref 0), (2, .ref 41), (3, .ref 61), (4, .int x4)] [] sk_gg I J kc kn Q := by
  refine s_op_8 hlt hvp ho ⟨v1, v2, v3, ⟨by omega, by omega⟩, x_fault hc (s_law_633 ⟨v1, v2, v3, ⟨by omega, by omega⟩, t_M_fault' hc.1 hm (s_law_655 ⟨fun _ => ?_, fun hn => absurd rfl hn⟩)⟩)⟩
  exact sl_go hnx hc (by omega) (sl_ms_code hm 0) (sl_hq0 0) rfl rfl (by omega) (by omega)
theorem o_faultAt (hm9 : m < 512) (hnx : sl_nx Γ (m + 1) x4 Q) (hc : sl_cl T lg (m + 1) I J) (hm : sl_ms T lg I) (hkc : kc ≤ 62 + m) (hkn : kn ≤ 17654 + 6 * m) (hlt : ¬ ((Int32.ofNat (sk_len Γ)) - 5) < x4) (hvp : vp_in x4 (sk_len Γ)) (v1 : vp_in (x4 + 1) (sk_len Γ)) (v2 : vp_in (x4 + 2) (sk_len Γ)) (v3 : vp_in (x4 + 3) (sk_len Γ)) (v4 : vp_in (x4 + 4) (sk_len Γ)) (ho : ((sk_xs Γ x4.toNatClampNeg) &&& 31) = 9) : sk_W Γ m_law 1101 25936 23 [(0, .ref sk_scr), (1, .ref 0), (2, .ref 41), (3, .ref 61), (4, .int x4)] [] sk_gg I J kc kn Q := by
  by_cases hA : sl_nf T (sk_xs Γ (x4 + 1).toNatClampNeg)
  · refine s_op_9 (c9 := 1) (s9 := 6) hlt hvp ho ⟨v1, v2, ⟨by omega, by omega⟩, t_L_faultAt_bad (x_faultAt_b1 hc hA (Or.inl ⟨rfl, ?_⟩))⟩
    refine s_law_677 ⟨v1, v2, ⟨by omega, by omega⟩, t_M_faultAt hc.1 hm (fun _ => ?_) (fun h => absurd hA h) (fun h => absurd hA h)⟩
    exact s_law_695 ⟨⟨by omega, by omega⟩, t_M_thrown (s_law_701 ⟨fun _ => ⟨fun _ => sl_go hnx hc (by omega) (sl_ms_code hm 1) (sl_hq0 1) rfl rfl (by omega) (by omega), fun hz => absurd hz (by decide)⟩, fun hne => absurd (pi_eq _ _ _ _) hne⟩)⟩
  have hF : cF T ≤ 208 := sl_F_le hc.1
  obtain ⟨q, hq, e1⟩ := sl_nf_of hc.1 hA
  rw [e1] at hA
  by_cases hB : (sk_xs Γ (x4 + 2).toNatClampNeg) < 0 ∨ ¬ (sk_xs Γ (x4 + 2).toNatClampNeg) ≤ 2
  · refine s_op_9 (c9 := 1) (s9 := 6) hlt hvp ho ⟨v1, v2, ⟨by omega, by omega⟩, ?_⟩
    rw [e1]
    refine t_L_faultAt_bad (x_faultAt_b2 hc hA hq hB (Or.inr ⟨rfl, ?_⟩))
    refine s_law_677 ⟨v1, v2, ⟨by omega, by omega⟩, ?_⟩
    rw [e1]
    refine t_M_faultAt hc.1 hm (fun h => absurd h hA) (fun _ _ => ?_) (fun _ qa _ _ y0 y2 => absurd hB (fun h => h.elim y0 (fun h => h y2)))
    exact s_law_695 ⟨⟨by omega, by omega⟩, t_M_thrown (s_law_701 ⟨fun _ => ⟨fun _ => sl_go hnx hc (by omega) (sl_ms_code hm 2) (sl_hq0 2) rfl rfl (by omega) (by omega), fun hz => absurd hz (by decide)⟩, fun hne => absurd (pi_eq _ _ _ _) hne⟩)⟩
  · have y0 : ¬ (sk_xs Γ (x4 + 2).toNatClampNeg) < 0 := fun h => hB (Or.inl h)
    have y2 : (sk_xs Γ (x4 + 2).toNatClampNeg) ≤ 2 := Classical.byContradiction fun h => hB (Or.inr h)
    have hs : sl_sit T (q / 2) (I 51 (q / 2)) (I 52 (q / 2)) := sl_site hm.2.1 (by have : q < 2 * (cN T + cP T) := hq; omega)
    refine s_op_9 (c9 := 0) (s9 := 0) hlt hvp ho ⟨v1, v2, ⟨by omega, by omega⟩, ?_⟩
    rw [e1]
    refine t_L_faultAt_ok (x_faultAt_ok hc hA hq y0 y2 hs ?_)
    refine s_law_677 ⟨v1, v2, ⟨by omega, by omega⟩, ?_⟩
    rw [e1]
    refine t_M_faultAt hc.1 hm (fun h => absurd h hA) (fun _ h => absurd h hB) (fun _ qa u1 hqa _ _ => ?_)
    have w1 : q = qa := (zI_inj (sl_lt31 (m := 208) (by omega) (by decide)) (sl_lt31 (m := 208) (by omega) (by decide))).mp u1
    subst w1
    have z2 : sk_pi I 41 0 0 41 0 = 0 := pi_eq _ _ _ _
    have c1 := hc
    have m2 := sl_ms_code hm 0
    have q2 : ∀ q, q < 41 ∨ 60 < q → sk_pi I 41 0 0 q = I q := sl_hq0 0
    refine s_law_695 ⟨⟨by omega, by omega⟩, t_M_thrown (s_law_701 ?_)⟩
    rw [z2]
    exact ⟨fun _ => ⟨fun hn => absurd rfl hn, fun _ => ⟨fun _ => sl_go hnx c1 (by omega) m2 q2 (pj_q _ _ _ _ (by decide)) (pj_q _ _ _ _ (by decide)) (by omega) (by omega), fun hn => absurd (by rw [lg_cmp_eq, pj_eq]) hn⟩⟩, fun hn => absurd rfl hn⟩
theorem o_least (hm9 : m < 512) (hnx : sl_nx Γ (m + 1) x4 Q) (hc : sl_cl T lg (m + 1) I J) (hm : sl_ms T lg I) (hkc : kc ≤ 62 + m) (hkn : kn ≤ 17654 + 6 * m) (hlt : ¬ ((Int32.ofNat (sk_len Γ)) - 5) < x4) (hvp : vp_in x4 (sk_len Γ)) (v1 : vp_in (x4 + 1) (sk_len Γ)) (v2 : vp_in (x4 + 2) (sk_len Γ)) (v3 : vp_in (x4 + 3) (sk_len Γ)) (v4 : vp_in (x4 + 4) (sk_len Γ)) (ho : ((sk_xs Γ x4.toNatClampNeg) &&& 31) = 10) : sk_W Γ m_law 1101 25936 23 [(0, .ref sk_scr), (1, .ref 0), (2, .ref 41), (3, .ref 61), (4, .int x4)] [] sk_gg I J kc kn Q := by
  by_cases hA : sl_nf T (sk_xs Γ (x4 + 1).toNatClampNeg)
  · refine s_op_10 (c9 := 1) (s9 := 6) hlt hvp ho ⟨v1, ⟨by omega, by omega⟩, t_L_least_bad (x_least_bad hc hA ⟨rfl, ?_⟩)⟩
    refine s_law_739 ⟨v1, ⟨by omega, by omega⟩, t_M_least hc.1 hm (fun _ => ?_) (fun h => absurd hA h)⟩
    exact s_law_751 ⟨⟨by omega, by omega⟩, t_M_thrown (s_law_757 ⟨fun _ => ⟨fun _ => sl_go hnx hc (by omega) (sl_ms_code hm 1) (sl_hq0 1) rfl rfl (by omega) (by omega), fun hz => absurd hz (by decide)⟩, fun hne => absurd (pi_eq _ _ _ _) hne⟩)⟩
  have hF : cF T ≤ 208 := sl_F_le hc.1
  obtain ⟨q, hq, e1⟩ := sl_nf_of hc.1 hA
  rw [e1] at hA
  refine s_op_10 (c9 := 0) (s9 := 0) hlt hvp ho ⟨v1, ⟨by omega, by omega⟩, ?_⟩
  rw [e1]
  refine t_L_least_ok (x_least_ok hc hA hq (fun I1 J1 c1 f1 => ?_))
  refine s_law_739 ⟨v1, ⟨by omega, by omega⟩, ?_⟩
  rw [e1]
  refine t_M_least hc.1 (sl_hm hm f1) (fun h => absurd h hA) (fun _ qa u1 hqa I2 m2 z2 q2 => ?_)
  have w1 : q = qa := (zI_inj (sl_lt31 (m := 208) (by omega) (by decide)) (sl_lt31 (m := 208) (by omega) (by decide))).mp u1
  subst w1
  refine s_law_751 ⟨⟨by omega, by omega⟩, t_M_thrown (s_law_757 ?_)⟩
  rw [z2]
  exact ⟨fun _ => ⟨fun hn => absurd rfl hn, fun _ => ⟨fun _ => sl_go hnx c1 (by omega) m2 q2 (pj_q _ _ _ _ (by decide)) (pj_q _ _ _ _ (by decide)) (by omega) (by omega), fun hn => absurd (by rw [lg_cmp_eq, pj_eq]) hn⟩⟩, fun hn => absurd rfl hn⟩
theorem o_showing (hm9 : m < 512) (hnx : sl_nx Γ (m + 1) x4 Q) (hc : sl_cl T lg (m + 1) I J) (hm : sl_ms T lg I) (hkc : kc ≤ 62 + m) (hkn : kn ≤ 17654 + 6 * m) (hlt : ¬ ((Int32.ofNat (sk_len Γ)) - 5) < x4) (hvp : vp_in x4 (sk_len Γ)) (v1 : vp_in (x4 + 1) (sk_len Γ)) (v2 : vp_in (x4 + 2) (sk_len Γ)) (v3 : vp_in (x4 + 3) (sk_len Γ)) (v4 : vp_in (x4 + 4) (sk_len Γ)) (ho : ((sk_xs Γ x4.toNatClampNeg) &&& 31) = 11) : sk_W Γ m_law 1101 25936 23 [(0, .ref sk_scr), (1, .ref 0), (2, .ref 41), (3, .ref 61), (4, .int x4)] [] sk_gg I J kc kn Q := by
  by_cases hA : sl_nf T (sk_xs Γ (x4 + 1).toNatClampNeg)
  · refine s_op_11 (c9 := 1) (s9 := 6) hlt hvp ho ⟨v1, ⟨by omega, by omega⟩, t_L_showing_bad (x_showing_bad hc hA ⟨rfl, ?_⟩)⟩
    refine s_law_795 ⟨v1, ⟨by omega, by omega⟩, t_M_showing hc.1 hm (fun _ => ?_) (fun h => absurd hA h)⟩
    exact s_law_807 ⟨⟨by omega, by omega⟩, t_M_thrown (s_law_813 ⟨fun _ => ⟨fun _ => sl_go hnx hc (by omega) (sl_ms_code hm 1) (sl_hq0 1) rfl rfl (by omega) (by omega), fun hz => absurd hz (by decide)⟩, fun hne => absurd (pi_eq _ _ _ _) hne⟩)⟩
  have hF : cF T ≤ 208 := sl_F_le hc.1
  obtain ⟨q, hq, e1⟩ := sl_nf_of hc.1 hA
  rw [e1] at hA
  refine s_op_11 (c9 := 0) (s9 := 0) hlt hvp ho ⟨v1, ⟨by omega, by omega⟩, ?_⟩
  rw [e1]
  refine t_L_showing_ok (x_showing_ok hc hA hq (fun I1 J1 y1 s1 c1 f1 => ?_))
  refine s_law_795 ⟨v1, ⟨by omega, by omega⟩, ?_⟩
  rw [e1]
  refine t_M_showing hc.1 (sl_hm hm f1) (fun h => absurd h hA) (fun _ qa u1 hqa I2 y2 s2 m2 z2 q2 => ?_)
  have w1 : q = qa := (zI_inj (sl_lt31 (m := 208) (by omega) (by decide)) (sl_lt31 (m := 208) (by omega) (by decide))).mp u1
  subst w1
  refine s_law_807 ⟨⟨by omega, by omega⟩, t_M_thrown (s_law_813 ?_)⟩
  rw [z2]
  exact ⟨fun _ => ⟨fun hn => absurd rfl hn, fun _ => ⟨fun _ => sl_go hnx c1 (by omega) m2 q2 (pj_q _ _ _ _ (by decide)) (pj_q _ _ _ _ (by decide)) (by omega) (by omega), fun hn => absurd (by rw [lg_cmp_eq, pj_eq]; exact sl_SW_eq s1 s2) hn⟩⟩, fun hn => absurd rfl hn⟩
theorem o_alike (hm9 : m < 512) (hnx : sl_nx Γ (m + 1) x4 Q) (hc : sl_cl T lg (m + 1) I J) (hm : sl_ms T lg I) (hkc : kc ≤ 62 + m) (hkn : kn ≤ 17654 + 6 * m) (hlt : ¬ ((Int32.ofNat (sk_len Γ)) - 5) < x4) (hvp : vp_in x4 (sk_len Γ)) (v1 : vp_in (x4 + 1) (sk_len Γ)) (v2 : vp_in (x4 + 2) (sk_len Γ)) (v3 : vp_in (x4 + 3) (sk_len Γ)) (v4 : vp_in (x4 + 4) (sk_len Γ)) (ho : ((sk_xs Γ x4.toNatClampNeg) &&& 31) = 12) : sk_W Γ m_law 1101 25936 23 [(0, .ref sk_scr), (1, .ref 0), (2, .ref 41), (3, .ref 61), (4, .int x4)] [] sk_gg I J kc kn Q := by
  by_cases hA : sl_nf T (sk_xs Γ (x4 + 1).toNatClampNeg)
  · refine s_op_12 (c9 := 1) (s9 := 6) hlt hvp ho ⟨v1, ⟨by omega, by omega⟩, t_L_alike_bad (x_alike_bad hc hA ⟨rfl, ?_⟩)⟩
    refine s_law_850 ⟨v1, ⟨by omega, by omega⟩, t_M_alike hc.1 hm (fun _ => ?_) (fun h => absurd hA h)⟩
    exact s_law_862 ⟨⟨by omega, by omega⟩, t_M_thrown (s_law_868 ⟨fun _ => ⟨fun _ => sl_go hnx hc (by omega) (sl_ms_code hm 1) (sl_hq0 1) rfl rfl (by omega) (by omega), fun hz => absurd hz (by decide)⟩, fun hne => absurd (pi_eq _ _ _ _) hne⟩)⟩
  have hF : cF T ≤ 208 := sl_F_le hc.1
  obtain ⟨q, hq, e1⟩ := sl_nf_of hc.1 hA
  rw [e1] at hA
  refine s_op_12 (c9 := 0) (s9 := 0) hlt hvp ho ⟨v1, ⟨by omega, by omega⟩, ?_⟩
  rw [e1]
  refine t_L_alike_ok (x_alike_ok hc hA hq (fun I1 J1 c1 f1 => ?_))
  refine s_law_850 ⟨v1, ⟨by omega, by omega⟩, ?_⟩
  rw [e1]
  refine t_M_alike hc.1 (sl_hm hm f1) (fun h => absurd h hA) (fun _ qa u1 hqa I2 m2 z2 q2 => ?_)
  have w1 : q = qa := (zI_inj (sl_lt31 (m := 208) (by omega) (by decide)) (sl_lt31 (m := 208) (by omega) (by decide))).mp u1
  subst w1
  refine s_law_862 ⟨⟨by omega, by omega⟩, t_M_thrown (s_law_868 ?_)⟩
  rw [z2]
  exact ⟨fun _ => ⟨fun hn => absurd rfl hn, fun _ => ⟨fun _ => sl_go hnx c1 (by omega) m2 q2 (pj_q _ _ _ _ (by decide)) (pj_q _ _ _ _ (by decide)) (by omega) (by omega), fun hn => absurd (by rw [lg_cmp_eq, pj_eq]) hn⟩⟩, fun hn => absurd rfl hn⟩
theorem o_ternary (hm9 : m < 512) (hnx : sl_nx Γ (m + 1) x4 Q) (hc : sl_cl T lg (m + 1) I J) (hm : sl_ms T lg I) (hkc : kc ≤ 62 + m) (hkn : kn ≤ 17654 + 6 * m) (hlt : ¬ ((Int32.ofNat (sk_len Γ)) - 5) < x4) (hvp : vp_in x4 (sk_len Γ)) (v1 : vp_in (x4 + 1) (sk_len Γ)) (v2 : vp_in (x4 + 2) (sk_len Γ)) (v3 : vp_in (x4 + 3) (sk_len Γ)) (v4 : vp_in (x4 + 4) (sk_len Γ)) (ho : ((sk_xs Γ x4.toNatClampNeg) &&& 31) = 13) : sk_W Γ m_law 1101 25936 23 [(0, .ref sk_scr), (1, .ref 0), (2, .ref 41), (3, .ref 61), (4, .int x4)] [] sk_gg I J kc kn Q := by
  by_cases hA : sl_nl T (sk_xs Γ (x4 + 3).toNatClampNeg) ∨ (¬ (sk_xs Γ (x4 + 4).toNatClampNeg) = -1 ∧ sl_nf T (sk_xs Γ (x4 + 4).toNatClampNeg))
  · refine s_op_13 (c9 := 1) (s9 := 6) hlt hvp ho ⟨v1, v2, v3, v4, ⟨by omega, by omega⟩, t_L_ternary_bad (x_ternary_b1 hc hA (Or.inl ⟨rfl, ?_⟩))⟩
    refine s_law_924 ⟨v1, v2, v3, v4, ⟨by omega, by omega⟩, t_M_ternary hc.1 hm (fun _ => ?_) (fun h => absurd hA h) (fun h => absurd hA h)⟩
    exact s_law_954 ⟨⟨by omega, by omega⟩, t_M_thrown (s_law_960 ⟨fun _ => ⟨fun _ => sl_go hnx hc (by omega) (sl_ms_code hm 1) (sl_hq0 1) rfl rfl (by omega) (by omega), fun hz => absurd hz (by decide)⟩, fun hne => absurd (pi_eq _ _ _ _) hne⟩)⟩
  by_cases hB : sl_tB T (sk_xs Γ (x4 + 1).toNatClampNeg) (sk_xs Γ (x4 + 2).toNatClampNeg)
  · refine s_op_13 (c9 := 1) (s9 := 6) hlt hvp ho ⟨v1, v2, v3, v4, ⟨by omega, by omega⟩, t_L_ternary_bad (x_ternary_b2 hc hA hB (Or.inr ⟨rfl, ?_⟩))⟩
    refine s_law_924 ⟨v1, v2, v3, v4, ⟨by omega, by omega⟩, t_M_ternary hc.1 hm (fun h => absurd h hA) (fun _ _ => ?_) (fun _ h => absurd hB h)⟩
    exact s_law_954 ⟨⟨by omega, by omega⟩, t_M_thrown (s_law_960 ⟨fun _ => ⟨fun _ => sl_go hnx hc (by omega) (sl_ms_code hm 2) (sl_hq0 2) rfl rfl (by omega) (by omega), fun hz => absurd hz (by decide)⟩, fun hne => absurd (pi_eq _ _ _ _) hne⟩)⟩
  have hN := hc.1.1
  have hS := sl_S64 hc.1
  have hF : cF T ≤ 208 := sl_F_le hc.1
  obtain ⟨a, ha, e1⟩ := sl_nv_of hc.1 (fun h => hB (Or.inl h))
  obtain ⟨b, hb, e2⟩ := sl_nv_of hc.1 (fun h => hB (Or.inr (Or.inl h)))
  obtain ⟨l, hl, e3⟩ := sl_nl_of hc.1 (fun h => hA (Or.inl h))
  obtain ⟨p, hp, e4⟩ := sl_fi_of hc.1 (fun h => hA (Or.inr h))
  rw [e3, e4] at hA
  rw [e1, e2] at hB
  refine s_op_13 (c9 := 0) (s9 := 0) hlt hvp ho ⟨v1, v2, v3, v4, ⟨by omega, by omega⟩, ?_⟩
  rw [e1, e2, e3, e4]
  refine t_L_ternary_ok (x_ternary_ok hc hA hB ha hb hl hp (fun I1 J1 c1 f1 => ?_))
  refine s_law_924 ⟨v1, v2, v3, v4, ⟨by omega, by omega⟩, ?_⟩
  rw [e1, e2, e3, e4]
  refine t_M_ternary hc.1 (sl_hm hm f1) (fun h => absurd h hA) (fun _ h => absurd h hB) (fun _ _ aa ba la pa u1 u2 u3 u4 haa hba hla hpa _ I2 m2 z2 q2 => ?_)
  have w1 : a = aa := (zI_inj (sl_lt31 (m := 64) (by omega) (by decide)) (sl_lt31 (m := 64) (by omega) (by decide))).mp u1
  have w2 : b = ba := (zI_inj (sl_lt31 (m := 64) (by omega) (by decide)) (sl_lt31 (m := 64) (by omega) (by decide))).mp u2
  have w3 : l = la := (zI_inj (sl_lt31 (m := 26) (by omega) (by decide)) (sl_lt31 (m := 26) (by omega) (by decide))).mp u3
  have w4 : p = pa := sl_pf_inj (by omega) (by omega) u4
  subst w1 w2 w3 w4
  refine s_law_954 ⟨⟨by omega, by omega⟩, t_M_thrown (s_law_960 ?_)⟩
  rw [z2]
  exact ⟨fun _ => ⟨fun hn => absurd rfl hn, fun _ => ⟨fun _ => sl_go hnx c1 (by omega) m2 q2 (pj_q _ _ _ _ (by decide)) (pj_q _ _ _ _ (by decide)) (by omega) (by omega), fun hn => absurd (by rw [lg_cmp_eq, pj_eq]) hn⟩⟩, fun hn => absurd rfl hn⟩
theorem o_cube (hm9 : m < 512) (hnx : sl_nx Γ (m + 1) x4 Q) (hc : sl_cl T lg (m + 1) I J) (hm : sl_ms T lg I) (hkc : kc ≤ 62 + m) (hkn : kn ≤ 17654 + 6 * m) (hlt : ¬ ((Int32.ofNat (sk_len Γ)) - 5) < x4) (hvp : vp_in x4 (sk_len Γ)) (v1 : vp_in (x4 + 1) (sk_len Γ)) (v2 : vp_in (x4 + 2) (sk_len Γ)) (v3 : vp_in (x4 + 3) (sk_len Γ)) (v4 : vp_in (x4 + 4) (sk_len Γ)) (ho : ((sk_xs Γ x4.toNatClampNeg) &&& 31) = 14) : sk_W Γ m_law 1101 25936 23 [(0, .ref sk_scr), (1, .ref 0), (2, .ref 41), (3, .ref 61), (4, .int x4)] [] sk_gg I J kc kn Q := by
  by_cases hA : sl_nf T (sk_xs Γ (x4 + 1).toNatClampNeg)
  · refine s_op_14 (c9 := 1) (s9 := 6) hlt hvp ho ⟨v1, ⟨by omega, by omega⟩, t_L_cube_bad (x_cube_bad hc hA ⟨rfl, ?_⟩)⟩
    refine s_law_998 ⟨v1, ⟨by omega, by omega⟩, t_M_cube hc.1 hm (fun _ => ?_) (fun h => absurd hA h)⟩
    exact s_law_1010 ⟨⟨by omega, by omega⟩, t_M_thrown (s_law_1016 ⟨fun _ => ⟨fun _ => sl_go hnx hc (by omega) (sl_ms_code hm 1) (sl_hq0 1) rfl rfl (by omega) (by omega), fun hz => absurd hz (by decide)⟩, fun hne => absurd (pi_eq _ _ _ _) hne⟩)⟩
  have hF : cF T ≤ 208 := sl_F_le hc.1
  obtain ⟨q, hq, e1⟩ := sl_nf_of hc.1 hA
  rw [e1] at hA
  refine s_op_14 (c9 := 0) (s9 := 0) hlt hvp ho ⟨v1, ⟨by omega, by omega⟩, ?_⟩
  rw [e1]
  refine t_L_cube_ok (x_cube_ok hc hA hq (fun I1 J1 c1 f1 => ?_))
  refine s_law_998 ⟨v1, ⟨by omega, by omega⟩, ?_⟩
  rw [e1]
  refine t_M_cube hc.1 (sl_hm hm f1) (fun h => absurd h hA) (fun _ qa u1 hqa I2 m2 z2 q2 => ?_)
  have w1 : q = qa := (zI_inj (sl_lt31 (m := 208) (by omega) (by decide)) (sl_lt31 (m := 208) (by omega) (by decide))).mp u1
  subst w1
  refine s_law_1010 ⟨⟨by omega, by omega⟩, t_M_thrown (s_law_1016 ?_)⟩
  rw [z2]
  exact ⟨fun _ => ⟨fun hn => absurd rfl hn, fun _ => ⟨fun _ => sl_go hnx c1 (by omega) m2 q2 (pj_q _ _ _ _ (by decide)) (pj_q _ _ _ _ (by decide)) (by omega) (by omega), fun hn => absurd (by rw [lg_cmp_eq, pj_eq]) hn⟩⟩, fun hn => absurd rfl hn⟩
theorem o_packed (hm9 : m < 512) (hnx : sl_nx Γ (m + 1) x4 Q) (hc : sl_cl T lg (m + 1) I J) (hm : sl_ms T lg I) (hkc : kc ≤ 62 + m) (hkn : kn ≤ 17654 + 6 * m) (hlt : ¬ ((Int32.ofNat (sk_len Γ)) - 5) < x4) (hvp : vp_in x4 (sk_len Γ)) (v1 : vp_in (x4 + 1) (sk_len Γ)) (v2 : vp_in (x4 + 2) (sk_len Γ)) (v3 : vp_in (x4 + 3) (sk_len Γ)) (v4 : vp_in (x4 + 4) (sk_len Γ)) (ho : ((sk_xs Γ x4.toNatClampNeg) &&& 31) = 15) : sk_W Γ m_law 1101 25936 23 [(0, .ref sk_scr), (1, .ref 0), (2, .ref 41), (3, .ref 61), (4, .int x4)] [] sk_gg I J kc kn Q := by
  refine s_op_15 hlt hvp ho ⟨v1, ⟨by omega, by omega⟩, x_packed hc (fun I1 J1 c1 f1 => s_law_1053 ⟨v1, ⟨by omega, by omega⟩, t_M_packed hc.1 (sl_hm hm f1) (fun I2 m2 q2 => s_law_1063 ⟨fun _ => ?_, fun hn => absurd rfl hn⟩)⟩)⟩
  exact sl_go hnx c1 (by omega) m2 q2 rfl rfl (by omega) (by omega)
theorem o_log (hm9 : m < 512) (hnx : sl_nx Γ (m + 1) x4 Q) (hc : sl_cl T lg (m + 1) I J) (hm : sl_ms T lg I) (hkc : kc ≤ 62 + m) (hkn : kn ≤ 17654 + 6 * m) (hlt : ¬ ((Int32.ofNat (sk_len Γ)) - 5) < x4) (hvp : vp_in x4 (sk_len Γ)) (v1 : vp_in (x4 + 1) (sk_len Γ)) (v2 : vp_in (x4 + 2) (sk_len Γ)) (v3 : vp_in (x4 + 3) (sk_len Γ)) (v4 : vp_in (x4 + 4) (sk_len Γ)) (ho : ((sk_xs Γ x4.toNatClampNeg) &&& 31) = 16) : sk_W Γ m_law 1101 25936 23 [(0, .ref sk_scr), (1, .ref 0), (2, .ref 41), (3, .ref 61), (4, .int x4)] [] sk_gg I J kc kn Q := by
  have hlg := hc.2.2.2.2.1.2.1
  by_cases hA : sl_nv T (sk_xs Γ (x4 + 1).toNatClampNeg)
  · refine s_op_16 (c9 := 1) (s9 := 6) hlt hvp ho ⟨v1, v2, ⟨by omega, by omega⟩, t_L_log_bad (x_log_b1 hc hA (Or.inl ⟨rfl, ?_⟩))⟩
    refine s_law_1085 ⟨v1, v2, ⟨by omega, by omega⟩, t_M_log hc.1 hm hlg (fun _ => ?_) (fun h => absurd hA h) (fun h => absurd hA h) (fun h => absurd hA h)⟩
    exact s_law_1103 ⟨⟨by omega, by omega⟩, t_M_thrown (s_law_1109 ⟨fun _ => ⟨fun _ => sl_go hnx hc (by omega) (sl_ms_code hm 1) (sl_hq0 1) rfl rfl (by omega) (by omega), fun hz => absurd hz (by decide)⟩, fun hne => absurd (pi_eq _ _ _ _) hne⟩)⟩
  by_cases hB : (sk_xs Γ (x4 + 2).toNatClampNeg) < 0 ∨ 4095 < (sk_xs Γ (x4 + 2).toNatClampNeg)
  · refine s_op_16 (c9 := 1) (s9 := 6) hlt hvp ho ⟨v1, v2, ⟨by omega, by omega⟩, t_L_log_bad (x_log_b2 hc hA hB (Or.inr (Or.inl ⟨rfl, ?_⟩)))⟩
    refine s_law_1085 ⟨v1, v2, ⟨by omega, by omega⟩, t_M_log hc.1 hm hlg (fun h => absurd h hA) (fun _ _ => ?_) (fun _ h => absurd hB h) (fun _ h => absurd hB h)⟩
    exact s_law_1103 ⟨⟨by omega, by omega⟩, t_M_thrown (s_law_1109 ⟨fun _ => ⟨fun _ => sl_go hnx hc (by omega) (sl_ms_code hm 2) (sl_hq0 2) rfl rfl (by omega) (by omega), fun hz => absurd hz (by decide)⟩, fun hne => absurd (pi_eq _ _ _ _) hne⟩)⟩
  by_cases hC : lg.length = 16
  · refine s_op_16 (c9 := 1) (s9 := 6) hlt hvp ho ⟨v1, v2, ⟨by omega, by omega⟩, t_L_log_bad (x_log_b3 hc hA hB hC (Or.inr (Or.inr ⟨rfl, ?_⟩)))⟩
    refine s_law_1085 ⟨v1, v2, ⟨by omega, by omega⟩, t_M_log hc.1 hm hlg (fun h => absurd h hA) (fun _ h => absurd h hB) (fun _ _ _ => ?_) (fun _ _ _ _ _ _ _ _ hl16 => absurd hC (by omega))⟩
    exact s_law_1103 ⟨⟨by omega, by omega⟩, t_M_thrown (s_law_1109 ⟨fun _ => ⟨fun _ => sl_go hnx hc (by omega) (sl_ms_code hm 3) (sl_hq0 3) rfl rfl (by omega) (by omega), fun hz => absurd hz (by decide)⟩, fun hne => absurd (pi_eq _ _ _ _) hne⟩)⟩
  have hS := sl_S64 hc.1
  obtain ⟨v, hv, e1⟩ := sl_nv_of hc.1 hA
  obtain ⟨r, hr31, e2⟩ := zI_of (fun h => hB (Or.inl h))
  rw [e1] at hA
  rw [e2] at hB
  have hr : r < 4096 := by
    have : ¬ 4095 < nI r := fun h => hB (Or.inr h)
    rw [show (4095 : Int32) = nI 4095 by decide +kernel, zI_lt (by decide) hr31] at this
    omega
  refine s_op_16 (c9 := 0) (s9 := 0) hlt hvp ho ⟨v1, v2, ⟨by omega, by omega⟩, ?_⟩
  rw [e1, e2]
  refine t_L_log_ok (x_log_ok hc hA hB (by omega) hv hr (fun I1 c1 f1 => ?_))
  refine s_law_1085 ⟨v1, v2, ⟨by omega, by omega⟩, ?_⟩
  rw [e1, e2]
  refine t_M_log hc.1 (sl_hm hm f1) hlg (fun h => absurd h hA) (fun _ h => absurd h hB) (fun _ _ h => absurd h hC) (fun _ _ va ra u1 u2 hva hra _ I2 m2 z2 q2 => ?_)
  have w1 : v = va := (zI_inj (sl_lt31 (m := 64) (by omega) (by decide)) (sl_lt31 (m := 64) (by omega) (by decide))).mp u1
  have w2 : r = ra := (zI_inj hr31 (sl_lt31 (m := 4096) (by omega) (by decide))).mp u2
  subst w1 w2
  refine s_law_1103 ⟨⟨by omega, by omega⟩, t_M_thrown (s_law_1109 ?_)⟩
  rw [z2]
  exact ⟨fun _ => ⟨fun hn => absurd rfl hn, fun _ => ⟨fun _ => sl_go hnx c1 (by omega) m2 q2 (pj_q _ _ _ _ (by decide)) (pj_q _ _ _ _ (by decide)) (by omega) (by omega), fun hn => absurd (by rw [lg_cmp_eq, pj_eq]) hn⟩⟩, fun hn => absurd rfl hn⟩
theorem o_forget (hm9 : m < 512) (hnx : sl_nx Γ (m + 1) x4 Q) (hc : sl_cl T lg (m + 1) I J) (hm : sl_ms T lg I) (hkc : kc ≤ 62 + m) (hkn : kn ≤ 17654 + 6 * m) (hlt : ¬ ((Int32.ofNat (sk_len Γ)) - 5) < x4) (hvp : vp_in x4 (sk_len Γ)) (v1 : vp_in (x4 + 1) (sk_len Γ)) (v2 : vp_in (x4 + 2) (sk_len Γ)) (v3 : vp_in (x4 + 3) (sk_len Γ)) (v4 : vp_in (x4 + 4) (sk_len Γ)) (ho : ((sk_xs Γ x4.toNatClampNeg) &&& 31) = 17) : sk_W Γ m_law 1101 25936 23 [(0, .ref sk_scr), (1, .ref 0), (2, .ref 41), (3, .ref 61), (4, .int x4)] [] sk_gg I J kc kn Q := by
  refine s_op_17 hlt hvp ho ⟨⟨by omega, by omega⟩, x_forget hc (fun I1 c1 f1 => s_law_1140 ⟨⟨by omega, by omega⟩, t_M_forget (sl_hm hm f1) (fun I2 m2 q2 => s_law_1144 ⟨fun _ => ?_, fun hn => absurd rfl hn⟩)⟩)⟩
  exact sl_go hnx c1 (by omega) m2 q2 rfl rfl (by omega) (by omega)
theorem o_explains (hm9 : m < 512) (hnx : sl_nx Γ (m + 1) x4 Q) (hc : sl_cl T lg (m + 1) I J) (hm : sl_ms T lg I) (hkc : kc ≤ 62 + m) (hkn : kn ≤ 17654 + 6 * m) (hlt : ¬ ((Int32.ofNat (sk_len Γ)) - 5) < x4) (hvp : vp_in x4 (sk_len Γ)) (v1 : vp_in (x4 + 1) (sk_len Γ)) (v2 : vp_in (x4 + 2) (sk_len Γ)) (v3 : vp_in (x4 + 3) (sk_len Γ)) (v4 : vp_in (x4 + 4) (sk_len Γ)) (ho : ((sk_xs Γ x4.toNatClampNeg) &&& 31) = 18) : sk_W Γ m_law 1101 25936 23 [(0, .ref sk_scr), (1, .ref 0), (2, .ref 41), (3, .ref 61), (4, .int x4)] [] sk_gg I J kc kn Q := by
  have hlg := hc.2.2.2.2.1
  refine s_op_18 hlt hvp ho ⟨v1, ⟨by omega, by omega⟩, x_explains hc (fun I1 J1 c1 f1 => s_law_1159 ⟨v1, ⟨by omega, by omega⟩, t_M_explains hc.1 (sl_hm hm f1) hlg.2.1 hlg.2.2.1 (fun I2 m2 q2 => s_law_1169 ⟨fun _ => ?_, fun hn => absurd rfl hn⟩)⟩)⟩
  exact sl_go hnx c1 (by omega) m2 q2 rfl rfl (by omega) (by omega)
end LW
