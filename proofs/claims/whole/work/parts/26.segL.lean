/-! the law: segments, printed by wip/whole/gen_law.py -/
theorem sk_swOut19 {x : Int32} (h0 : ¬ x = 0) (h1 : ¬ x = 1) (h2 : ¬ x = 2) (h3 : ¬ x = 3) (h4 : ¬ x = 4) (h5 : ¬ x = 5) (h6 : ¬ x = 6) (h7 : ¬ x = 7) (h8 : ¬ x = 8) (h9 : ¬ x = 9) (h10 : ¬ x = 10) (h11 : ¬ x = 11) (h12 : ¬ x = 12) (h13 : ¬ x = 13) (h14 : ¬ x = 14) (h15 : ¬ x = 15) (h16 : ¬ x = 16) (h17 : ¬ x = 17) (h18 : ¬ x = 18) : x.toInt < 0 ∨ 18 < x.toInt := by
  have key : ∀ k : Int32, x.toInt = k.toInt → x = k := fun k h => Int32.toInt_inj.mp h
  by_cases hx : x.toInt < 0 ∨ 18 < x.toInt
  · exact hx
  · exfalso
    have h : x.toInt = 0 ∨ x.toInt = 1 ∨ x.toInt = 2 ∨ x.toInt = 3 ∨ x.toInt = 4 ∨ x.toInt = 5 ∨ x.toInt = 6 ∨ x.toInt = 7 ∨ x.toInt = 8 ∨ x.toInt = 9 ∨ x.toInt = 10 ∨ x.toInt = 11 ∨ x.toInt = 12 ∨ x.toInt = 13 ∨ x.toInt = 14 ∨ x.toInt = 15 ∨ x.toInt = 16 ∨ x.toInt = 17 ∨ x.toInt = 18 := by omega
    rcases h with h | h | h | h | h | h | h | h | h | h | h | h | h | h | h | h | h | h | h
    · exact h0 (key 0 (by rw [h]; rfl))
    · exact h1 (key 1 (by rw [h]; rfl))
    · exact h2 (key 2 (by rw [h]; rfl))
    · exact h3 (key 3 (by rw [h]; rfl))
    · exact h4 (key 4 (by rw [h]; rfl))
    · exact h5 (key 5 (by rw [h]; rfl))
    · exact h6 (key 6 (by rw [h]; rfl))
    · exact h7 (key 7 (by rw [h]; rfl))
    · exact h8 (key 8 (by rw [h]; rfl))
    · exact h9 (key 9 (by rw [h]; rfl))
    · exact h10 (key 10 (by rw [h]; rfl))
    · exact h11 (key 11 (by rw [h]; rfl))
    · exact h12 (key 12 (by rw [h]; rfl))
    · exact h13 (key 13 (by rw [h]; rfl))
    · exact h14 (key 14 (by rw [h]; rfl))
    · exact h15 (key 15 (by rw [h]; rfl))
    · exact h16 (key 16 (by rw [h]; rfl))
    · exact h17 (key 17 (by rw [h]; rfl))
    · exact h18 (key 18 (by rw [h]; rfl))
theorem s_law_20 {Γ : sk_T} {I : sk_I} {J : sk_J} {Q : sk_Q}  {kc kn : Nat} (h : sk_W Γ m_law 1101 25936 23 [(0, .ref sk_scr), (1, .ref 0), (2, .ref 41), (3, .ref 61), (4, .int 0)] [] sk_gg I J kc kn Q) : sk_W Γ m_law 1101 25936 20 [(0, .ref sk_scr), (1, .ref 0), (2, .ref 41), (3, .ref 61)] [] sk_gg I J kc kn Q := by
  refine sk_iconst (v := 0) d_law_20 (by decide) ?_
  refine sk_istore d_law_21 (by decide) rfl ?_
  refine sk_loc [1, 2, 3, 4, 0] rfl ?_
  exact h
theorem s_law_23 {Γ : sk_T} {I : sk_I} {J : sk_J} {Q : sk_Q} {x4 : Int32} {kc kn : Nat} {c9 s9 : Nat} (h : (((Int32.ofNat (sk_len Γ)) - 5) < x4 → (kc ≤ 1101 ∧ kn ≤ 25936) ∧ Q (.inl (some (.int 1))) sk_gg I J) ∧ (¬ ((Int32.ofNat (sk_len Γ)) - 5) < x4 → vp_in x4 (sk_len Γ) ∧ (((sk_xs Γ x4.toNatClampNeg) &&& 31) = 0 → (kc ≤ 1101 ∧ kn ≤ 25936) ∧ sk_S Γ m_X_clear 0 0 (.ref 0 :: []) sk_gg I J (sk_Kv fun I' J' => sk_W Γ m_law 1101 25936 132 [(0, .ref sk_scr), (1, .ref 0), (2, .ref 41), (3, .ref 61), (4, .int x4)] [] sk_gg I' J' kc kn Q)) ∧ (((sk_xs Γ x4.toNatClampNeg) &&& 31) = 1 → vp_in (x4 + 1) (sk_len Γ) ∧ ((sk_xs Γ (x4 + 1).toNatClampNeg) = 0 → (kc + c9 ≤ 1101 ∧ kn + s9 ≤ 25936) ∧ sk_S Γ m_L_source c9 s9 [.ref 0, .int 0, .ref 61] sk_gg I J (sk_Ki fun v' I' J' => sk_W Γ m_law 1101 25936 158 [(0, .ref sk_scr), (1, .ref 0), (2, .ref 41), (3, .ref 61), (4, .int x4)] [.int v'] sk_gg I' J' (kc + c9) (kn + s9) Q)) ∧ (¬ (sk_xs Γ (x4 + 1).toNatClampNeg) = 0 → (kc + c9 ≤ 1101 ∧ kn + s9 ≤ 25936) ∧ sk_S Γ m_L_source c9 s9 [.ref 0, .int 1, .ref 61] sk_gg I J (sk_Ki fun v' I' J' => sk_W Γ m_law 1101 25936 158 [(0, .ref sk_scr), (1, .ref 0), (2, .ref 41), (3, .ref 61), (4, .int x4)] [.int v'] sk_gg I' J' (kc + c9) (kn + s9) Q))) ∧ (((sk_xs Γ x4.toNatClampNeg) &&& 31) = 2 → vp_in (x4 + 1) (sk_len Γ) ∧ vp_in (x4 + 2) (sk_len Γ) ∧ vp_in (x4 + 3) (sk_len Γ) ∧ vp_in (x4 + 4) (sk_len Γ) ∧ (kc + c9 ≤ 1101 ∧ kn + s9 ≤ 25936) ∧ sk_S Γ m_L_gate c9 s9 [.ref 0, .int (sk_xs Γ (x4 + 1).toNatClampNeg), .int (sk_xs Γ (x4 + 2).toNatClampNeg), .int (sk_xs Γ (x4 + 3).toNatClampNeg), .int (sk_xs Γ (x4 + 4).toNatClampNeg), .ref 61] sk_gg I J (sk_Ki fun v' I' J' => sk_W Γ m_law 1101 25936 240 [(0, .ref sk_scr), (1, .ref 0), (2, .ref 41), (3, .ref 61), (4, .int x4)] [.int v'] sk_gg I' J' (kc + c9) (kn + s9) Q)) ∧ (((sk_xs Γ x4.toNatClampNeg) &&& 31) = 3 → vp_in (x4 + 1) (sk_len Γ) ∧ (kc + c9 ≤ 1101 ∧ kn + s9 ≤ 25936) ∧ sk_S Γ m_L_output c9 s9 [.ref 0, .int (sk_xs Γ (x4 + 1).toNatClampNeg), .ref 61] sk_gg I J (sk_Ki fun v' I' J' => sk_W Γ m_law 1101 25936 314 [(0, .ref sk_scr), (1, .ref 0), (2, .ref 41), (3, .ref 61), (4, .int x4)] [.int v'] sk_gg I' J' (kc + c9) (kn + s9) Q)) ∧ (((sk_xs Γ x4.toNatClampNeg) &&& 31) = 4 → vp_in (x4 + 1) (sk_len Γ) ∧ vp_in (x4 + 2) (sk_len Γ) ∧ (kc + c9 ≤ 1101 ∧ kn + s9 ≤ 25936) ∧ sk_S Γ m_L_data c9 s9 [.ref 0, .int (sk_xs Γ (x4 + 1).toNatClampNeg), .int (sk_xs Γ (x4 + 2).toNatClampNeg)] sk_gg I J (sk_Ki fun v' I' J' => sk_W Γ m_law 1101 25936 375 [(0, .ref sk_scr), (1, .ref 0), (2, .ref 41), (3, .ref 61), (4, .int x4)] [.int v'] sk_gg I' J' (kc + c9) (kn + s9) Q)) ∧ (((sk_xs Γ x4.toNatClampNeg) &&& 31) = 5 → vp_in (x4 + 1) (sk_len Γ) ∧ (kc + c9 ≤ 1101 ∧ kn + s9 ≤ 25936) ∧ sk_S Γ m_L_count c9 s9 [.ref 0, .int (sk_xs Γ (x4 + 1).toNatClampNeg), .ref 61] sk_gg I J (sk_Ki fun v' I' J' => sk_W Γ m_law 1101 25936 418 [(0, .ref sk_scr), (1, .ref 0), (2, .ref 41), (3, .ref 61), (4, .int x4)] [.int v'] sk_gg I' J' (kc + c9) (kn + s9) Q)) ∧ (((sk_xs Γ x4.toNatClampNeg) &&& 31) = 6 → vp_in (x4 + 1) (sk_len Γ) ∧ vp_in (x4 + 2) (sk_len Γ) ∧ vp_in (x4 + 3) (sk_len Γ) ∧ (kc + c9 ≤ 1101 ∧ kn + s9 ≤ 25936) ∧ sk_S Γ m_L_value c9 s9 [.ref 0, .int (sk_xs Γ (x4 + 1).toNatClampNeg), .int (sk_xs Γ (x4 + 2).toNatClampNeg), .int (sk_xs Γ (x4 + 3).toNatClampNeg), .ref 61] sk_gg I J (sk_Ki fun v' I' J' => sk_W Γ m_law 1101 25936 486 [(0, .ref sk_scr), (1, .ref 0), (2, .ref 41), (3, .ref 61), (4, .int x4)] [.int v'] sk_gg I' J' (kc + c9) (kn + s9) Q)) ∧ (((sk_xs Γ x4.toNatClampNeg) &&& 31) = 7 → vp_in (x4 + 1) (sk_len Γ) ∧ vp_in (x4 + 2) (sk_len Γ) ∧ (kc + c9 ≤ 1101 ∧ kn + s9 ≤ 25936) ∧ sk_S Γ m_L_response c9 s9 [.ref 0, .int (sk_xs Γ (x4 + 1).toNatClampNeg), .int (sk_xs Γ (x4 + 2).toNatClampNeg), .ref 61] sk_gg I J (sk_Ki fun v' I' J' => sk_W Γ m_law 1101 25936 560 [(0, .ref sk_scr), (1, .ref 0), (2, .ref 41), (3, .ref 61), (4, .int x4)] [.int v'] sk_gg I' J' (kc + c9) (kn + s9) Q)) ∧ (((sk_xs Γ x4.toNatClampNeg) &&& 31) = 8 → vp_in (x4 + 1) (sk_len Γ) ∧ vp_in (x4 + 2) (sk_len Γ) ∧ vp_in (x4 + 3) (sk_len Γ) ∧ (kc ≤ 1101 ∧ kn ≤ 25936) ∧ sk_S Γ m_X_fault 0 0 (.ref 0 :: [.int (sk_xs Γ (x4 + 1).toNatClampNeg), .int (sk_xs Γ (x4 + 2).toNatClampNeg), .int (sk_xs Γ (x4 + 3).toNatClampNeg)]) sk_gg I J (sk_Ki fun v' I' J' => sk_W Γ m_law 1101 25936 633 [(0, .ref sk_scr), (1, .ref 0), (2, .ref 41), (3, .ref 61), (4, .int x4)] [.int v'] sk_gg I' J' kc kn Q)) ∧ (((sk_xs Γ x4.toNatClampNeg) &&& 31) = 9 → vp_in (x4 + 1) (sk_len Γ) ∧ vp_in (x4 + 2) (sk_len Γ) ∧ (kc + c9 ≤ 1101 ∧ kn + s9 ≤ 25936) ∧ sk_S Γ m_L_faultAt c9 s9 [.ref 0, .int (sk_xs Γ (x4 + 1).toNatClampNeg), .int (sk_xs Γ (x4 + 2).toNatClampNeg), .ref 61] sk_gg I J (sk_Ki fun v' I' J' => sk_W Γ m_law 1101 25936 677 [(0, .ref sk_scr), (1, .ref 0), (2, .ref 41), (3, .ref 61), (4, .int x4)] [.int v'] sk_gg I' J' (kc + c9) (kn + s9) Q)) ∧ (((sk_xs Γ x4.toNatClampNeg) &&& 31) = 10 → vp_in (x4 + 1) (sk_len Γ) ∧ (kc + c9 ≤ 1101 ∧ kn + s9 ≤ 25936) ∧ sk_S Γ m_L_least c9 s9 [.ref 0, .int (sk_xs Γ (x4 + 1).toNatClampNeg), .ref 61] sk_gg I J (sk_Ki fun v' I' J' => sk_W Γ m_law 1101 25936 739 [(0, .ref sk_scr), (1, .ref 0), (2, .ref 41), (3, .ref 61), (4, .int x4)] [.int v'] sk_gg I' J' (kc + c9) (kn + s9) Q)) ∧ (((sk_xs Γ x4.toNatClampNeg) &&& 31) = 11 → vp_in (x4 + 1) (sk_len Γ) ∧ (kc + c9 ≤ 1101 ∧ kn + s9 ≤ 25936) ∧ sk_S Γ m_L_showing c9 s9 [.ref 0, .int (sk_xs Γ (x4 + 1).toNatClampNeg), .ref 61] sk_gg I J (sk_Ki fun v' I' J' => sk_W Γ m_law 1101 25936 795 [(0, .ref sk_scr), (1, .ref 0), (2, .ref 41), (3, .ref 61), (4, .int x4)] [.int v'] sk_gg I' J' (kc + c9) (kn + s9) Q)) ∧ (((sk_xs Γ x4.toNatClampNeg) &&& 31) = 12 → vp_in (x4 + 1) (sk_len Γ) ∧ (kc + c9 ≤ 1101 ∧ kn + s9 ≤ 25936) ∧ sk_S Γ m_L_alike c9 s9 [.ref 0, .int (sk_xs Γ (x4 + 1).toNatClampNeg), .ref 61] sk_gg I J (sk_Ki fun v' I' J' => sk_W Γ m_law 1101 25936 850 [(0, .ref sk_scr), (1, .ref 0), (2, .ref 41), (3, .ref 61), (4, .int x4)] [.int v'] sk_gg I' J' (kc + c9) (kn + s9) Q)) ∧ (((sk_xs Γ x4.toNatClampNeg) &&& 31) = 13 → vp_in (x4 + 1) (sk_len Γ) ∧ vp_in (x4 + 2) (sk_len Γ) ∧ vp_in (x4 + 3) (sk_len Γ) ∧ vp_in (x4 + 4) (sk_len Γ) ∧ (kc + c9 ≤ 1101 ∧ kn + s9 ≤ 25936) ∧ sk_S Γ m_L_ternary c9 s9 [.ref 0, .int (sk_xs Γ (x4 + 1).toNatClampNeg), .int (sk_xs Γ (x4 + 2).toNatClampNeg), .int (sk_xs Γ (x4 + 3).toNatClampNeg), .int (sk_xs Γ (x4 + 4).toNatClampNeg), .ref 61] sk_gg I J (sk_Ki fun v' I' J' => sk_W Γ m_law 1101 25936 924 [(0, .ref sk_scr), (1, .ref 0), (2, .ref 41), (3, .ref 61), (4, .int x4)] [.int v'] sk_gg I' J' (kc + c9) (kn + s9) Q)) ∧ (((sk_xs Γ x4.toNatClampNeg) &&& 31) = 14 → vp_in (x4 + 1) (sk_len Γ) ∧ (kc + c9 ≤ 1101 ∧ kn + s9 ≤ 25936) ∧ sk_S Γ m_L_cube c9 s9 [.ref 0, .int (sk_xs Γ (x4 + 1).toNatClampNeg), .ref 61] sk_gg I J (sk_Ki fun v' I' J' => sk_W Γ m_law 1101 25936 998 [(0, .ref sk_scr), (1, .ref 0), (2, .ref 41), (3, .ref 61), (4, .int x4)] [.int v'] sk_gg I' J' (kc + c9) (kn + s9) Q)) ∧ (((sk_xs Γ x4.toNatClampNeg) &&& 31) = 15 → vp_in (x4 + 1) (sk_len Γ) ∧ (kc ≤ 1101 ∧ kn ≤ 25936) ∧ sk_S Γ m_X_packed 0 0 (.ref 0 :: [.int (sk_xs Γ (x4 + 1).toNatClampNeg)]) sk_gg I J (sk_Ki fun v' I' J' => sk_W Γ m_law 1101 25936 1053 [(0, .ref sk_scr), (1, .ref 0), (2, .ref 41), (3, .ref 61), (4, .int x4)] [.int v'] sk_gg I' J' kc kn Q)) ∧ (((sk_xs Γ x4.toNatClampNeg) &&& 31) = 16 → vp_in (x4 + 1) (sk_len Γ) ∧ vp_in (x4 + 2) (sk_len Γ) ∧ (kc + c9 ≤ 1101 ∧ kn + s9 ≤ 25936) ∧ sk_S Γ m_L_log c9 s9 [.ref 0, .int (sk_xs Γ (x4 + 1).toNatClampNeg), .int (sk_xs Γ (x4 + 2).toNatClampNeg), .ref 61] sk_gg I J (sk_Ki fun v' I' J' => sk_W Γ m_law 1101 25936 1085 [(0, .ref sk_scr), (1, .ref 0), (2, .ref 41), (3, .ref 61), (4, .int x4)] [.int v'] sk_gg I' J' (kc + c9) (kn + s9) Q)) ∧ (((sk_xs Γ x4.toNatClampNeg) &&& 31) = 17 → (kc ≤ 1101 ∧ kn ≤ 25936) ∧ sk_S Γ m_X_forget 0 0 (.ref 0 :: []) sk_gg I J (sk_Ki fun v' I' J' => sk_W Γ m_law 1101 25936 1140 [(0, .ref sk_scr), (1, .ref 0), (2, .ref 41), (3, .ref 61), (4, .int x4)] [.int v'] sk_gg I' J' kc kn Q)) ∧ (((sk_xs Γ x4.toNatClampNeg) &&& 31) = 18 → vp_in (x4 + 1) (sk_len Γ) ∧ (kc ≤ 1101 ∧ kn ≤ 25936) ∧ sk_S Γ m_X_explains 0 0 (.ref 0 :: [.int (sk_xs Γ (x4 + 1).toNatClampNeg)]) sk_gg I J (sk_Ki fun v' I' J' => sk_W Γ m_law 1101 25936 1159 [(0, .ref sk_scr), (1, .ref 0), (2, .ref 41), (3, .ref 61), (4, .int x4)] [.int v'] sk_gg I' J' kc kn Q)) ∧ (¬ ((sk_xs Γ x4.toNatClampNeg) &&& 31) = 0 → ¬ ((sk_xs Γ x4.toNatClampNeg) &&& 31) = 1 → ¬ ((sk_xs Γ x4.toNatClampNeg) &&& 31) = 2 → ¬ ((sk_xs Γ x4.toNatClampNeg) &&& 31) = 3 → ¬ ((sk_xs Γ x4.toNatClampNeg) &&& 31) = 4 → ¬ ((sk_xs Γ x4.toNatClampNeg) &&& 31) = 5 → ¬ ((sk_xs Γ x4.toNatClampNeg) &&& 31) = 6 → ¬ ((sk_xs Γ x4.toNatClampNeg) &&& 31) = 7 → ¬ ((sk_xs Γ x4.toNatClampNeg) &&& 31) = 8 → ¬ ((sk_xs Γ x4.toNatClampNeg) &&& 31) = 9 → ¬ ((sk_xs Γ x4.toNatClampNeg) &&& 31) = 10 → ¬ ((sk_xs Γ x4.toNatClampNeg) &&& 31) = 11 → ¬ ((sk_xs Γ x4.toNatClampNeg) &&& 31) = 12 → ¬ ((sk_xs Γ x4.toNatClampNeg) &&& 31) = 13 → ¬ ((sk_xs Γ x4.toNatClampNeg) &&& 31) = 14 → ¬ ((sk_xs Γ x4.toNatClampNeg) &&& 31) = 15 → ¬ ((sk_xs Γ x4.toNatClampNeg) &&& 31) = 16 → ¬ ((sk_xs Γ x4.toNatClampNeg) &&& 31) = 17 → ¬ ((sk_xs Γ x4.toNatClampNeg) &&& 31) = 18 → sk_W Γ m_law 1101 25936 23 [(0, .ref sk_scr), (1, .ref 0), (2, .ref 41), (3, .ref 61), (4, .int (x4 + 5))] [] sk_gg I J kc kn Q))) : sk_W Γ m_law 1101 25936 23 [(0, .ref sk_scr), (1, .ref 0), (2, .ref 41), (3, .ref 61), (4, .int x4)] [] sk_gg I J kc kn Q := by
  refine sk_iload (j := 4) d_law_23 rfl ?_
  refine sk_aload_n (j := 0) d_law_25 rfl rfl ?_
  refine sk_slen d_law_26 ?_
  refine sk_iconst (v := 5) d_law_27 (by decide) ?_
  refine sk_isub d_law_28 ?_
  refine sk_icmp_gt (tgt := 1180) d_law_29 (by decide) (fun hc => ?_) (fun hc => ?_)
  · replace h := h.1 hc
    refine sk_iconst (v := 1) d_law_1180 (by decide) ?_
    exact q_zreturn d_law_1181 rfl (by decide) h.1.1 h.1.2 h.2
  · replace h := h.2 hc
    refine sk_aload_n (j := 0) d_law_32 rfl rfl ?_
    refine sk_iload (j := 4) d_law_33 rfl ?_
    obtain ⟨hb, h⟩ := h
    refine sk_sald d_law_35 hb ?_
    refine sk_bipush (v := 31) d_law_36 (by decide) ?_
    refine sk_iand d_law_38 ?_
    by_cases hc0 : ((sk_xs Γ x4.toNatClampNeg) &&& 31) = 0
    · replace h := h.1 hc0
      rw [hc0]
      refine sk_tableIn (tgt := 128) (off := 89) d_law_39 (by decide) (by decide) rfl (by decide) ?_
      refine sk_aload_n (j := 1) d_law_128 rfl rfl ?_
      exact q_callVv (S := []) (as := []) d_law_129 lk_L_68 sh_0 ⟨_, rfl⟩ rfl ⟨by decide, by decide⟩ (Nat.le_of_ble_eq_true rfl) rfl h.1.1 h.1.2 h.2
    by_cases hc1 : ((sk_xs Γ x4.toNatClampNeg) &&& 31) = 1
    · replace h := h.2.1 hc1
      rw [hc1]
      refine sk_tableIn (tgt := 139) (off := 100) d_law_39 (by decide) (by decide) rfl (by decide) ?_
      refine sk_aload_n (j := 1) d_law_139 rfl rfl ?_
      refine sk_aload_n (j := 0) d_law_140 rfl rfl ?_
      refine sk_iload (j := 4) d_law_141 rfl ?_
      refine sk_iconst (v := 1) d_law_143 (by decide) ?_
      refine sk_iadd d_law_144 ?_
      obtain ⟨hb, h⟩ := h
      refine sk_sald d_law_145 hb ?_
      refine sk_if_eq (tgt := 153) d_law_146 (by decide) (fun hc => ?_) (fun hc => ?_)
      · replace h := h.1 hc
        refine sk_iconst (v := 0) d_law_153 (by decide) ?_
        refine sk_aload_n (j := 3) d_law_154 rfl rfl ?_
        exact q_callSi (S := []) (as := [.ref 0, .int 0, .ref 61]) d_law_155 lk_L_72 rfl ⟨by decide, by decide⟩ (Nat.le_of_ble_eq_true rfl) rfl h.1 h.2
      · replace h := h.2 hc
        refine sk_iconst (v := 1) d_law_149 (by decide) ?_
        refine sk_goto (tgt := 154) d_law_150 (by decide) ?_
        refine sk_aload_n (j := 3) d_law_154 rfl rfl ?_
        exact q_callSi (S := []) (as := [.ref 0, .int 1, .ref 61]) d_law_155 lk_L_72 rfl ⟨by decide, by decide⟩ (Nat.le_of_ble_eq_true rfl) rfl h.1 h.2
    by_cases hc2 : ((sk_xs Γ x4.toNatClampNeg) &&& 31) = 2
    · replace h := h.2.2.1 hc2
      rw [hc2]
      refine sk_tableIn (tgt := 211) (off := 172) d_law_39 (by decide) (by decide) rfl (by decide) ?_
      refine sk_aload_n (j := 1) d_law_211 rfl rfl ?_
      refine sk_aload_n (j := 0) d_law_212 rfl rfl ?_
      refine sk_iload (j := 4) d_law_213 rfl ?_
      refine sk_iconst (v := 1) d_law_215 (by decide) ?_
      refine sk_iadd d_law_216 ?_
      obtain ⟨hb, h⟩ := h
      refine sk_sald d_law_217 hb ?_
      refine sk_aload_n (j := 0) d_law_218 rfl rfl ?_
      refine sk_iload (j := 4) d_law_219 rfl ?_
      refine sk_iconst (v := 2) d_law_221 (by decide) ?_
      refine sk_iadd d_law_222 ?_
      obtain ⟨hb, h⟩ := h
      refine sk_sald d_law_223 hb ?_
      refine sk_aload_n (j := 0) d_law_224 rfl rfl ?_
      refine sk_iload (j := 4) d_law_225 rfl ?_
      refine sk_iconst (v := 3) d_law_227 (by decide) ?_
      refine sk_iadd d_law_228 ?_
      obtain ⟨hb, h⟩ := h
      refine sk_sald d_law_229 hb ?_
      refine sk_aload_n (j := 0) d_law_230 rfl rfl ?_
      refine sk_iload (j := 4) d_law_231 rfl ?_
      refine sk_iconst (v := 4) d_law_233 (by decide) ?_
      refine sk_iadd d_law_234 ?_
      obtain ⟨hb, h⟩ := h
      refine sk_sald d_law_235 hb ?_
      refine sk_aload_n (j := 3) d_law_236 rfl rfl ?_
      exact q_callSi (S := []) (as := [.ref 0, .int (sk_xs Γ (x4 + 1).toNatClampNeg), .int (sk_xs Γ (x4 + 2).toNatClampNeg), .int (sk_xs Γ (x4 + 3).toNatClampNeg), .int (sk_xs Γ (x4 + 4).toNatClampNeg), .ref 61]) d_law_237 lk_L_82 rfl ⟨by decide, by decide⟩ (Nat.le_of_ble_eq_true rfl) rfl h.1 h.2
    by_cases hc3 : ((sk_xs Γ x4.toNatClampNeg) &&& 31) = 3
    · replace h := h.2.2.2.1 hc3
      rw [hc3]
      refine sk_tableIn (tgt := 303) (off := 264) d_law_39 (by decide) (by decide) rfl (by decide) ?_
      refine sk_aload_n (j := 1) d_law_303 rfl rfl ?_
      refine sk_aload_n (j := 0) d_law_304 rfl rfl ?_
      refine sk_iload (j := 4) d_law_305 rfl ?_
      refine sk_iconst (v := 1) d_law_307 (by decide) ?_
      refine sk_iadd d_law_308 ?_
      obtain ⟨hb, h⟩ := h
      refine sk_sald d_law_309 hb ?_
      refine sk_aload_n (j := 3) d_law_310 rfl rfl ?_
      exact q_callSi (S := []) (as := [.ref 0, .int (sk_xs Γ (x4 + 1).toNatClampNeg), .ref 61]) d_law_311 lk_L_86 rfl ⟨by decide, by decide⟩ (Nat.le_of_ble_eq_true rfl) rfl h.1 h.2
    by_cases hc4 : ((sk_xs Γ x4.toNatClampNeg) &&& 31) = 4
    · replace h := h.2.2.2.2.1 hc4
      rw [hc4]
      refine sk_tableIn (tgt := 359) (off := 320) d_law_39 (by decide) (by decide) rfl (by decide) ?_
      refine sk_aload_n (j := 1) d_law_359 rfl rfl ?_
      refine sk_aload_n (j := 0) d_law_360 rfl rfl ?_
      refine sk_iload (j := 4) d_law_361 rfl ?_
      refine sk_iconst (v := 1) d_law_363 (by decide) ?_
      refine sk_iadd d_law_364 ?_
      obtain ⟨hb, h⟩ := h
      refine sk_sald d_law_365 hb ?_
      refine sk_aload_n (j := 0) d_law_366 rfl rfl ?_
      refine sk_iload (j := 4) d_law_367 rfl ?_
      refine sk_iconst (v := 2) d_law_369 (by decide) ?_
      refine sk_iadd d_law_370 ?_
      obtain ⟨hb, h⟩ := h
      refine sk_sald d_law_371 hb ?_
      exact q_callSi (S := []) (as := [.ref 0, .int (sk_xs Γ (x4 + 1).toNatClampNeg), .int (sk_xs Γ (x4 + 2).toNatClampNeg)]) d_law_372 lk_L_90 rfl ⟨by decide, by decide⟩ (Nat.le_of_ble_eq_true rfl) rfl h.1 h.2
    by_cases hc5 : ((sk_xs Γ x4.toNatClampNeg) &&& 31) = 5
    · replace h := h.2.2.2.2.2.1 hc5
      rw [hc5]
      refine sk_tableIn (tgt := 407) (off := 368) d_law_39 (by decide) (by decide) rfl (by decide) ?_
      refine sk_aload_n (j := 1) d_law_407 rfl rfl ?_
      refine sk_aload_n (j := 0) d_law_408 rfl rfl ?_
      refine sk_iload (j := 4) d_law_409 rfl ?_
      refine sk_iconst (v := 1) d_law_411 (by decide) ?_
      refine sk_iadd d_law_412 ?_
      obtain ⟨hb, h⟩ := h
      refine sk_sald d_law_413 hb ?_
      refine sk_aload_n (j := 3) d_law_414 rfl rfl ?_
      exact q_callSi (S := []) (as := [.ref 0, .int (sk_xs Γ (x4 + 1).toNatClampNeg), .ref 61]) d_law_415 lk_L_94 rfl ⟨by decide, by decide⟩ (Nat.le_of_ble_eq_true rfl) rfl h.1 h.2
    by_cases hc6 : ((sk_xs Γ x4.toNatClampNeg) &&& 31) = 6
    · replace h := h.2.2.2.2.2.2.1 hc6
      rw [hc6]
      refine sk_tableIn (tgt := 463) (off := 424) d_law_39 (by decide) (by decide) rfl (by decide) ?_
      refine sk_aload_n (j := 1) d_law_463 rfl rfl ?_
      refine sk_aload_n (j := 0) d_law_464 rfl rfl ?_
      refine sk_iload (j := 4) d_law_465 rfl ?_
      refine sk_iconst (v := 1) d_law_467 (by decide) ?_
      refine sk_iadd d_law_468 ?_
      obtain ⟨hb, h⟩ := h
      refine sk_sald d_law_469 hb ?_
      refine sk_aload_n (j := 0) d_law_470 rfl rfl ?_
      refine sk_iload (j := 4) d_law_471 rfl ?_
      refine sk_iconst (v := 2) d_law_473 (by decide) ?_
      refine sk_iadd d_law_474 ?_
      obtain ⟨hb, h⟩ := h
      refine sk_sald d_law_475 hb ?_
      refine sk_aload_n (j := 0) d_law_476 rfl rfl ?_
      refine sk_iload (j := 4) d_law_477 rfl ?_
      refine sk_iconst (v := 3) d_law_479 (by decide) ?_
      refine sk_iadd d_law_480 ?_
      obtain ⟨hb, h⟩ := h
      refine sk_sald d_law_481 hb ?_
      refine sk_aload_n (j := 3) d_law_482 rfl rfl ?_
      exact q_callSi (S := []) (as := [.ref 0, .int (sk_xs Γ (x4 + 1).toNatClampNeg), .int (sk_xs Γ (x4 + 2).toNatClampNeg), .int (sk_xs Γ (x4 + 3).toNatClampNeg), .ref 61]) d_law_483 lk_L_97 rfl ⟨by decide, by decide⟩ (Nat.le_of_ble_eq_true rfl) rfl h.1 h.2
    by_cases hc7 : ((sk_xs Γ x4.toNatClampNeg) &&& 31) = 7
    · replace h := h.2.2.2.2.2.2.2.1 hc7
      rw [hc7]
      refine sk_tableIn (tgt := 543) (off := 504) d_law_39 (by decide) (by decide) rfl (by decide) ?_
      refine sk_aload_n (j := 1) d_law_543 rfl rfl ?_
      refine sk_aload_n (j := 0) d_law_544 rfl rfl ?_
      refine sk_iload (j := 4) d_law_545 rfl ?_
      refine sk_iconst (v := 1) d_law_547 (by decide) ?_
      refine sk_iadd d_law_548 ?_
      obtain ⟨hb, h⟩ := h
      refine sk_sald d_law_549 hb ?_
      refine sk_aload_n (j := 0) d_law_550 rfl rfl ?_
      refine sk_iload (j := 4) d_law_551 rfl ?_
      refine sk_iconst (v := 2) d_law_553 (by decide) ?_
      refine sk_iadd d_law_554 ?_
      obtain ⟨hb, h⟩ := h
      refine sk_sald d_law_555 hb ?_
      refine sk_aload_n (j := 3) d_law_556 rfl rfl ?_
      exact q_callSi (S := []) (as := [.ref 0, .int (sk_xs Γ (x4 + 1).toNatClampNeg), .int (sk_xs Γ (x4 + 2).toNatClampNeg), .ref 61]) d_law_557 lk_L_101 rfl ⟨by decide, by decide⟩ (Nat.le_of_ble_eq_true rfl) rfl h.1 h.2
    by_cases hc8 : ((sk_xs Γ x4.toNatClampNeg) &&& 31) = 8
    · replace h := h.2.2.2.2.2.2.2.2.1 hc8
      rw [hc8]
      refine sk_tableIn (tgt := 611) (off := 572) d_law_39 (by decide) (by decide) rfl (by decide) ?_
      refine sk_aload_n (j := 1) d_law_611 rfl rfl ?_
      refine sk_aload_n (j := 0) d_law_612 rfl rfl ?_
      refine sk_iload (j := 4) d_law_613 rfl ?_
      refine sk_iconst (v := 1) d_law_615 (by decide) ?_
      refine sk_iadd d_law_616 ?_
      obtain ⟨hb, h⟩ := h
      refine sk_sald d_law_617 hb ?_
      refine sk_aload_n (j := 0) d_law_618 rfl rfl ?_
      refine sk_iload (j := 4) d_law_619 rfl ?_
      refine sk_iconst (v := 2) d_law_621 (by decide) ?_
      refine sk_iadd d_law_622 ?_
      obtain ⟨hb, h⟩ := h
      refine sk_sald d_law_623 hb ?_
      refine sk_aload_n (j := 0) d_law_624 rfl rfl ?_
      refine sk_iload (j := 4) d_law_625 rfl ?_
      refine sk_iconst (v := 3) d_law_627 (by decide) ?_
      refine sk_iadd d_law_628 ?_
      obtain ⟨hb, h⟩ := h
      refine sk_sald d_law_629 hb ?_
      exact q_callVi (S := []) (as := [.int (sk_xs Γ (x4 + 1).toNatClampNeg), .int (sk_xs Γ (x4 + 2).toNatClampNeg), .int (sk_xs Γ (x4 + 3).toNatClampNeg)]) d_law_630 lk_L_105 sh_0 ⟨_, rfl⟩ rfl ⟨by decide, by decide⟩ (Nat.le_of_ble_eq_true rfl) rfl h.1.1 h.1.2 h.2
    by_cases hc9 : ((sk_xs Γ x4.toNatClampNeg) &&& 31) = 9
    · replace h := h.2.2.2.2.2.2.2.2.2.1 hc9
      rw [hc9]
      refine sk_tableIn (tgt := 660) (off := 621) d_law_39 (by decide) (by decide) rfl (by decide) ?_
      refine sk_aload_n (j := 1) d_law_660 rfl rfl ?_
      refine sk_aload_n (j := 0) d_law_661 rfl rfl ?_
      refine sk_iload (j := 4) d_law_662 rfl ?_
      refine sk_iconst (v := 1) d_law_664 (by decide) ?_
      refine sk_iadd d_law_665 ?_
      obtain ⟨hb, h⟩ := h
      refine sk_sald d_law_666 hb ?_
      refine sk_aload_n (j := 0) d_law_667 rfl rfl ?_
      refine sk_iload (j := 4) d_law_668 rfl ?_
      refine sk_iconst (v := 2) d_law_670 (by decide) ?_
      refine sk_iadd d_law_671 ?_
      obtain ⟨hb, h⟩ := h
      refine sk_sald d_law_672 hb ?_
      refine sk_aload_n (j := 3) d_law_673 rfl rfl ?_
      exact q_callSi (S := []) (as := [.ref 0, .int (sk_xs Γ (x4 + 1).toNatClampNeg), .int (sk_xs Γ (x4 + 2).toNatClampNeg), .ref 61]) d_law_674 lk_L_109 rfl ⟨by decide, by decide⟩ (Nat.le_of_ble_eq_true rfl) rfl h.1 h.2
    by_cases hc10 : ((sk_xs Γ x4.toNatClampNeg) &&& 31) = 10
    · replace h := h.2.2.2.2.2.2.2.2.2.2.1 hc10
      rw [hc10]
      refine sk_tableIn (tgt := 728) (off := 689) d_law_39 (by decide) (by decide) rfl (by decide) ?_
      refine sk_aload_n (j := 1) d_law_728 rfl rfl ?_
      refine sk_aload_n (j := 0) d_law_729 rfl rfl ?_
      refine sk_iload (j := 4) d_law_730 rfl ?_
      refine sk_iconst (v := 1) d_law_732 (by decide) ?_
      refine sk_iadd d_law_733 ?_
      obtain ⟨hb, h⟩ := h
      refine sk_sald d_law_734 hb ?_
      refine sk_aload_n (j := 3) d_law_735 rfl rfl ?_
      exact q_callSi (S := []) (as := [.ref 0, .int (sk_xs Γ (x4 + 1).toNatClampNeg), .ref 61]) d_law_736 lk_L_112 rfl ⟨by decide, by decide⟩ (Nat.le_of_ble_eq_true rfl) rfl h.1 h.2
    by_cases hc11 : ((sk_xs Γ x4.toNatClampNeg) &&& 31) = 11
    · replace h := h.2.2.2.2.2.2.2.2.2.2.2.1 hc11
      rw [hc11]
      refine sk_tableIn (tgt := 784) (off := 745) d_law_39 (by decide) (by decide) rfl (by decide) ?_
      refine sk_aload_n (j := 1) d_law_784 rfl rfl ?_
      refine sk_aload_n (j := 0) d_law_785 rfl rfl ?_
      refine sk_iload (j := 4) d_law_786 rfl ?_
      refine sk_iconst (v := 1) d_law_788 (by decide) ?_
      refine sk_iadd d_law_789 ?_
      obtain ⟨hb, h⟩ := h
      refine sk_sald d_law_790 hb ?_
      refine sk_aload_n (j := 3) d_law_791 rfl rfl ?_
      exact q_callSi (S := []) (as := [.ref 0, .int (sk_xs Γ (x4 + 1).toNatClampNeg), .ref 61]) d_law_792 lk_L_115 rfl ⟨by decide, by decide⟩ (Nat.le_of_ble_eq_true rfl) rfl h.1 h.2
    by_cases hc12 : ((sk_xs Γ x4.toNatClampNeg) &&& 31) = 12
    · replace h := h.2.2.2.2.2.2.2.2.2.2.2.2.1 hc12
      rw [hc12]
      refine sk_tableIn (tgt := 839) (off := 800) d_law_39 (by decide) (by decide) rfl (by decide) ?_
      refine sk_aload_n (j := 1) d_law_839 rfl rfl ?_
      refine sk_aload_n (j := 0) d_law_840 rfl rfl ?_
      refine sk_iload (j := 4) d_law_841 rfl ?_
      refine sk_iconst (v := 1) d_law_843 (by decide) ?_
      refine sk_iadd d_law_844 ?_
      obtain ⟨hb, h⟩ := h
      refine sk_sald d_law_845 hb ?_
      refine sk_aload_n (j := 3) d_law_846 rfl rfl ?_
      exact q_callSi (S := []) (as := [.ref 0, .int (sk_xs Γ (x4 + 1).toNatClampNeg), .ref 61]) d_law_847 lk_L_118 rfl ⟨by decide, by decide⟩ (Nat.le_of_ble_eq_true rfl) rfl h.1 h.2
    by_cases hc13 : ((sk_xs Γ x4.toNatClampNeg) &&& 31) = 13
    · replace h := h.2.2.2.2.2.2.2.2.2.2.2.2.2.1 hc13
      rw [hc13]
      refine sk_tableIn (tgt := 895) (off := 856) d_law_39 (by decide) (by decide) rfl (by decide) ?_
      refine sk_aload_n (j := 1) d_law_895 rfl rfl ?_
      refine sk_aload_n (j := 0) d_law_896 rfl rfl ?_
      refine sk_iload (j := 4) d_law_897 rfl ?_
      refine sk_iconst (v := 1) d_law_899 (by decide) ?_
      refine sk_iadd d_law_900 ?_
      obtain ⟨hb, h⟩ := h
      refine sk_sald d_law_901 hb ?_
      refine sk_aload_n (j := 0) d_law_902 rfl rfl ?_
      refine sk_iload (j := 4) d_law_903 rfl ?_
      refine sk_iconst (v := 2) d_law_905 (by decide) ?_
      refine sk_iadd d_law_906 ?_
      obtain ⟨hb, h⟩ := h
      refine sk_sald d_law_907 hb ?_
      refine sk_aload_n (j := 0) d_law_908 rfl rfl ?_
      refine sk_iload (j := 4) d_law_909 rfl ?_
      refine sk_iconst (v := 3) d_law_911 (by decide) ?_
      refine sk_iadd d_law_912 ?_
      obtain ⟨hb, h⟩ := h
      refine sk_sald d_law_913 hb ?_
      refine sk_aload_n (j := 0) d_law_914 rfl rfl ?_
      refine sk_iload (j := 4) d_law_915 rfl ?_
      refine sk_iconst (v := 4) d_law_917 (by decide) ?_
      refine sk_iadd d_law_918 ?_
      obtain ⟨hb, h⟩ := h
      refine sk_sald d_law_919 hb ?_
      refine sk_aload_n (j := 3) d_law_920 rfl rfl ?_
      exact q_callSi (S := []) (as := [.ref 0, .int (sk_xs Γ (x4 + 1).toNatClampNeg), .int (sk_xs Γ (x4 + 2).toNatClampNeg), .int (sk_xs Γ (x4 + 3).toNatClampNeg), .int (sk_xs Γ (x4 + 4).toNatClampNeg), .ref 61]) d_law_921 lk_L_121 rfl ⟨by decide, by decide⟩ (Nat.le_of_ble_eq_true rfl) rfl h.1 h.2
    by_cases hc14 : ((sk_xs Γ x4.toNatClampNeg) &&& 31) = 14
    · replace h := h.2.2.2.2.2.2.2.2.2.2.2.2.2.2.1 hc14
      rw [hc14]
      refine sk_tableIn (tgt := 987) (off := 948) d_law_39 (by decide) (by decide) rfl (by decide) ?_
      refine sk_aload_n (j := 1) d_law_987 rfl rfl ?_
      refine sk_aload_n (j := 0) d_law_988 rfl rfl ?_
      refine sk_iload (j := 4) d_law_989 rfl ?_
      refine sk_iconst (v := 1) d_law_991 (by decide) ?_
      refine sk_iadd d_law_992 ?_
      obtain ⟨hb, h⟩ := h
      refine sk_sald d_law_993 hb ?_
      refine sk_aload_n (j := 3) d_law_994 rfl rfl ?_
      exact q_callSi (S := []) (as := [.ref 0, .int (sk_xs Γ (x4 + 1).toNatClampNeg), .ref 61]) d_law_995 lk_L_124 rfl ⟨by decide, by decide⟩ (Nat.le_of_ble_eq_true rfl) rfl h.1 h.2
    by_cases hc15 : ((sk_xs Γ x4.toNatClampNeg) &&& 31) = 15
    · replace h := h.2.2.2.2.2.2.2.2.2.2.2.2.2.2.2.1 hc15
      rw [hc15]
      refine sk_tableIn (tgt := 1043) (off := 1004) d_law_39 (by decide) (by decide) rfl (by decide) ?_
      refine sk_aload_n (j := 1) d_law_1043 rfl rfl ?_
      refine sk_aload_n (j := 0) d_law_1044 rfl rfl ?_
      refine sk_iload (j := 4) d_law_1045 rfl ?_
      refine sk_iconst (v := 1) d_law_1047 (by decide) ?_
      refine sk_iadd d_law_1048 ?_
      obtain ⟨hb, h⟩ := h
      refine sk_sald d_law_1049 hb ?_
      exact q_callVi (S := []) (as := [.int (sk_xs Γ (x4 + 1).toNatClampNeg)]) d_law_1050 lk_L_127 sh_0 ⟨_, rfl⟩ rfl ⟨by decide, by decide⟩ (Nat.le_of_ble_eq_true rfl) rfl h.1.1 h.1.2 h.2
    by_cases hc16 : ((sk_xs Γ x4.toNatClampNeg) &&& 31) = 16
    · replace h := h.2.2.2.2.2.2.2.2.2.2.2.2.2.2.2.2.1 hc16
      rw [hc16]
      refine sk_tableIn (tgt := 1068) (off := 1029) d_law_39 (by decide) (by decide) rfl (by decide) ?_
      refine sk_aload_n (j := 1) d_law_1068 rfl rfl ?_
      refine sk_aload_n (j := 0) d_law_1069 rfl rfl ?_
      refine sk_iload (j := 4) d_law_1070 rfl ?_
      refine sk_iconst (v := 1) d_law_1072 (by decide) ?_
      refine sk_iadd d_law_1073 ?_
      obtain ⟨hb, h⟩ := h
      refine sk_sald d_law_1074 hb ?_
      refine sk_aload_n (j := 0) d_law_1075 rfl rfl ?_
      refine sk_iload (j := 4) d_law_1076 rfl ?_
      refine sk_iconst (v := 2) d_law_1078 (by decide) ?_
      refine sk_iadd d_law_1079 ?_
      obtain ⟨hb, h⟩ := h
      refine sk_sald d_law_1080 hb ?_
      refine sk_aload_n (j := 3) d_law_1081 rfl rfl ?_
      exact q_callSi (S := []) (as := [.ref 0, .int (sk_xs Γ (x4 + 1).toNatClampNeg), .int (sk_xs Γ (x4 + 2).toNatClampNeg), .ref 61]) d_law_1082 lk_L_131 rfl ⟨by decide, by decide⟩ (Nat.le_of_ble_eq_true rfl) rfl h.1 h.2
    by_cases hc17 : ((sk_xs Γ x4.toNatClampNeg) &&& 31) = 17
    · replace h := h.2.2.2.2.2.2.2.2.2.2.2.2.2.2.2.2.2.1 hc17
      rw [hc17]
      refine sk_tableIn (tgt := 1136) (off := 1097) d_law_39 (by decide) (by decide) rfl (by decide) ?_
      refine sk_aload_n (j := 1) d_law_1136 rfl rfl ?_
      exact q_callVi (S := []) (as := []) d_law_1137 lk_L_134 sh_0 ⟨_, rfl⟩ rfl ⟨by decide, by decide⟩ (Nat.le_of_ble_eq_true rfl) rfl h.1.1 h.1.2 h.2
    by_cases hc18 : ((sk_xs Γ x4.toNatClampNeg) &&& 31) = 18
    · replace h := h.2.2.2.2.2.2.2.2.2.2.2.2.2.2.2.2.2.2.1 hc18
      rw [hc18]
      refine sk_tableIn (tgt := 1149) (off := 1110) d_law_39 (by decide) (by decide) rfl (by decide) ?_
      refine sk_aload_n (j := 1) d_law_1149 rfl rfl ?_
      refine sk_aload_n (j := 0) d_law_1150 rfl rfl ?_
      refine sk_iload (j := 4) d_law_1151 rfl ?_
      refine sk_iconst (v := 1) d_law_1153 (by decide) ?_
      refine sk_iadd d_law_1154 ?_
      obtain ⟨hb, h⟩ := h
      refine sk_sald d_law_1155 hb ?_
      exact q_callVi (S := []) (as := [.int (sk_xs Γ (x4 + 1).toNatClampNeg)]) d_law_1156 lk_L_138 sh_0 ⟨_, rfl⟩ rfl ⟨by decide, by decide⟩ (Nat.le_of_ble_eq_true rfl) rfl h.1.1 h.1.2 h.2
    replace h := h.2.2.2.2.2.2.2.2.2.2.2.2.2.2.2.2.2.2.2 hc0 hc1 hc2 hc3 hc4 hc5 hc6 hc7 hc8 hc9 hc10 hc11 hc12 hc13 hc14 hc15 hc16 hc17 hc18
    refine sk_tableOut (tgt := 1174) d_law_39 (sk_swOut19 hc0 hc1 hc2 hc3 hc4 hc5 hc6 hc7 hc8 hc9 hc10 hc11 hc12 hc13 hc14 hc15 hc16 hc17 hc18) (by decide) ?_
    refine sk_iinc (j := 4) (v := x4 + 5) d_law_1174 rfl (by rfl) (by decide) rfl ?_
    refine sk_goto (tgt := 23) d_law_1177 (by decide) ?_
    refine sk_loc [1, 2, 3, 4, 0] rfl ?_
    exact h
theorem s_law_132 {Γ : sk_T} {I : sk_I} {J : sk_J} {Q : sk_Q} {x4 : Int32} {kc kn : Nat} (h : (kc ≤ 1101 ∧ kn ≤ 25936) ∧ sk_S Γ m_M_clear 0 0 (.ref 41 :: []) sk_gg I J (sk_Kv fun I' J' => sk_W Γ m_law 1101 25936 136 [(0, .ref sk_scr), (1, .ref 0), (2, .ref 41), (3, .ref 61), (4, .int x4)] [] sk_gg I' J' kc kn Q)) : sk_W Γ m_law 1101 25936 132 [(0, .ref sk_scr), (1, .ref 0), (2, .ref 41), (3, .ref 61), (4, .int x4)] [] sk_gg I J kc kn Q := by
  refine sk_aload_n (j := 2) d_law_132 rfl rfl ?_
  exact q_callVv (S := []) (as := []) d_law_133 lk_L_71 sh_41 ⟨_, rfl⟩ rfl ⟨by decide, by decide⟩ (Nat.le_of_ble_eq_true rfl) rfl h.1.1 h.1.2 h.2
theorem s_law_136 {Γ : sk_T} {I : sk_I} {J : sk_J} {Q : sk_Q} {x4 : Int32} {kc kn : Nat} (h : sk_W Γ m_law 1101 25936 23 [(0, .ref sk_scr), (1, .ref 0), (2, .ref 41), (3, .ref 61), (4, .int (x4 + 5))] [] sk_gg I J kc kn Q) : sk_W Γ m_law 1101 25936 136 [(0, .ref sk_scr), (1, .ref 0), (2, .ref 41), (3, .ref 61), (4, .int x4)] [] sk_gg I J kc kn Q := by
  refine sk_goto (tgt := 1174) d_law_136 (by decide) ?_
  refine sk_iinc (j := 4) (v := x4 + 5) d_law_1174 rfl (by rfl) (by decide) rfl ?_
  refine sk_goto (tgt := 23) d_law_1177 (by decide) ?_
  refine sk_loc [1, 2, 3, 4, 0] rfl ?_
  exact h
theorem s_law_158 {Γ : sk_T} {I : sk_I} {J : sk_J} {Q : sk_Q} {x4 : Int32} {u0 : Int32} {kc kn : Nat} (h : vp_in (x4 + 1) (sk_len Γ) ∧ ((sk_xs Γ (x4 + 1).toNatClampNeg) = 0 → (kc ≤ 1101 ∧ kn ≤ 25936) ∧ sk_S Γ m_M_source 0 0 (.ref 41 :: [.int 0]) sk_gg I J (sk_Ki fun v' I' J' => sk_W Γ m_law 1101 25936 178 [(0, .ref sk_scr), (1, .ref 0), (2, .ref 41), (3, .ref 61), (4, .int x4), (5, .int u0)] [.int v'] sk_gg I' J' kc kn Q)) ∧ (¬ (sk_xs Γ (x4 + 1).toNatClampNeg) = 0 → (kc ≤ 1101 ∧ kn ≤ 25936) ∧ sk_S Γ m_M_source 0 0 (.ref 41 :: [.int 1]) sk_gg I J (sk_Ki fun v' I' J' => sk_W Γ m_law 1101 25936 178 [(0, .ref sk_scr), (1, .ref 0), (2, .ref 41), (3, .ref 61), (4, .int x4), (5, .int u0)] [.int v'] sk_gg I' J' kc kn Q))) : sk_W Γ m_law 1101 25936 158 [(0, .ref sk_scr), (1, .ref 0), (2, .ref 41), (3, .ref 61), (4, .int x4)] [.int u0] sk_gg I J kc kn Q := by
  refine sk_istore d_law_158 (by decide) rfl ?_
  refine sk_aload_n (j := 3) d_law_160 rfl rfl ?_
  refine sk_aload_n (j := 1) d_law_161 rfl rfl ?_
  refine sk_iload (j := 5) d_law_162 rfl ?_
  refine sk_iconst (v := 1) d_law_164 (by decide) ?_
  refine sk_iadd d_law_165 ?_
  obtain ⟨hb, h⟩ := h
  refine sk_sald d_law_166 hb ?_
  refine sk_if_eq (tgt := 174) d_law_167 (by decide) (fun hc => ?_) (fun hc => ?_)
  · replace h := h.1 hc
    refine sk_iconst (v := 0) d_law_174 (by decide) ?_
    refine sk_loc [1, 2, 3, 4, 5, 0] rfl ?_
    exact q_callVi (S := []) (as := [.int 0]) d_law_175 lk_L_77 sh_41 ⟨_, rfl⟩ rfl ⟨by decide, by decide⟩ (Nat.le_of_ble_eq_true rfl) rfl h.1.1 h.1.2 h.2
  · replace h := h.2 hc
    refine sk_iconst (v := 1) d_law_170 (by decide) ?_
    refine sk_goto (tgt := 175) d_law_171 (by decide) ?_
    refine sk_loc [1, 2, 3, 4, 5, 0] rfl ?_
    exact q_callVi (S := []) (as := [.int 1]) d_law_175 lk_L_77 sh_41 ⟨_, rfl⟩ rfl ⟨by decide, by decide⟩ (Nat.le_of_ble_eq_true rfl) rfl h.1.1 h.1.2 h.2
theorem s_law_178 {Γ : sk_T} {I : sk_I} {J : sk_J} {Q : sk_Q} {x4 : Int32} {x5 : Int32} {u0 : Int32} {kc kn : Nat} (h : (kc ≤ 1101 ∧ kn ≤ 25936) ∧ sk_S Γ m_M_thrown 0 0 (.ref 41 :: []) sk_gg I J (sk_Ki fun v' I' J' => sk_W Γ m_law 1101 25936 184 [(0, .ref sk_scr), (1, .ref 0), (2, .ref 41), (3, .ref 61), (4, .int x4), (5, .int x5), (6, .int u0)] [.int v'] sk_gg I' J' kc kn Q)) : sk_W Γ m_law 1101 25936 178 [(0, .ref sk_scr), (1, .ref 0), (2, .ref 41), (3, .ref 61), (4, .int x4), (5, .int x5)] [.int u0] sk_gg I J kc kn Q := by
  refine sk_istore d_law_178 (by decide) rfl ?_
  refine sk_aload_n (j := 3) d_law_180 rfl rfl ?_
  refine sk_loc [1, 2, 3, 4, 5, 6, 0] rfl ?_
  exact q_callVi (S := []) (as := []) d_law_181 lk_L_78 sh_41 ⟨_, rfl⟩ rfl ⟨by decide, by decide⟩ (Nat.le_of_ble_eq_true rfl) rfl h.1.1 h.1.2 h.2
theorem s_law_184 {Γ : sk_T} {I : sk_I} {J : sk_J} {Q : sk_Q} {x4 : Int32} {x5 : Int32} {x6 : Int32} {u0 : Int32} {kc kn : Nat} (h : (u0 = x5 → (¬ x5 = 0 → sk_W Γ m_law 1101 25936 23 [(0, .ref sk_scr), (1, .ref 0), (2, .ref 41), (3, .ref 61), (4, .int (x4 + 5))] [] sk_gg I J kc kn Q) ∧ (x5 = 0 → ((lg_cmp (J 61 0) (Int32.toInt64 x6)) = 0 → sk_W Γ m_law 1101 25936 23 [(0, .ref sk_scr), (1, .ref 0), (2, .ref 41), (3, .ref 61), (4, .int (x4 + 5))] [] sk_gg I J kc kn Q) ∧ (¬ (lg_cmp (J 61 0) (Int32.toInt64 x6)) = 0 → (kc ≤ 1101 ∧ kn ≤ 25936) ∧ Q (.inl (some (.int 0))) sk_gg I J))) ∧ (¬ u0 = x5 → (kc ≤ 1101 ∧ kn ≤ 25936) ∧ Q (.inl (some (.int 0))) sk_gg I J)) : sk_W Γ m_law 1101 25936 184 [(0, .ref sk_scr), (1, .ref 0), (2, .ref 41), (3, .ref 61), (4, .int x4), (5, .int x5), (6, .int x6)] [.int u0] sk_gg I J kc kn Q := by
  refine sk_iload (j := 5) d_law_184 rfl ?_
  refine sk_icmp_eq (tgt := 191) d_law_186 (by decide) (fun hc => ?_) (fun hc => ?_)
  · replace h := h.1 hc
    refine sk_iload (j := 5) d_law_191 rfl ?_
    refine sk_if_ne (tgt := 208) d_law_193 (by decide) (fun hc => ?_) (fun hc => ?_)
    · replace h := h.1 hc
      refine sk_goto (tgt := 1174) d_law_208 (by decide) ?_
      refine sk_iinc (j := 4) (v := x4 + 5) d_law_1174 rfl (by rfl) (by decide) rfl ?_
      refine sk_goto (tgt := 23) d_law_1177 (by decide) ?_
      refine sk_loc [1, 2, 3, 4, 0] rfl ?_
      exact h
    · replace h := h.2 hc
      refine sk_aload_n (j := 3) d_law_196 rfl rfl ?_
      refine sk_iconst (v := 0) d_law_197 (by decide) ?_
      refine sk_lald d_law_198 sh_61 (by unfold vp_in; decide) ?_
      refine q_cvl (y := J 61 0) rfl ?_
      refine sk_iload (j := 6) d_law_199 rfl ?_
      refine sk_i2l d_law_201 ?_
      refine sk_lcmp d_law_202 ?_
      refine sk_if_eq (tgt := 208) d_law_203 (by decide) (fun hc => ?_) (fun hc => ?_)
      · replace h := h.1 hc
        refine sk_goto (tgt := 1174) d_law_208 (by decide) ?_
        refine sk_iinc (j := 4) (v := x4 + 5) d_law_1174 rfl (by rfl) (by decide) rfl ?_
        refine sk_goto (tgt := 23) d_law_1177 (by decide) ?_
        refine sk_loc [1, 2, 3, 4, 0] rfl ?_
        exact h
      · replace h := h.2 hc
        refine sk_iconst (v := 0) d_law_206 (by decide) ?_
        exact q_zreturn d_law_207 rfl (by decide) h.1.1 h.1.2 h.2
  · replace h := h.2 hc
    refine sk_iconst (v := 0) d_law_189 (by decide) ?_
    exact q_zreturn d_law_190 rfl (by decide) h.1.1 h.1.2 h.2
theorem s_law_240 {Γ : sk_T} {I : sk_I} {J : sk_J} {Q : sk_Q} {x4 : Int32} {u0 : Int32} {kc kn : Nat} (h : vp_in (x4 + 1) (sk_len Γ) ∧ vp_in (x4 + 2) (sk_len Γ) ∧ vp_in (x4 + 3) (sk_len Γ) ∧ vp_in (x4 + 4) (sk_len Γ) ∧ (kc ≤ 1101 ∧ kn ≤ 25936) ∧ sk_S Γ m_M_gate 0 0 (.ref 41 :: [.int (sk_xs Γ (x4 + 1).toNatClampNeg), .int (sk_xs Γ (x4 + 2).toNatClampNeg), .int (sk_xs Γ (x4 + 3).toNatClampNeg), .int (sk_xs Γ (x4 + 4).toNatClampNeg)]) sk_gg I J (sk_Ki fun v' I' J' => sk_W Γ m_law 1101 25936 270 [(0, .ref sk_scr), (1, .ref 0), (2, .ref 41), (3, .ref 61), (4, .int x4), (5, .int u0)] [.int v'] sk_gg I' J' kc kn Q)) : sk_W Γ m_law 1101 25936 240 [(0, .ref sk_scr), (1, .ref 0), (2, .ref 41), (3, .ref 61), (4, .int x4)] [.int u0] sk_gg I J kc kn Q := by
  refine sk_istore d_law_240 (by decide) rfl ?_
  refine sk_aload_n (j := 3) d_law_242 rfl rfl ?_
  refine sk_aload_n (j := 1) d_law_243 rfl rfl ?_
  refine sk_iload (j := 5) d_law_244 rfl ?_
  refine sk_iconst (v := 1) d_law_246 (by decide) ?_
  refine sk_iadd d_law_247 ?_
  obtain ⟨hb, h⟩ := h
  refine sk_sald d_law_248 hb ?_
  refine sk_aload_n (j := 1) d_law_249 rfl rfl ?_
  refine sk_iload (j := 5) d_law_250 rfl ?_
  refine sk_iconst (v := 2) d_law_252 (by decide) ?_
  refine sk_iadd d_law_253 ?_
  obtain ⟨hb, h⟩ := h
  refine sk_sald d_law_254 hb ?_
  refine sk_aload_n (j := 1) d_law_255 rfl rfl ?_
  refine sk_iload (j := 5) d_law_256 rfl ?_
  refine sk_iconst (v := 3) d_law_258 (by decide) ?_
  refine sk_iadd d_law_259 ?_
  obtain ⟨hb, h⟩ := h
  refine sk_sald d_law_260 hb ?_
  refine sk_aload_n (j := 1) d_law_261 rfl rfl ?_
  refine sk_iload (j := 5) d_law_262 rfl ?_
  refine sk_iconst (v := 4) d_law_264 (by decide) ?_
  refine sk_iadd d_law_265 ?_
  obtain ⟨hb, h⟩ := h
  refine sk_sald d_law_266 hb ?_
  refine sk_loc [1, 2, 3, 4, 5, 0] rfl ?_
  exact q_callVi (S := []) (as := [.int (sk_xs Γ (x4 + 1).toNatClampNeg), .int (sk_xs Γ (x4 + 2).toNatClampNeg), .int (sk_xs Γ (x4 + 3).toNatClampNeg), .int (sk_xs Γ (x4 + 4).toNatClampNeg)]) d_law_267 lk_L_85 sh_41 ⟨_, rfl⟩ rfl ⟨by decide, by decide⟩ (Nat.le_of_ble_eq_true rfl) rfl h.1.1 h.1.2 h.2
theorem s_law_270 {Γ : sk_T} {I : sk_I} {J : sk_J} {Q : sk_Q} {x4 : Int32} {x5 : Int32} {u0 : Int32} {kc kn : Nat} (h : (kc ≤ 1101 ∧ kn ≤ 25936) ∧ sk_S Γ m_M_thrown 0 0 (.ref 41 :: []) sk_gg I J (sk_Ki fun v' I' J' => sk_W Γ m_law 1101 25936 276 [(0, .ref sk_scr), (1, .ref 0), (2, .ref 41), (3, .ref 61), (4, .int x4), (5, .int x5), (6, .int u0)] [.int v'] sk_gg I' J' kc kn Q)) : sk_W Γ m_law 1101 25936 270 [(0, .ref sk_scr), (1, .ref 0), (2, .ref 41), (3, .ref 61), (4, .int x4), (5, .int x5)] [.int u0] sk_gg I J kc kn Q := by
  refine sk_istore d_law_270 (by decide) rfl ?_
  refine sk_aload_n (j := 3) d_law_272 rfl rfl ?_
  refine sk_loc [1, 2, 3, 4, 5, 6, 0] rfl ?_
  exact q_callVi (S := []) (as := []) d_law_273 lk_L_78 sh_41 ⟨_, rfl⟩ rfl ⟨by decide, by decide⟩ (Nat.le_of_ble_eq_true rfl) rfl h.1.1 h.1.2 h.2
theorem s_law_276 {Γ : sk_T} {I : sk_I} {J : sk_J} {Q : sk_Q} {x4 : Int32} {x5 : Int32} {x6 : Int32} {u0 : Int32} {kc kn : Nat} (h : (u0 = x5 → (¬ x5 = 0 → sk_W Γ m_law 1101 25936 23 [(0, .ref sk_scr), (1, .ref 0), (2, .ref 41), (3, .ref 61), (4, .int (x4 + 5))] [] sk_gg I J kc kn Q) ∧ (x5 = 0 → ((lg_cmp (J 61 0) (Int32.toInt64 x6)) = 0 → sk_W Γ m_law 1101 25936 23 [(0, .ref sk_scr), (1, .ref 0), (2, .ref 41), (3, .ref 61), (4, .int (x4 + 5))] [] sk_gg I J kc kn Q) ∧ (¬ (lg_cmp (J 61 0) (Int32.toInt64 x6)) = 0 → (kc ≤ 1101 ∧ kn ≤ 25936) ∧ Q (.inl (some (.int 0))) sk_gg I J))) ∧ (¬ u0 = x5 → (kc ≤ 1101 ∧ kn ≤ 25936) ∧ Q (.inl (some (.int 0))) sk_gg I J)) : sk_W Γ m_law 1101 25936 276 [(0, .ref sk_scr), (1, .ref 0), (2, .ref 41), (3, .ref 61), (4, .int x4), (5, .int x5), (6, .int x6)] [.int u0] sk_gg I J kc kn Q := by
  refine sk_iload (j := 5) d_law_276 rfl ?_
  refine sk_icmp_eq (tgt := 283) d_law_278 (by decide) (fun hc => ?_) (fun hc => ?_)
  · replace h := h.1 hc
    refine sk_iload (j := 5) d_law_283 rfl ?_
    refine sk_if_ne (tgt := 300) d_law_285 (by decide) (fun hc => ?_) (fun hc => ?_)
    · replace h := h.1 hc
      refine sk_goto (tgt := 1174) d_law_300 (by decide) ?_
      refine sk_iinc (j := 4) (v := x4 + 5) d_law_1174 rfl (by rfl) (by decide) rfl ?_
      refine sk_goto (tgt := 23) d_law_1177 (by decide) ?_
      refine sk_loc [1, 2, 3, 4, 0] rfl ?_
      exact h
    · replace h := h.2 hc
      refine sk_aload_n (j := 3) d_law_288 rfl rfl ?_
      refine sk_iconst (v := 0) d_law_289 (by decide) ?_
      refine sk_lald d_law_290 sh_61 (by unfold vp_in; decide) ?_
      refine q_cvl (y := J 61 0) rfl ?_
      refine sk_iload (j := 6) d_law_291 rfl ?_
      refine sk_i2l d_law_293 ?_
      refine sk_lcmp d_law_294 ?_
      refine sk_if_eq (tgt := 300) d_law_295 (by decide) (fun hc => ?_) (fun hc => ?_)
      · replace h := h.1 hc
        refine sk_goto (tgt := 1174) d_law_300 (by decide) ?_
        refine sk_iinc (j := 4) (v := x4 + 5) d_law_1174 rfl (by rfl) (by decide) rfl ?_
        refine sk_goto (tgt := 23) d_law_1177 (by decide) ?_
        refine sk_loc [1, 2, 3, 4, 0] rfl ?_
        exact h
      · replace h := h.2 hc
        refine sk_iconst (v := 0) d_law_298 (by decide) ?_
        exact q_zreturn d_law_299 rfl (by decide) h.1.1 h.1.2 h.2
  · replace h := h.2 hc
    refine sk_iconst (v := 0) d_law_281 (by decide) ?_
    exact q_zreturn d_law_282 rfl (by decide) h.1.1 h.1.2 h.2
theorem s_law_314 {Γ : sk_T} {I : sk_I} {J : sk_J} {Q : sk_Q} {x4 : Int32} {u0 : Int32} {kc kn : Nat} (h : vp_in (x4 + 1) (sk_len Γ) ∧ (kc ≤ 1101 ∧ kn ≤ 25936) ∧ sk_S Γ m_M_output 0 0 (.ref 41 :: [.int (sk_xs Γ (x4 + 1).toNatClampNeg)]) sk_gg I J (sk_Ki fun v' I' J' => sk_W Γ m_law 1101 25936 326 [(0, .ref sk_scr), (1, .ref 0), (2, .ref 41), (3, .ref 61), (4, .int x4), (5, .int u0)] [.int v'] sk_gg I' J' kc kn Q)) : sk_W Γ m_law 1101 25936 314 [(0, .ref sk_scr), (1, .ref 0), (2, .ref 41), (3, .ref 61), (4, .int x4)] [.int u0] sk_gg I J kc kn Q := by
  refine sk_istore d_law_314 (by decide) rfl ?_
  refine sk_aload_n (j := 3) d_law_316 rfl rfl ?_
  refine sk_aload_n (j := 1) d_law_317 rfl rfl ?_
  refine sk_iload (j := 5) d_law_318 rfl ?_
  refine sk_iconst (v := 1) d_law_320 (by decide) ?_
  refine sk_iadd d_law_321 ?_
  obtain ⟨hb, h⟩ := h
  refine sk_sald d_law_322 hb ?_
  refine sk_loc [1, 2, 3, 4, 5, 0] rfl ?_
  exact q_callVi (S := []) (as := [.int (sk_xs Γ (x4 + 1).toNatClampNeg)]) d_law_323 lk_L_89 sh_41 ⟨_, rfl⟩ rfl ⟨by decide, by decide⟩ (Nat.le_of_ble_eq_true rfl) rfl h.1.1 h.1.2 h.2
theorem s_law_326 {Γ : sk_T} {I : sk_I} {J : sk_J} {Q : sk_Q} {x4 : Int32} {x5 : Int32} {u0 : Int32} {kc kn : Nat} (h : (kc ≤ 1101 ∧ kn ≤ 25936) ∧ sk_S Γ m_M_thrown 0 0 (.ref 41 :: []) sk_gg I J (sk_Ki fun v' I' J' => sk_W Γ m_law 1101 25936 332 [(0, .ref sk_scr), (1, .ref 0), (2, .ref 41), (3, .ref 61), (4, .int x4), (5, .int x5), (6, .int u0)] [.int v'] sk_gg I' J' kc kn Q)) : sk_W Γ m_law 1101 25936 326 [(0, .ref sk_scr), (1, .ref 0), (2, .ref 41), (3, .ref 61), (4, .int x4), (5, .int x5)] [.int u0] sk_gg I J kc kn Q := by
  refine sk_istore d_law_326 (by decide) rfl ?_
  refine sk_aload_n (j := 3) d_law_328 rfl rfl ?_
  refine sk_loc [1, 2, 3, 4, 5, 6, 0] rfl ?_
  exact q_callVi (S := []) (as := []) d_law_329 lk_L_78 sh_41 ⟨_, rfl⟩ rfl ⟨by decide, by decide⟩ (Nat.le_of_ble_eq_true rfl) rfl h.1.1 h.1.2 h.2
theorem s_law_332 {Γ : sk_T} {I : sk_I} {J : sk_J} {Q : sk_Q} {x4 : Int32} {x5 : Int32} {x6 : Int32} {u0 : Int32} {kc kn : Nat} (h : (u0 = x5 → (¬ x5 = 0 → sk_W Γ m_law 1101 25936 23 [(0, .ref sk_scr), (1, .ref 0), (2, .ref 41), (3, .ref 61), (4, .int (x4 + 5))] [] sk_gg I J kc kn Q) ∧ (x5 = 0 → ((lg_cmp (J 61 0) (Int32.toInt64 x6)) = 0 → sk_W Γ m_law 1101 25936 23 [(0, .ref sk_scr), (1, .ref 0), (2, .ref 41), (3, .ref 61), (4, .int (x4 + 5))] [] sk_gg I J kc kn Q) ∧ (¬ (lg_cmp (J 61 0) (Int32.toInt64 x6)) = 0 → (kc ≤ 1101 ∧ kn ≤ 25936) ∧ Q (.inl (some (.int 0))) sk_gg I J))) ∧ (¬ u0 = x5 → (kc ≤ 1101 ∧ kn ≤ 25936) ∧ Q (.inl (some (.int 0))) sk_gg I J)) : sk_W Γ m_law 1101 25936 332 [(0, .ref sk_scr), (1, .ref 0), (2, .ref 41), (3, .ref 61), (4, .int x4), (5, .int x5), (6, .int x6)] [.int u0] sk_gg I J kc kn Q := by
  refine sk_iload (j := 5) d_law_332 rfl ?_
  refine sk_icmp_eq (tgt := 339) d_law_334 (by decide) (fun hc => ?_) (fun hc => ?_)
  · replace h := h.1 hc
    refine sk_iload (j := 5) d_law_339 rfl ?_
    refine sk_if_ne (tgt := 356) d_law_341 (by decide) (fun hc => ?_) (fun hc => ?_)
    · replace h := h.1 hc
      refine sk_goto (tgt := 1174) d_law_356 (by decide) ?_
      refine sk_iinc (j := 4) (v := x4 + 5) d_law_1174 rfl (by rfl) (by decide) rfl ?_
      refine sk_goto (tgt := 23) d_law_1177 (by decide) ?_
      refine sk_loc [1, 2, 3, 4, 0] rfl ?_
      exact h
    · replace h := h.2 hc
      refine sk_aload_n (j := 3) d_law_344 rfl rfl ?_
      refine sk_iconst (v := 0) d_law_345 (by decide) ?_
      refine sk_lald d_law_346 sh_61 (by unfold vp_in; decide) ?_
      refine q_cvl (y := J 61 0) rfl ?_
      refine sk_iload (j := 6) d_law_347 rfl ?_
      refine sk_i2l d_law_349 ?_
      refine sk_lcmp d_law_350 ?_
      refine sk_if_eq (tgt := 356) d_law_351 (by decide) (fun hc => ?_) (fun hc => ?_)
      · replace h := h.1 hc
        refine sk_goto (tgt := 1174) d_law_356 (by decide) ?_
        refine sk_iinc (j := 4) (v := x4 + 5) d_law_1174 rfl (by rfl) (by decide) rfl ?_
        refine sk_goto (tgt := 23) d_law_1177 (by decide) ?_
        refine sk_loc [1, 2, 3, 4, 0] rfl ?_
        exact h
      · replace h := h.2 hc
        refine sk_iconst (v := 0) d_law_354 (by decide) ?_
        exact q_zreturn d_law_355 rfl (by decide) h.1.1 h.1.2 h.2
  · replace h := h.2 hc
    refine sk_iconst (v := 0) d_law_337 (by decide) ?_
    exact q_zreturn d_law_338 rfl (by decide) h.1.1 h.1.2 h.2
theorem s_law_375 {Γ : sk_T} {I : sk_I} {J : sk_J} {Q : sk_Q} {x4 : Int32} {u0 : Int32} {kc kn : Nat} (h : vp_in (x4 + 1) (sk_len Γ) ∧ vp_in (x4 + 2) (sk_len Γ) ∧ (kc ≤ 1101 ∧ kn ≤ 25936) ∧ sk_S Γ m_M_data 0 0 (.ref 41 :: [.int (sk_xs Γ (x4 + 1).toNatClampNeg), .int (sk_xs Γ (x4 + 2).toNatClampNeg)]) sk_gg I J (sk_Kv fun I' J' => sk_W Γ m_law 1101 25936 393 [(0, .ref sk_scr), (1, .ref 0), (2, .ref 41), (3, .ref 61), (4, .int x4), (5, .int u0)] [] sk_gg I' J' kc kn Q)) : sk_W Γ m_law 1101 25936 375 [(0, .ref sk_scr), (1, .ref 0), (2, .ref 41), (3, .ref 61), (4, .int x4)] [.int u0] sk_gg I J kc kn Q := by
  refine sk_istore d_law_375 (by decide) rfl ?_
  refine sk_aload_n (j := 3) d_law_377 rfl rfl ?_
  refine sk_aload_n (j := 1) d_law_378 rfl rfl ?_
  refine sk_iload (j := 5) d_law_379 rfl ?_
  refine sk_iconst (v := 1) d_law_381 (by decide) ?_
  refine sk_iadd d_law_382 ?_
  obtain ⟨hb, h⟩ := h
  refine sk_sald d_law_383 hb ?_
  refine sk_aload_n (j := 1) d_law_384 rfl rfl ?_
  refine sk_iload (j := 5) d_law_385 rfl ?_
  refine sk_iconst (v := 2) d_law_387 (by decide) ?_
  refine sk_iadd d_law_388 ?_
  obtain ⟨hb, h⟩ := h
  refine sk_sald d_law_389 hb ?_
  refine sk_loc [1, 2, 3, 4, 5, 0] rfl ?_
  exact q_callVv (S := []) (as := [.int (sk_xs Γ (x4 + 1).toNatClampNeg), .int (sk_xs Γ (x4 + 2).toNatClampNeg)]) d_law_390 lk_L_93 sh_41 ⟨_, rfl⟩ rfl ⟨by decide, by decide⟩ (Nat.le_of_ble_eq_true rfl) rfl h.1.1 h.1.2 h.2
theorem s_law_393 {Γ : sk_T} {I : sk_I} {J : sk_J} {Q : sk_Q} {x4 : Int32} {x5 : Int32} {kc kn : Nat} (h : (kc ≤ 1101 ∧ kn ≤ 25936) ∧ sk_S Γ m_M_thrown 0 0 (.ref 41 :: []) sk_gg I J (sk_Ki fun v' I' J' => sk_W Γ m_law 1101 25936 397 [(0, .ref sk_scr), (1, .ref 0), (2, .ref 41), (3, .ref 61), (4, .int x4), (5, .int x5)] [.int v'] sk_gg I' J' kc kn Q)) : sk_W Γ m_law 1101 25936 393 [(0, .ref sk_scr), (1, .ref 0), (2, .ref 41), (3, .ref 61), (4, .int x4), (5, .int x5)] [] sk_gg I J kc kn Q := by
  refine sk_aload_n (j := 2) d_law_393 rfl rfl ?_
  exact q_callVi (S := []) (as := []) d_law_394 lk_L_78 sh_41 ⟨_, rfl⟩ rfl ⟨by decide, by decide⟩ (Nat.le_of_ble_eq_true rfl) rfl h.1.1 h.1.2 h.2
theorem s_law_397 {Γ : sk_T} {I : sk_I} {J : sk_J} {Q : sk_Q} {x4 : Int32} {x5 : Int32} {u0 : Int32} {kc kn : Nat} (h : (u0 = x5 → sk_W Γ m_law 1101 25936 23 [(0, .ref sk_scr), (1, .ref 0), (2, .ref 41), (3, .ref 61), (4, .int (x4 + 5))] [] sk_gg I J kc kn Q) ∧ (¬ u0 = x5 → (kc ≤ 1101 ∧ kn ≤ 25936) ∧ Q (.inl (some (.int 0))) sk_gg I J)) : sk_W Γ m_law 1101 25936 397 [(0, .ref sk_scr), (1, .ref 0), (2, .ref 41), (3, .ref 61), (4, .int x4), (5, .int x5)] [.int u0] sk_gg I J kc kn Q := by
  refine sk_iload (j := 5) d_law_397 rfl ?_
  refine sk_icmp_eq (tgt := 404) d_law_399 (by decide) (fun hc => ?_) (fun hc => ?_)
  · replace h := h.1 hc
    refine sk_goto (tgt := 1174) d_law_404 (by decide) ?_
    refine sk_iinc (j := 4) (v := x4 + 5) d_law_1174 rfl (by rfl) (by decide) rfl ?_
    refine sk_goto (tgt := 23) d_law_1177 (by decide) ?_
    refine sk_loc [1, 2, 3, 4, 0] rfl ?_
    exact h
  · replace h := h.2 hc
    refine sk_iconst (v := 0) d_law_402 (by decide) ?_
    exact q_zreturn d_law_403 rfl (by decide) h.1.1 h.1.2 h.2
theorem s_law_418 {Γ : sk_T} {I : sk_I} {J : sk_J} {Q : sk_Q} {x4 : Int32} {u0 : Int32} {kc kn : Nat} (h : vp_in (x4 + 1) (sk_len Γ) ∧ (kc ≤ 1101 ∧ kn ≤ 25936) ∧ sk_S Γ m_M_count 0 0 (.ref 41 :: [.int (sk_xs Γ (x4 + 1).toNatClampNeg)]) sk_gg I J (sk_Ki fun v' I' J' => sk_W Γ m_law 1101 25936 430 [(0, .ref sk_scr), (1, .ref 0), (2, .ref 41), (3, .ref 61), (4, .int x4), (5, .int u0)] [.int v'] sk_gg I' J' kc kn Q)) : sk_W Γ m_law 1101 25936 418 [(0, .ref sk_scr), (1, .ref 0), (2, .ref 41), (3, .ref 61), (4, .int x4)] [.int u0] sk_gg I J kc kn Q := by
  refine sk_istore d_law_418 (by decide) rfl ?_
  refine sk_aload_n (j := 3) d_law_420 rfl rfl ?_
  refine sk_aload_n (j := 1) d_law_421 rfl rfl ?_
  refine sk_iload (j := 5) d_law_422 rfl ?_
  refine sk_iconst (v := 1) d_law_424 (by decide) ?_
  refine sk_iadd d_law_425 ?_
  obtain ⟨hb, h⟩ := h
  refine sk_sald d_law_426 hb ?_
  refine sk_loc [1, 2, 3, 4, 5, 0] rfl ?_
  exact q_callVi (S := []) (as := [.int (sk_xs Γ (x4 + 1).toNatClampNeg)]) d_law_427 lk_L_96 sh_41 ⟨_, rfl⟩ rfl ⟨by decide, by decide⟩ (Nat.le_of_ble_eq_true rfl) rfl h.1.1 h.1.2 h.2
theorem s_law_430 {Γ : sk_T} {I : sk_I} {J : sk_J} {Q : sk_Q} {x4 : Int32} {x5 : Int32} {u0 : Int32} {kc kn : Nat} (h : (kc ≤ 1101 ∧ kn ≤ 25936) ∧ sk_S Γ m_M_thrown 0 0 (.ref 41 :: []) sk_gg I J (sk_Ki fun v' I' J' => sk_W Γ m_law 1101 25936 436 [(0, .ref sk_scr), (1, .ref 0), (2, .ref 41), (3, .ref 61), (4, .int x4), (5, .int x5), (6, .int u0)] [.int v'] sk_gg I' J' kc kn Q)) : sk_W Γ m_law 1101 25936 430 [(0, .ref sk_scr), (1, .ref 0), (2, .ref 41), (3, .ref 61), (4, .int x4), (5, .int x5)] [.int u0] sk_gg I J kc kn Q := by
  refine sk_istore d_law_430 (by decide) rfl ?_
  refine sk_aload_n (j := 3) d_law_432 rfl rfl ?_
  refine sk_loc [1, 2, 3, 4, 5, 6, 0] rfl ?_
  exact q_callVi (S := []) (as := []) d_law_433 lk_L_78 sh_41 ⟨_, rfl⟩ rfl ⟨by decide, by decide⟩ (Nat.le_of_ble_eq_true rfl) rfl h.1.1 h.1.2 h.2
theorem s_law_436 {Γ : sk_T} {I : sk_I} {J : sk_J} {Q : sk_Q} {x4 : Int32} {x5 : Int32} {x6 : Int32} {u0 : Int32} {kc kn : Nat} (h : (u0 = x5 → (¬ x5 = 0 → sk_W Γ m_law 1101 25936 23 [(0, .ref sk_scr), (1, .ref 0), (2, .ref 41), (3, .ref 61), (4, .int (x4 + 5))] [] sk_gg I J kc kn Q) ∧ (x5 = 0 → ((lg_cmp (J 61 0) (Int32.toInt64 x6)) = 0 → sk_W Γ m_law 1101 25936 23 [(0, .ref sk_scr), (1, .ref 0), (2, .ref 41), (3, .ref 61), (4, .int (x4 + 5))] [] sk_gg I J kc kn Q) ∧ (¬ (lg_cmp (J 61 0) (Int32.toInt64 x6)) = 0 → (kc ≤ 1101 ∧ kn ≤ 25936) ∧ Q (.inl (some (.int 0))) sk_gg I J))) ∧ (¬ u0 = x5 → (kc ≤ 1101 ∧ kn ≤ 25936) ∧ Q (.inl (some (.int 0))) sk_gg I J)) : sk_W Γ m_law 1101 25936 436 [(0, .ref sk_scr), (1, .ref 0), (2, .ref 41), (3, .ref 61), (4, .int x4), (5, .int x5), (6, .int x6)] [.int u0] sk_gg I J kc kn Q := by
  refine sk_iload (j := 5) d_law_436 rfl ?_
  refine sk_icmp_eq (tgt := 443) d_law_438 (by decide) (fun hc => ?_) (fun hc => ?_)
  · replace h := h.1 hc
    refine sk_iload (j := 5) d_law_443 rfl ?_
    refine sk_if_ne (tgt := 460) d_law_445 (by decide) (fun hc => ?_) (fun hc => ?_)
    · replace h := h.1 hc
      refine sk_goto (tgt := 1174) d_law_460 (by decide) ?_
      refine sk_iinc (j := 4) (v := x4 + 5) d_law_1174 rfl (by rfl) (by decide) rfl ?_
      refine sk_goto (tgt := 23) d_law_1177 (by decide) ?_
      refine sk_loc [1, 2, 3, 4, 0] rfl ?_
      exact h
    · replace h := h.2 hc
      refine sk_aload_n (j := 3) d_law_448 rfl rfl ?_
      refine sk_iconst (v := 0) d_law_449 (by decide) ?_
      refine sk_lald d_law_450 sh_61 (by unfold vp_in; decide) ?_
      refine q_cvl (y := J 61 0) rfl ?_
      refine sk_iload (j := 6) d_law_451 rfl ?_
      refine sk_i2l d_law_453 ?_
      refine sk_lcmp d_law_454 ?_
      refine sk_if_eq (tgt := 460) d_law_455 (by decide) (fun hc => ?_) (fun hc => ?_)
      · replace h := h.1 hc
        refine sk_goto (tgt := 1174) d_law_460 (by decide) ?_
        refine sk_iinc (j := 4) (v := x4 + 5) d_law_1174 rfl (by rfl) (by decide) rfl ?_
        refine sk_goto (tgt := 23) d_law_1177 (by decide) ?_
        refine sk_loc [1, 2, 3, 4, 0] rfl ?_
        exact h
      · replace h := h.2 hc
        refine sk_iconst (v := 0) d_law_458 (by decide) ?_
        exact q_zreturn d_law_459 rfl (by decide) h.1.1 h.1.2 h.2
  · replace h := h.2 hc
    refine sk_iconst (v := 0) d_law_441 (by decide) ?_
    exact q_zreturn d_law_442 rfl (by decide) h.1.1 h.1.2 h.2
theorem s_law_486 {Γ : sk_T} {I : sk_I} {J : sk_J} {Q : sk_Q} {x4 : Int32} {u0 : Int32} {kc kn : Nat} (h : vp_in (x4 + 1) (sk_len Γ) ∧ vp_in (x4 + 2) (sk_len Γ) ∧ vp_in (x4 + 3) (sk_len Γ) ∧ (kc ≤ 1101 ∧ kn ≤ 25936) ∧ sk_S Γ m_M_value 0 0 (.ref 41 :: [.int (sk_xs Γ (x4 + 1).toNatClampNeg), .int (sk_xs Γ (x4 + 2).toNatClampNeg), .int (sk_xs Γ (x4 + 3).toNatClampNeg)]) sk_gg I J (sk_Ki fun v' I' J' => sk_W Γ m_law 1101 25936 510 [(0, .ref sk_scr), (1, .ref 0), (2, .ref 41), (3, .ref 61), (4, .int x4), (5, .int u0)] [.int v'] sk_gg I' J' kc kn Q)) : sk_W Γ m_law 1101 25936 486 [(0, .ref sk_scr), (1, .ref 0), (2, .ref 41), (3, .ref 61), (4, .int x4)] [.int u0] sk_gg I J kc kn Q := by
  refine sk_istore d_law_486 (by decide) rfl ?_
  refine sk_aload_n (j := 3) d_law_488 rfl rfl ?_
  refine sk_aload_n (j := 1) d_law_489 rfl rfl ?_
  refine sk_iload (j := 5) d_law_490 rfl ?_
  refine sk_iconst (v := 1) d_law_492 (by decide) ?_
  refine sk_iadd d_law_493 ?_
  obtain ⟨hb, h⟩ := h
  refine sk_sald d_law_494 hb ?_
  refine sk_aload_n (j := 1) d_law_495 rfl rfl ?_
  refine sk_iload (j := 5) d_law_496 rfl ?_
  refine sk_iconst (v := 2) d_law_498 (by decide) ?_
  refine sk_iadd d_law_499 ?_
  obtain ⟨hb, h⟩ := h
  refine sk_sald d_law_500 hb ?_
  refine sk_aload_n (j := 1) d_law_501 rfl rfl ?_
  refine sk_iload (j := 5) d_law_502 rfl ?_
  refine sk_iconst (v := 3) d_law_504 (by decide) ?_
  refine sk_iadd d_law_505 ?_
  obtain ⟨hb, h⟩ := h
  refine sk_sald d_law_506 hb ?_
  refine sk_loc [1, 2, 3, 4, 5, 0] rfl ?_
  exact q_callVi (S := []) (as := [.int (sk_xs Γ (x4 + 1).toNatClampNeg), .int (sk_xs Γ (x4 + 2).toNatClampNeg), .int (sk_xs Γ (x4 + 3).toNatClampNeg)]) d_law_507 lk_L_100 sh_41 ⟨_, rfl⟩ rfl ⟨by decide, by decide⟩ (Nat.le_of_ble_eq_true rfl) rfl h.1.1 h.1.2 h.2
theorem s_law_510 {Γ : sk_T} {I : sk_I} {J : sk_J} {Q : sk_Q} {x4 : Int32} {x5 : Int32} {u0 : Int32} {kc kn : Nat} (h : (kc ≤ 1101 ∧ kn ≤ 25936) ∧ sk_S Γ m_M_thrown 0 0 (.ref 41 :: []) sk_gg I J (sk_Ki fun v' I' J' => sk_W Γ m_law 1101 25936 516 [(0, .ref sk_scr), (1, .ref 0), (2, .ref 41), (3, .ref 61), (4, .int x4), (5, .int x5), (6, .int u0)] [.int v'] sk_gg I' J' kc kn Q)) : sk_W Γ m_law 1101 25936 510 [(0, .ref sk_scr), (1, .ref 0), (2, .ref 41), (3, .ref 61), (4, .int x4), (5, .int x5)] [.int u0] sk_gg I J kc kn Q := by
  refine sk_istore d_law_510 (by decide) rfl ?_
  refine sk_aload_n (j := 3) d_law_512 rfl rfl ?_
  refine sk_loc [1, 2, 3, 4, 5, 6, 0] rfl ?_
  exact q_callVi (S := []) (as := []) d_law_513 lk_L_78 sh_41 ⟨_, rfl⟩ rfl ⟨by decide, by decide⟩ (Nat.le_of_ble_eq_true rfl) rfl h.1.1 h.1.2 h.2
theorem s_law_516 {Γ : sk_T} {I : sk_I} {J : sk_J} {Q : sk_Q} {x4 : Int32} {x5 : Int32} {x6 : Int32} {u0 : Int32} {kc kn : Nat} (h : (u0 = x5 → (¬ x5 = 0 → sk_W Γ m_law 1101 25936 23 [(0, .ref sk_scr), (1, .ref 0), (2, .ref 41), (3, .ref 61), (4, .int (x4 + 5))] [] sk_gg I J kc kn Q) ∧ (x5 = 0 → ((lg_cmp (J 61 0) (Int32.toInt64 x6)) = 0 → sk_W Γ m_law 1101 25936 23 [(0, .ref sk_scr), (1, .ref 0), (2, .ref 41), (3, .ref 61), (4, .int (x4 + 5))] [] sk_gg I J kc kn Q) ∧ (¬ (lg_cmp (J 61 0) (Int32.toInt64 x6)) = 0 → (kc ≤ 1101 ∧ kn ≤ 25936) ∧ Q (.inl (some (.int 0))) sk_gg I J))) ∧ (¬ u0 = x5 → (kc ≤ 1101 ∧ kn ≤ 25936) ∧ Q (.inl (some (.int 0))) sk_gg I J)) : sk_W Γ m_law 1101 25936 516 [(0, .ref sk_scr), (1, .ref 0), (2, .ref 41), (3, .ref 61), (4, .int x4), (5, .int x5), (6, .int x6)] [.int u0] sk_gg I J kc kn Q := by
  refine sk_iload (j := 5) d_law_516 rfl ?_
  refine sk_icmp_eq (tgt := 523) d_law_518 (by decide) (fun hc => ?_) (fun hc => ?_)
  · replace h := h.1 hc
    refine sk_iload (j := 5) d_law_523 rfl ?_
    refine sk_if_ne (tgt := 540) d_law_525 (by decide) (fun hc => ?_) (fun hc => ?_)
    · replace h := h.1 hc
      refine sk_goto (tgt := 1174) d_law_540 (by decide) ?_
      refine sk_iinc (j := 4) (v := x4 + 5) d_law_1174 rfl (by rfl) (by decide) rfl ?_
      refine sk_goto (tgt := 23) d_law_1177 (by decide) ?_
      refine sk_loc [1, 2, 3, 4, 0] rfl ?_
      exact h
    · replace h := h.2 hc
      refine sk_aload_n (j := 3) d_law_528 rfl rfl ?_
      refine sk_iconst (v := 0) d_law_529 (by decide) ?_
      refine sk_lald d_law_530 sh_61 (by unfold vp_in; decide) ?_
      refine q_cvl (y := J 61 0) rfl ?_
      refine sk_iload (j := 6) d_law_531 rfl ?_
      refine sk_i2l d_law_533 ?_
      refine sk_lcmp d_law_534 ?_
      refine sk_if_eq (tgt := 540) d_law_535 (by decide) (fun hc => ?_) (fun hc => ?_)
      · replace h := h.1 hc
        refine sk_goto (tgt := 1174) d_law_540 (by decide) ?_
        refine sk_iinc (j := 4) (v := x4 + 5) d_law_1174 rfl (by rfl) (by decide) rfl ?_
        refine sk_goto (tgt := 23) d_law_1177 (by decide) ?_
        refine sk_loc [1, 2, 3, 4, 0] rfl ?_
        exact h
      · replace h := h.2 hc
        refine sk_iconst (v := 0) d_law_538 (by decide) ?_
        exact q_zreturn d_law_539 rfl (by decide) h.1.1 h.1.2 h.2
  · replace h := h.2 hc
    refine sk_iconst (v := 0) d_law_521 (by decide) ?_
    exact q_zreturn d_law_522 rfl (by decide) h.1.1 h.1.2 h.2
theorem s_law_560 {Γ : sk_T} {I : sk_I} {J : sk_J} {Q : sk_Q} {x4 : Int32} {u0 : Int32} {kc kn : Nat} (h : vp_in (x4 + 1) (sk_len Γ) ∧ vp_in (x4 + 2) (sk_len Γ) ∧ (kc ≤ 1101 ∧ kn ≤ 25936) ∧ sk_S Γ m_M_response 0 0 (.ref 41 :: [.int (sk_xs Γ (x4 + 1).toNatClampNeg), .int (sk_xs Γ (x4 + 2).toNatClampNeg)]) sk_gg I J (sk_Ki fun v' I' J' => sk_W Γ m_law 1101 25936 578 [(0, .ref sk_scr), (1, .ref 0), (2, .ref 41), (3, .ref 61), (4, .int x4), (5, .int u0)] [.int v'] sk_gg I' J' kc kn Q)) : sk_W Γ m_law 1101 25936 560 [(0, .ref sk_scr), (1, .ref 0), (2, .ref 41), (3, .ref 61), (4, .int x4)] [.int u0] sk_gg I J kc kn Q := by
  refine sk_istore d_law_560 (by decide) rfl ?_
  refine sk_aload_n (j := 3) d_law_562 rfl rfl ?_
  refine sk_aload_n (j := 1) d_law_563 rfl rfl ?_
  refine sk_iload (j := 5) d_law_564 rfl ?_
  refine sk_iconst (v := 1) d_law_566 (by decide) ?_
  refine sk_iadd d_law_567 ?_
  obtain ⟨hb, h⟩ := h
  refine sk_sald d_law_568 hb ?_
  refine sk_aload_n (j := 1) d_law_569 rfl rfl ?_
  refine sk_iload (j := 5) d_law_570 rfl ?_
  refine sk_iconst (v := 2) d_law_572 (by decide) ?_
  refine sk_iadd d_law_573 ?_
  obtain ⟨hb, h⟩ := h
  refine sk_sald d_law_574 hb ?_
  refine sk_loc [1, 2, 3, 4, 5, 0] rfl ?_
  exact q_callVi (S := []) (as := [.int (sk_xs Γ (x4 + 1).toNatClampNeg), .int (sk_xs Γ (x4 + 2).toNatClampNeg)]) d_law_575 lk_L_104 sh_41 ⟨_, rfl⟩ rfl ⟨by decide, by decide⟩ (Nat.le_of_ble_eq_true rfl) rfl h.1.1 h.1.2 h.2
theorem s_law_578 {Γ : sk_T} {I : sk_I} {J : sk_J} {Q : sk_Q} {x4 : Int32} {x5 : Int32} {u0 : Int32} {kc kn : Nat} (h : (kc ≤ 1101 ∧ kn ≤ 25936) ∧ sk_S Γ m_M_thrown 0 0 (.ref 41 :: []) sk_gg I J (sk_Ki fun v' I' J' => sk_W Γ m_law 1101 25936 584 [(0, .ref sk_scr), (1, .ref 0), (2, .ref 41), (3, .ref 61), (4, .int x4), (5, .int x5), (6, .int u0)] [.int v'] sk_gg I' J' kc kn Q)) : sk_W Γ m_law 1101 25936 578 [(0, .ref sk_scr), (1, .ref 0), (2, .ref 41), (3, .ref 61), (4, .int x4), (5, .int x5)] [.int u0] sk_gg I J kc kn Q := by
  refine sk_istore d_law_578 (by decide) rfl ?_
  refine sk_aload_n (j := 3) d_law_580 rfl rfl ?_
  refine sk_loc [1, 2, 3, 4, 5, 6, 0] rfl ?_
  exact q_callVi (S := []) (as := []) d_law_581 lk_L_78 sh_41 ⟨_, rfl⟩ rfl ⟨by decide, by decide⟩ (Nat.le_of_ble_eq_true rfl) rfl h.1.1 h.1.2 h.2
theorem s_law_584 {Γ : sk_T} {I : sk_I} {J : sk_J} {Q : sk_Q} {x4 : Int32} {x5 : Int32} {x6 : Int32} {u0 : Int32} {kc kn : Nat} (h : (u0 = x5 → (¬ x5 = 0 → sk_W Γ m_law 1101 25936 23 [(0, .ref sk_scr), (1, .ref 0), (2, .ref 41), (3, .ref 61), (4, .int (x4 + 5))] [] sk_gg I J kc kn Q) ∧ (x5 = 0 → ((lg_cmp (J 61 0) (Int32.toInt64 x6)) = 0 → sk_W Γ m_law 1101 25936 23 [(0, .ref sk_scr), (1, .ref 0), (2, .ref 41), (3, .ref 61), (4, .int (x4 + 5))] [] sk_gg I J kc kn Q) ∧ (¬ (lg_cmp (J 61 0) (Int32.toInt64 x6)) = 0 → (kc ≤ 1101 ∧ kn ≤ 25936) ∧ Q (.inl (some (.int 0))) sk_gg I J))) ∧ (¬ u0 = x5 → (kc ≤ 1101 ∧ kn ≤ 25936) ∧ Q (.inl (some (.int 0))) sk_gg I J)) : sk_W Γ m_law 1101 25936 584 [(0, .ref sk_scr), (1, .ref 0), (2, .ref 41), (3, .ref 61), (4, .int x4), (5, .int x5), (6, .int x6)] [.int u0] sk_gg I J kc kn Q := by
  refine sk_iload (j := 5) d_law_584 rfl ?_
  refine sk_icmp_eq (tgt := 591) d_law_586 (by decide) (fun hc => ?_) (fun hc => ?_)
  · replace h := h.1 hc
    refine sk_iload (j := 5) d_law_591 rfl ?_
    refine sk_if_ne (tgt := 608) d_law_593 (by decide) (fun hc => ?_) (fun hc => ?_)
    · replace h := h.1 hc
      refine sk_goto (tgt := 1174) d_law_608 (by decide) ?_
      refine sk_iinc (j := 4) (v := x4 + 5) d_law_1174 rfl (by rfl) (by decide) rfl ?_
      refine sk_goto (tgt := 23) d_law_1177 (by decide) ?_
      refine sk_loc [1, 2, 3, 4, 0] rfl ?_
      exact h
    · replace h := h.2 hc
      refine sk_aload_n (j := 3) d_law_596 rfl rfl ?_
      refine sk_iconst (v := 0) d_law_597 (by decide) ?_
      refine sk_lald d_law_598 sh_61 (by unfold vp_in; decide) ?_
      refine q_cvl (y := J 61 0) rfl ?_
      refine sk_iload (j := 6) d_law_599 rfl ?_
      refine sk_i2l d_law_601 ?_
      refine sk_lcmp d_law_602 ?_
      refine sk_if_eq (tgt := 608) d_law_603 (by decide) (fun hc => ?_) (fun hc => ?_)
      · replace h := h.1 hc
        refine sk_goto (tgt := 1174) d_law_608 (by decide) ?_
        refine sk_iinc (j := 4) (v := x4 + 5) d_law_1174 rfl (by rfl) (by decide) rfl ?_
        refine sk_goto (tgt := 23) d_law_1177 (by decide) ?_
        refine sk_loc [1, 2, 3, 4, 0] rfl ?_
        exact h
      · replace h := h.2 hc
        refine sk_iconst (v := 0) d_law_606 (by decide) ?_
        exact q_zreturn d_law_607 rfl (by decide) h.1.1 h.1.2 h.2
  · replace h := h.2 hc
    refine sk_iconst (v := 0) d_law_589 (by decide) ?_
    exact q_zreturn d_law_590 rfl (by decide) h.1.1 h.1.2 h.2
theorem s_law_633 {Γ : sk_T} {I : sk_I} {J : sk_J} {Q : sk_Q} {x4 : Int32} {u0 : Int32} {kc kn : Nat} (h : vp_in (x4 + 1) (sk_len Γ) ∧ vp_in (x4 + 2) (sk_len Γ) ∧ vp_in (x4 + 3) (sk_len Γ) ∧ (kc ≤ 1101 ∧ kn ≤ 25936) ∧ sk_S Γ m_M_fault 0 0 (.ref 41 :: [.int (sk_xs Γ (x4 + 1).toNatClampNeg), .int (sk_xs Γ (x4 + 2).toNatClampNeg), .int (sk_xs Γ (x4 + 3).toNatClampNeg)]) sk_gg I J (sk_Ki fun v' I' J' => sk_W Γ m_law 1101 25936 655 [(0, .ref sk_scr), (1, .ref 0), (2, .ref 41), (3, .ref 61), (4, .int x4)] [.int v', .int u0] sk_gg I' J' kc kn Q)) : sk_W Γ m_law 1101 25936 633 [(0, .ref sk_scr), (1, .ref 0), (2, .ref 41), (3, .ref 61), (4, .int x4)] [.int u0] sk_gg I J kc kn Q := by
  refine sk_aload_n (j := 2) d_law_633 rfl rfl ?_
  refine sk_aload_n (j := 0) d_law_634 rfl rfl ?_
  refine sk_iload (j := 4) d_law_635 rfl ?_
  refine sk_iconst (v := 1) d_law_637 (by decide) ?_
  refine sk_iadd d_law_638 ?_
  obtain ⟨hb, h⟩ := h
  refine sk_sald d_law_639 hb ?_
  refine sk_aload_n (j := 0) d_law_640 rfl rfl ?_
  refine sk_iload (j := 4) d_law_641 rfl ?_
  refine sk_iconst (v := 2) d_law_643 (by decide) ?_
  refine sk_iadd d_law_644 ?_
  obtain ⟨hb, h⟩ := h
  refine sk_sald d_law_645 hb ?_
  refine sk_aload_n (j := 0) d_law_646 rfl rfl ?_
  refine sk_iload (j := 4) d_law_647 rfl ?_
  refine sk_iconst (v := 3) d_law_649 (by decide) ?_
  refine sk_iadd d_law_650 ?_
  obtain ⟨hb, h⟩ := h
  refine sk_sald d_law_651 hb ?_
  exact q_callVi (S := [.int u0]) (as := [.int (sk_xs Γ (x4 + 1).toNatClampNeg), .int (sk_xs Γ (x4 + 2).toNatClampNeg), .int (sk_xs Γ (x4 + 3).toNatClampNeg)]) d_law_652 lk_L_108 sh_41 ⟨_, rfl⟩ rfl ⟨by decide, by decide⟩ (Nat.le_of_ble_eq_true rfl) rfl h.1.1 h.1.2 h.2
theorem s_law_655 {Γ : sk_T} {I : sk_I} {J : sk_J} {Q : sk_Q} {x4 : Int32} {u0 : Int32} {u1 : Int32} {kc kn : Nat} (h : (u0 = u1 → sk_W Γ m_law 1101 25936 23 [(0, .ref sk_scr), (1, .ref 0), (2, .ref 41), (3, .ref 61), (4, .int (x4 + 5))] [] sk_gg I J kc kn Q) ∧ (¬ u0 = u1 → (kc ≤ 1101 ∧ kn ≤ 25936) ∧ Q (.inl (some (.int 0))) sk_gg I J)) : sk_W Γ m_law 1101 25936 655 [(0, .ref sk_scr), (1, .ref 0), (2, .ref 41), (3, .ref 61), (4, .int x4)] [.int u1, .int u0] sk_gg I J kc kn Q := by
  refine sk_icmp_eq (tgt := 1174) d_law_655 (by decide) (fun hc => ?_) (fun hc => ?_)
  · replace h := h.1 hc
    refine sk_iinc (j := 4) (v := x4 + 5) d_law_1174 rfl (by rfl) (by decide) rfl ?_
    refine sk_goto (tgt := 23) d_law_1177 (by decide) ?_
    refine sk_loc [1, 2, 3, 4, 0] rfl ?_
    exact h
  · replace h := h.2 hc
    refine sk_iconst (v := 0) d_law_658 (by decide) ?_
    exact q_zreturn d_law_659 rfl (by decide) h.1.1 h.1.2 h.2
theorem s_law_677 {Γ : sk_T} {I : sk_I} {J : sk_J} {Q : sk_Q} {x4 : Int32} {u0 : Int32} {kc kn : Nat} (h : vp_in (x4 + 1) (sk_len Γ) ∧ vp_in (x4 + 2) (sk_len Γ) ∧ (kc ≤ 1101 ∧ kn ≤ 25936) ∧ sk_S Γ m_M_faultAt 0 0 (.ref 41 :: [.int (sk_xs Γ (x4 + 1).toNatClampNeg), .int (sk_xs Γ (x4 + 2).toNatClampNeg)]) sk_gg I J (sk_Ki fun v' I' J' => sk_W Γ m_law 1101 25936 695 [(0, .ref sk_scr), (1, .ref 0), (2, .ref 41), (3, .ref 61), (4, .int x4), (5, .int u0)] [.int v'] sk_gg I' J' kc kn Q)) : sk_W Γ m_law 1101 25936 677 [(0, .ref sk_scr), (1, .ref 0), (2, .ref 41), (3, .ref 61), (4, .int x4)] [.int u0] sk_gg I J kc kn Q := by
  refine sk_istore d_law_677 (by decide) rfl ?_
  refine sk_aload_n (j := 3) d_law_679 rfl rfl ?_
  refine sk_aload_n (j := 1) d_law_680 rfl rfl ?_
  refine sk_iload (j := 5) d_law_681 rfl ?_
  refine sk_iconst (v := 1) d_law_683 (by decide) ?_
  refine sk_iadd d_law_684 ?_
  obtain ⟨hb, h⟩ := h
  refine sk_sald d_law_685 hb ?_
  refine sk_aload_n (j := 1) d_law_686 rfl rfl ?_
  refine sk_iload (j := 5) d_law_687 rfl ?_
  refine sk_iconst (v := 2) d_law_689 (by decide) ?_
  refine sk_iadd d_law_690 ?_
  obtain ⟨hb, h⟩ := h
  refine sk_sald d_law_691 hb ?_
  refine sk_loc [1, 2, 3, 4, 5, 0] rfl ?_
  exact q_callVi (S := []) (as := [.int (sk_xs Γ (x4 + 1).toNatClampNeg), .int (sk_xs Γ (x4 + 2).toNatClampNeg)]) d_law_692 lk_L_111 sh_41 ⟨_, rfl⟩ rfl ⟨by decide, by decide⟩ (Nat.le_of_ble_eq_true rfl) rfl h.1.1 h.1.2 h.2
theorem s_law_695 {Γ : sk_T} {I : sk_I} {J : sk_J} {Q : sk_Q} {x4 : Int32} {x5 : Int32} {u0 : Int32} {kc kn : Nat} (h : (kc ≤ 1101 ∧ kn ≤ 25936) ∧ sk_S Γ m_M_thrown 0 0 (.ref 41 :: []) sk_gg I J (sk_Ki fun v' I' J' => sk_W Γ m_law 1101 25936 701 [(0, .ref sk_scr), (1, .ref 0), (2, .ref 41), (3, .ref 61), (4, .int x4), (5, .int x5), (6, .int u0)] [.int v'] sk_gg I' J' kc kn Q)) : sk_W Γ m_law 1101 25936 695 [(0, .ref sk_scr), (1, .ref 0), (2, .ref 41), (3, .ref 61), (4, .int x4), (5, .int x5)] [.int u0] sk_gg I J kc kn Q := by
  refine sk_istore d_law_695 (by decide) rfl ?_
  refine sk_aload_n (j := 3) d_law_697 rfl rfl ?_
  refine sk_loc [1, 2, 3, 4, 5, 6, 0] rfl ?_
  exact q_callVi (S := []) (as := []) d_law_698 lk_L_78 sh_41 ⟨_, rfl⟩ rfl ⟨by decide, by decide⟩ (Nat.le_of_ble_eq_true rfl) rfl h.1.1 h.1.2 h.2
theorem s_law_701 {Γ : sk_T} {I : sk_I} {J : sk_J} {Q : sk_Q} {x4 : Int32} {x5 : Int32} {x6 : Int32} {u0 : Int32} {kc kn : Nat} (h : (u0 = x5 → (¬ x5 = 0 → sk_W Γ m_law 1101 25936 23 [(0, .ref sk_scr), (1, .ref 0), (2, .ref 41), (3, .ref 61), (4, .int (x4 + 5))] [] sk_gg I J kc kn Q) ∧ (x5 = 0 → ((lg_cmp (J 61 0) (Int32.toInt64 x6)) = 0 → sk_W Γ m_law 1101 25936 23 [(0, .ref sk_scr), (1, .ref 0), (2, .ref 41), (3, .ref 61), (4, .int (x4 + 5))] [] sk_gg I J kc kn Q) ∧ (¬ (lg_cmp (J 61 0) (Int32.toInt64 x6)) = 0 → (kc ≤ 1101 ∧ kn ≤ 25936) ∧ Q (.inl (some (.int 0))) sk_gg I J))) ∧ (¬ u0 = x5 → (kc ≤ 1101 ∧ kn ≤ 25936) ∧ Q (.inl (some (.int 0))) sk_gg I J)) : sk_W Γ m_law 1101 25936 701 [(0, .ref sk_scr), (1, .ref 0), (2, .ref 41), (3, .ref 61), (4, .int x4), (5, .int x5), (6, .int x6)] [.int u0] sk_gg I J kc kn Q := by
  refine sk_iload (j := 5) d_law_701 rfl ?_
  refine sk_icmp_eq (tgt := 708) d_law_703 (by decide) (fun hc => ?_) (fun hc => ?_)
  · replace h := h.1 hc
    refine sk_iload (j := 5) d_law_708 rfl ?_
    refine sk_if_ne (tgt := 725) d_law_710 (by decide) (fun hc => ?_) (fun hc => ?_)
    · replace h := h.1 hc
      refine sk_goto (tgt := 1174) d_law_725 (by decide) ?_
      refine sk_iinc (j := 4) (v := x4 + 5) d_law_1174 rfl (by rfl) (by decide) rfl ?_
      refine sk_goto (tgt := 23) d_law_1177 (by decide) ?_
      refine sk_loc [1, 2, 3, 4, 0] rfl ?_
      exact h
    · replace h := h.2 hc
      refine sk_aload_n (j := 3) d_law_713 rfl rfl ?_
      refine sk_iconst (v := 0) d_law_714 (by decide) ?_
      refine sk_lald d_law_715 sh_61 (by unfold vp_in; decide) ?_
      refine q_cvl (y := J 61 0) rfl ?_
      refine sk_iload (j := 6) d_law_716 rfl ?_
      refine sk_i2l d_law_718 ?_
      refine sk_lcmp d_law_719 ?_
      refine sk_if_eq (tgt := 725) d_law_720 (by decide) (fun hc => ?_) (fun hc => ?_)
      · replace h := h.1 hc
        refine sk_goto (tgt := 1174) d_law_725 (by decide) ?_
        refine sk_iinc (j := 4) (v := x4 + 5) d_law_1174 rfl (by rfl) (by decide) rfl ?_
        refine sk_goto (tgt := 23) d_law_1177 (by decide) ?_
        refine sk_loc [1, 2, 3, 4, 0] rfl ?_
        exact h
      · replace h := h.2 hc
        refine sk_iconst (v := 0) d_law_723 (by decide) ?_
        exact q_zreturn d_law_724 rfl (by decide) h.1.1 h.1.2 h.2
  · replace h := h.2 hc
    refine sk_iconst (v := 0) d_law_706 (by decide) ?_
    exact q_zreturn d_law_707 rfl (by decide) h.1.1 h.1.2 h.2
theorem s_law_739 {Γ : sk_T} {I : sk_I} {J : sk_J} {Q : sk_Q} {x4 : Int32} {u0 : Int32} {kc kn : Nat} (h : vp_in (x4 + 1) (sk_len Γ) ∧ (kc ≤ 1101 ∧ kn ≤ 25936) ∧ sk_S Γ m_M_least 0 0 (.ref 41 :: [.int (sk_xs Γ (x4 + 1).toNatClampNeg)]) sk_gg I J (sk_Ki fun v' I' J' => sk_W Γ m_law 1101 25936 751 [(0, .ref sk_scr), (1, .ref 0), (2, .ref 41), (3, .ref 61), (4, .int x4), (5, .int u0)] [.int v'] sk_gg I' J' kc kn Q)) : sk_W Γ m_law 1101 25936 739 [(0, .ref sk_scr), (1, .ref 0), (2, .ref 41), (3, .ref 61), (4, .int x4)] [.int u0] sk_gg I J kc kn Q := by
  refine sk_istore d_law_739 (by decide) rfl ?_
  refine sk_aload_n (j := 3) d_law_741 rfl rfl ?_
  refine sk_aload_n (j := 1) d_law_742 rfl rfl ?_
  refine sk_iload (j := 5) d_law_743 rfl ?_
  refine sk_iconst (v := 1) d_law_745 (by decide) ?_
  refine sk_iadd d_law_746 ?_
  obtain ⟨hb, h⟩ := h
  refine sk_sald d_law_747 hb ?_
  refine sk_loc [1, 2, 3, 4, 5, 0] rfl ?_
  exact q_callVi (S := []) (as := [.int (sk_xs Γ (x4 + 1).toNatClampNeg)]) d_law_748 lk_L_114 sh_41 ⟨_, rfl⟩ rfl ⟨by decide, by decide⟩ (Nat.le_of_ble_eq_true rfl) rfl h.1.1 h.1.2 h.2
theorem s_law_751 {Γ : sk_T} {I : sk_I} {J : sk_J} {Q : sk_Q} {x4 : Int32} {x5 : Int32} {u0 : Int32} {kc kn : Nat} (h : (kc ≤ 1101 ∧ kn ≤ 25936) ∧ sk_S Γ m_M_thrown 0 0 (.ref 41 :: []) sk_gg I J (sk_Ki fun v' I' J' => sk_W Γ m_law 1101 25936 757 [(0, .ref sk_scr), (1, .ref 0), (2, .ref 41), (3, .ref 61), (4, .int x4), (5, .int x5), (6, .int u0)] [.int v'] sk_gg I' J' kc kn Q)) : sk_W Γ m_law 1101 25936 751 [(0, .ref sk_scr), (1, .ref 0), (2, .ref 41), (3, .ref 61), (4, .int x4), (5, .int x5)] [.int u0] sk_gg I J kc kn Q := by
  refine sk_istore d_law_751 (by decide) rfl ?_
  refine sk_aload_n (j := 3) d_law_753 rfl rfl ?_
  refine sk_loc [1, 2, 3, 4, 5, 6, 0] rfl ?_
  exact q_callVi (S := []) (as := []) d_law_754 lk_L_78 sh_41 ⟨_, rfl⟩ rfl ⟨by decide, by decide⟩ (Nat.le_of_ble_eq_true rfl) rfl h.1.1 h.1.2 h.2
theorem s_law_757 {Γ : sk_T} {I : sk_I} {J : sk_J} {Q : sk_Q} {x4 : Int32} {x5 : Int32} {x6 : Int32} {u0 : Int32} {kc kn : Nat} (h : (u0 = x5 → (¬ x5 = 0 → sk_W Γ m_law 1101 25936 23 [(0, .ref sk_scr), (1, .ref 0), (2, .ref 41), (3, .ref 61), (4, .int (x4 + 5))] [] sk_gg I J kc kn Q) ∧ (x5 = 0 → ((lg_cmp (J 61 0) (Int32.toInt64 x6)) = 0 → sk_W Γ m_law 1101 25936 23 [(0, .ref sk_scr), (1, .ref 0), (2, .ref 41), (3, .ref 61), (4, .int (x4 + 5))] [] sk_gg I J kc kn Q) ∧ (¬ (lg_cmp (J 61 0) (Int32.toInt64 x6)) = 0 → (kc ≤ 1101 ∧ kn ≤ 25936) ∧ Q (.inl (some (.int 0))) sk_gg I J))) ∧ (¬ u0 = x5 → (kc ≤ 1101 ∧ kn ≤ 25936) ∧ Q (.inl (some (.int 0))) sk_gg I J)) : sk_W Γ m_law 1101 25936 757 [(0, .ref sk_scr), (1, .ref 0), (2, .ref 41), (3, .ref 61), (4, .int x4), (5, .int x5), (6, .int x6)] [.int u0] sk_gg I J kc kn Q := by
  refine sk_iload (j := 5) d_law_757 rfl ?_
  refine sk_icmp_eq (tgt := 764) d_law_759 (by decide) (fun hc => ?_) (fun hc => ?_)
  · replace h := h.1 hc
    refine sk_iload (j := 5) d_law_764 rfl ?_
    refine sk_if_ne (tgt := 781) d_law_766 (by decide) (fun hc => ?_) (fun hc => ?_)
    · replace h := h.1 hc
      refine sk_goto (tgt := 1174) d_law_781 (by decide) ?_
      refine sk_iinc (j := 4) (v := x4 + 5) d_law_1174 rfl (by rfl) (by decide) rfl ?_
      refine sk_goto (tgt := 23) d_law_1177 (by decide) ?_
      refine sk_loc [1, 2, 3, 4, 0] rfl ?_
      exact h
    · replace h := h.2 hc
      refine sk_aload_n (j := 3) d_law_769 rfl rfl ?_
      refine sk_iconst (v := 0) d_law_770 (by decide) ?_
      refine sk_lald d_law_771 sh_61 (by unfold vp_in; decide) ?_
      refine q_cvl (y := J 61 0) rfl ?_
      refine sk_iload (j := 6) d_law_772 rfl ?_
      refine sk_i2l d_law_774 ?_
      refine sk_lcmp d_law_775 ?_
      refine sk_if_eq (tgt := 781) d_law_776 (by decide) (fun hc => ?_) (fun hc => ?_)
      · replace h := h.1 hc
        refine sk_goto (tgt := 1174) d_law_781 (by decide) ?_
        refine sk_iinc (j := 4) (v := x4 + 5) d_law_1174 rfl (by rfl) (by decide) rfl ?_
        refine sk_goto (tgt := 23) d_law_1177 (by decide) ?_
        refine sk_loc [1, 2, 3, 4, 0] rfl ?_
        exact h
      · replace h := h.2 hc
        refine sk_iconst (v := 0) d_law_779 (by decide) ?_
        exact q_zreturn d_law_780 rfl (by decide) h.1.1 h.1.2 h.2
  · replace h := h.2 hc
    refine sk_iconst (v := 0) d_law_762 (by decide) ?_
    exact q_zreturn d_law_763 rfl (by decide) h.1.1 h.1.2 h.2
theorem s_law_795 {Γ : sk_T} {I : sk_I} {J : sk_J} {Q : sk_Q} {x4 : Int32} {u0 : Int32} {kc kn : Nat} (h : vp_in (x4 + 1) (sk_len Γ) ∧ (kc ≤ 1101 ∧ kn ≤ 25936) ∧ sk_S Γ m_M_showing 0 0 (.ref 41 :: [.int (sk_xs Γ (x4 + 1).toNatClampNeg)]) sk_gg I J (sk_Kl fun v' I' J' => sk_W Γ m_law 1101 25936 807 [(0, .ref sk_scr), (1, .ref 0), (2, .ref 41), (3, .ref 61), (4, .int x4), (5, .int u0)] [.long v'] sk_gg I' J' kc kn Q)) : sk_W Γ m_law 1101 25936 795 [(0, .ref sk_scr), (1, .ref 0), (2, .ref 41), (3, .ref 61), (4, .int x4)] [.int u0] sk_gg I J kc kn Q := by
  refine sk_istore d_law_795 (by decide) rfl ?_
  refine sk_aload_n (j := 3) d_law_797 rfl rfl ?_
  refine sk_aload_n (j := 1) d_law_798 rfl rfl ?_
  refine sk_iload (j := 5) d_law_799 rfl ?_
  refine sk_iconst (v := 1) d_law_801 (by decide) ?_
  refine sk_iadd d_law_802 ?_
  obtain ⟨hb, h⟩ := h
  refine sk_sald d_law_803 hb ?_
  refine sk_loc [1, 2, 3, 4, 5, 0] rfl ?_
  exact q_callVl (S := []) (as := [.int (sk_xs Γ (x4 + 1).toNatClampNeg)]) d_law_804 lk_L_117 sh_41 ⟨_, rfl⟩ rfl ⟨by decide, by decide⟩ (Nat.le_of_ble_eq_true rfl) rfl h.1.1 h.1.2 h.2
theorem s_law_807 {Γ : sk_T} {I : sk_I} {J : sk_J} {Q : sk_Q} {x4 : Int32} {x5 : Int32} {w0 : Int64} {kc kn : Nat} (h : (kc ≤ 1101 ∧ kn ≤ 25936) ∧ sk_S Γ m_M_thrown 0 0 (.ref 41 :: []) sk_gg I J (sk_Ki fun v' I' J' => sk_W Γ m_law 1101 25936 813 [(0, .ref sk_scr), (1, .ref 0), (2, .ref 41), (3, .ref 61), (4, .int x4), (5, .int x5), (6, .long w0)] [.int v'] sk_gg I' J' kc kn Q)) : sk_W Γ m_law 1101 25936 807 [(0, .ref sk_scr), (1, .ref 0), (2, .ref 41), (3, .ref 61), (4, .int x4), (5, .int x5)] [.long w0] sk_gg I J kc kn Q := by
  refine sk_lstore d_law_807 (by decide) rfl ?_
  refine sk_aload_n (j := 3) d_law_809 rfl rfl ?_
  refine sk_loc [1, 2, 3, 4, 5, 6, 0] rfl ?_
  exact q_callVi (S := []) (as := []) d_law_810 lk_L_78 sh_41 ⟨_, rfl⟩ rfl ⟨by decide, by decide⟩ (Nat.le_of_ble_eq_true rfl) rfl h.1.1 h.1.2 h.2
theorem s_law_813 {Γ : sk_T} {I : sk_I} {J : sk_J} {Q : sk_Q} {x4 : Int32} {x5 : Int32} {y6 : Int64} {u0 : Int32} {kc kn : Nat} (h : (u0 = x5 → (¬ x5 = 0 → sk_W Γ m_law 1101 25936 23 [(0, .ref sk_scr), (1, .ref 0), (2, .ref 41), (3, .ref 61), (4, .int (x4 + 5))] [] sk_gg I J kc kn Q) ∧ (x5 = 0 → ((lg_cmp (J 61 0) y6) = 0 → sk_W Γ m_law 1101 25936 23 [(0, .ref sk_scr), (1, .ref 0), (2, .ref 41), (3, .ref 61), (4, .int (x4 + 5))] [] sk_gg I J kc kn Q) ∧ (¬ (lg_cmp (J 61 0) y6) = 0 → (kc ≤ 1101 ∧ kn ≤ 25936) ∧ Q (.inl (some (.int 0))) sk_gg I J))) ∧ (¬ u0 = x5 → (kc ≤ 1101 ∧ kn ≤ 25936) ∧ Q (.inl (some (.int 0))) sk_gg I J)) : sk_W Γ m_law 1101 25936 813 [(0, .ref sk_scr), (1, .ref 0), (2, .ref 41), (3, .ref 61), (4, .int x4), (5, .int x5), (6, .long y6)] [.int u0] sk_gg I J kc kn Q := by
  refine sk_iload (j := 5) d_law_813 rfl ?_
  refine sk_icmp_eq (tgt := 820) d_law_815 (by decide) (fun hc => ?_) (fun hc => ?_)
  · replace h := h.1 hc
    refine sk_iload (j := 5) d_law_820 rfl ?_
    refine sk_if_ne (tgt := 836) d_law_822 (by decide) (fun hc => ?_) (fun hc => ?_)
    · replace h := h.1 hc
      refine sk_goto (tgt := 1174) d_law_836 (by decide) ?_
      refine sk_iinc (j := 4) (v := x4 + 5) d_law_1174 rfl (by rfl) (by decide) rfl ?_
      refine sk_goto (tgt := 23) d_law_1177 (by decide) ?_
      refine sk_loc [1, 2, 3, 4, 0] rfl ?_
      exact h
    · replace h := h.2 hc
      refine sk_aload_n (j := 3) d_law_825 rfl rfl ?_
      refine sk_iconst (v := 0) d_law_826 (by decide) ?_
      refine sk_lald d_law_827 sh_61 (by unfold vp_in; decide) ?_
      refine q_cvl (y := J 61 0) rfl ?_
      refine sk_lload (j := 6) d_law_828 rfl ?_
      refine sk_lcmp d_law_830 ?_
      refine sk_if_eq (tgt := 836) d_law_831 (by decide) (fun hc => ?_) (fun hc => ?_)
      · replace h := h.1 hc
        refine sk_goto (tgt := 1174) d_law_836 (by decide) ?_
        refine sk_iinc (j := 4) (v := x4 + 5) d_law_1174 rfl (by rfl) (by decide) rfl ?_
        refine sk_goto (tgt := 23) d_law_1177 (by decide) ?_
        refine sk_loc [1, 2, 3, 4, 0] rfl ?_
        exact h
      · replace h := h.2 hc
        refine sk_iconst (v := 0) d_law_834 (by decide) ?_
        exact q_zreturn d_law_835 rfl (by decide) h.1.1 h.1.2 h.2
  · replace h := h.2 hc
    refine sk_iconst (v := 0) d_law_818 (by decide) ?_
    exact q_zreturn d_law_819 rfl (by decide) h.1.1 h.1.2 h.2
theorem s_law_850 {Γ : sk_T} {I : sk_I} {J : sk_J} {Q : sk_Q} {x4 : Int32} {u0 : Int32} {kc kn : Nat} (h : vp_in (x4 + 1) (sk_len Γ) ∧ (kc ≤ 1101 ∧ kn ≤ 25936) ∧ sk_S Γ m_M_alike 0 0 (.ref 41 :: [.int (sk_xs Γ (x4 + 1).toNatClampNeg)]) sk_gg I J (sk_Ki fun v' I' J' => sk_W Γ m_law 1101 25936 862 [(0, .ref sk_scr), (1, .ref 0), (2, .ref 41), (3, .ref 61), (4, .int x4), (5, .int u0)] [.int v'] sk_gg I' J' kc kn Q)) : sk_W Γ m_law 1101 25936 850 [(0, .ref sk_scr), (1, .ref 0), (2, .ref 41), (3, .ref 61), (4, .int x4)] [.int u0] sk_gg I J kc kn Q := by
  refine sk_istore d_law_850 (by decide) rfl ?_
  refine sk_aload_n (j := 3) d_law_852 rfl rfl ?_
  refine sk_aload_n (j := 1) d_law_853 rfl rfl ?_
  refine sk_iload (j := 5) d_law_854 rfl ?_
  refine sk_iconst (v := 1) d_law_856 (by decide) ?_
  refine sk_iadd d_law_857 ?_
  obtain ⟨hb, h⟩ := h
  refine sk_sald d_law_858 hb ?_
  refine sk_loc [1, 2, 3, 4, 5, 0] rfl ?_
  exact q_callVi (S := []) (as := [.int (sk_xs Γ (x4 + 1).toNatClampNeg)]) d_law_859 lk_L_120 sh_41 ⟨_, rfl⟩ rfl ⟨by decide, by decide⟩ (Nat.le_of_ble_eq_true rfl) rfl h.1.1 h.1.2 h.2
theorem s_law_862 {Γ : sk_T} {I : sk_I} {J : sk_J} {Q : sk_Q} {x4 : Int32} {x5 : Int32} {u0 : Int32} {kc kn : Nat} (h : (kc ≤ 1101 ∧ kn ≤ 25936) ∧ sk_S Γ m_M_thrown 0 0 (.ref 41 :: []) sk_gg I J (sk_Ki fun v' I' J' => sk_W Γ m_law 1101 25936 868 [(0, .ref sk_scr), (1, .ref 0), (2, .ref 41), (3, .ref 61), (4, .int x4), (5, .int x5), (6, .int u0)] [.int v'] sk_gg I' J' kc kn Q)) : sk_W Γ m_law 1101 25936 862 [(0, .ref sk_scr), (1, .ref 0), (2, .ref 41), (3, .ref 61), (4, .int x4), (5, .int x5)] [.int u0] sk_gg I J kc kn Q := by
  refine sk_istore d_law_862 (by decide) rfl ?_
  refine sk_aload_n (j := 3) d_law_864 rfl rfl ?_
  refine sk_loc [1, 2, 3, 4, 5, 6, 0] rfl ?_
  exact q_callVi (S := []) (as := []) d_law_865 lk_L_78 sh_41 ⟨_, rfl⟩ rfl ⟨by decide, by decide⟩ (Nat.le_of_ble_eq_true rfl) rfl h.1.1 h.1.2 h.2
theorem s_law_868 {Γ : sk_T} {I : sk_I} {J : sk_J} {Q : sk_Q} {x4 : Int32} {x5 : Int32} {x6 : Int32} {u0 : Int32} {kc kn : Nat} (h : (u0 = x5 → (¬ x5 = 0 → sk_W Γ m_law 1101 25936 23 [(0, .ref sk_scr), (1, .ref 0), (2, .ref 41), (3, .ref 61), (4, .int (x4 + 5))] [] sk_gg I J kc kn Q) ∧ (x5 = 0 → ((lg_cmp (J 61 0) (Int32.toInt64 x6)) = 0 → sk_W Γ m_law 1101 25936 23 [(0, .ref sk_scr), (1, .ref 0), (2, .ref 41), (3, .ref 61), (4, .int (x4 + 5))] [] sk_gg I J kc kn Q) ∧ (¬ (lg_cmp (J 61 0) (Int32.toInt64 x6)) = 0 → (kc ≤ 1101 ∧ kn ≤ 25936) ∧ Q (.inl (some (.int 0))) sk_gg I J))) ∧ (¬ u0 = x5 → (kc ≤ 1101 ∧ kn ≤ 25936) ∧ Q (.inl (some (.int 0))) sk_gg I J)) : sk_W Γ m_law 1101 25936 868 [(0, .ref sk_scr), (1, .ref 0), (2, .ref 41), (3, .ref 61), (4, .int x4), (5, .int x5), (6, .int x6)] [.int u0] sk_gg I J kc kn Q := by
  refine sk_iload (j := 5) d_law_868 rfl ?_
  refine sk_icmp_eq (tgt := 875) d_law_870 (by decide) (fun hc => ?_) (fun hc => ?_)
  · replace h := h.1 hc
    refine sk_iload (j := 5) d_law_875 rfl ?_
    refine sk_if_ne (tgt := 892) d_law_877 (by decide) (fun hc => ?_) (fun hc => ?_)
    · replace h := h.1 hc
      refine sk_goto (tgt := 1174) d_law_892 (by decide) ?_
      refine sk_iinc (j := 4) (v := x4 + 5) d_law_1174 rfl (by rfl) (by decide) rfl ?_
      refine sk_goto (tgt := 23) d_law_1177 (by decide) ?_
      refine sk_loc [1, 2, 3, 4, 0] rfl ?_
      exact h
    · replace h := h.2 hc
      refine sk_aload_n (j := 3) d_law_880 rfl rfl ?_
      refine sk_iconst (v := 0) d_law_881 (by decide) ?_
      refine sk_lald d_law_882 sh_61 (by unfold vp_in; decide) ?_
      refine q_cvl (y := J 61 0) rfl ?_
      refine sk_iload (j := 6) d_law_883 rfl ?_
      refine sk_i2l d_law_885 ?_
      refine sk_lcmp d_law_886 ?_
      refine sk_if_eq (tgt := 892) d_law_887 (by decide) (fun hc => ?_) (fun hc => ?_)
      · replace h := h.1 hc
        refine sk_goto (tgt := 1174) d_law_892 (by decide) ?_
        refine sk_iinc (j := 4) (v := x4 + 5) d_law_1174 rfl (by rfl) (by decide) rfl ?_
        refine sk_goto (tgt := 23) d_law_1177 (by decide) ?_
        refine sk_loc [1, 2, 3, 4, 0] rfl ?_
        exact h
      · replace h := h.2 hc
        refine sk_iconst (v := 0) d_law_890 (by decide) ?_
        exact q_zreturn d_law_891 rfl (by decide) h.1.1 h.1.2 h.2
  · replace h := h.2 hc
    refine sk_iconst (v := 0) d_law_873 (by decide) ?_
    exact q_zreturn d_law_874 rfl (by decide) h.1.1 h.1.2 h.2
theorem s_law_924 {Γ : sk_T} {I : sk_I} {J : sk_J} {Q : sk_Q} {x4 : Int32} {u0 : Int32} {kc kn : Nat} (h : vp_in (x4 + 1) (sk_len Γ) ∧ vp_in (x4 + 2) (sk_len Γ) ∧ vp_in (x4 + 3) (sk_len Γ) ∧ vp_in (x4 + 4) (sk_len Γ) ∧ (kc ≤ 1101 ∧ kn ≤ 25936) ∧ sk_S Γ m_M_ternary 0 0 (.ref 41 :: [.int (sk_xs Γ (x4 + 1).toNatClampNeg), .int (sk_xs Γ (x4 + 2).toNatClampNeg), .int (sk_xs Γ (x4 + 3).toNatClampNeg), .int (sk_xs Γ (x4 + 4).toNatClampNeg)]) sk_gg I J (sk_Ki fun v' I' J' => sk_W Γ m_law 1101 25936 954 [(0, .ref sk_scr), (1, .ref 0), (2, .ref 41), (3, .ref 61), (4, .int x4), (5, .int u0)] [.int v'] sk_gg I' J' kc kn Q)) : sk_W Γ m_law 1101 25936 924 [(0, .ref sk_scr), (1, .ref 0), (2, .ref 41), (3, .ref 61), (4, .int x4)] [.int u0] sk_gg I J kc kn Q := by
  refine sk_istore d_law_924 (by decide) rfl ?_
  refine sk_aload_n (j := 3) d_law_926 rfl rfl ?_
  refine sk_aload_n (j := 1) d_law_927 rfl rfl ?_
  refine sk_iload (j := 5) d_law_928 rfl ?_
  refine sk_iconst (v := 1) d_law_930 (by decide) ?_
  refine sk_iadd d_law_931 ?_
  obtain ⟨hb, h⟩ := h
  refine sk_sald d_law_932 hb ?_
  refine sk_aload_n (j := 1) d_law_933 rfl rfl ?_
  refine sk_iload (j := 5) d_law_934 rfl ?_
  refine sk_iconst (v := 2) d_law_936 (by decide) ?_
  refine sk_iadd d_law_937 ?_
  obtain ⟨hb, h⟩ := h
  refine sk_sald d_law_938 hb ?_
  refine sk_aload_n (j := 1) d_law_939 rfl rfl ?_
  refine sk_iload (j := 5) d_law_940 rfl ?_
  refine sk_iconst (v := 3) d_law_942 (by decide) ?_
  refine sk_iadd d_law_943 ?_
  obtain ⟨hb, h⟩ := h
  refine sk_sald d_law_944 hb ?_
  refine sk_aload_n (j := 1) d_law_945 rfl rfl ?_
  refine sk_iload (j := 5) d_law_946 rfl ?_
  refine sk_iconst (v := 4) d_law_948 (by decide) ?_
  refine sk_iadd d_law_949 ?_
  obtain ⟨hb, h⟩ := h
  refine sk_sald d_law_950 hb ?_
  refine sk_loc [1, 2, 3, 4, 5, 0] rfl ?_
  exact q_callVi (S := []) (as := [.int (sk_xs Γ (x4 + 1).toNatClampNeg), .int (sk_xs Γ (x4 + 2).toNatClampNeg), .int (sk_xs Γ (x4 + 3).toNatClampNeg), .int (sk_xs Γ (x4 + 4).toNatClampNeg)]) d_law_951 lk_L_123 sh_41 ⟨_, rfl⟩ rfl ⟨by decide, by decide⟩ (Nat.le_of_ble_eq_true rfl) rfl h.1.1 h.1.2 h.2
theorem s_law_954 {Γ : sk_T} {I : sk_I} {J : sk_J} {Q : sk_Q} {x4 : Int32} {x5 : Int32} {u0 : Int32} {kc kn : Nat} (h : (kc ≤ 1101 ∧ kn ≤ 25936) ∧ sk_S Γ m_M_thrown 0 0 (.ref 41 :: []) sk_gg I J (sk_Ki fun v' I' J' => sk_W Γ m_law 1101 25936 960 [(0, .ref sk_scr), (1, .ref 0), (2, .ref 41), (3, .ref 61), (4, .int x4), (5, .int x5), (6, .int u0)] [.int v'] sk_gg I' J' kc kn Q)) : sk_W Γ m_law 1101 25936 954 [(0, .ref sk_scr), (1, .ref 0), (2, .ref 41), (3, .ref 61), (4, .int x4), (5, .int x5)] [.int u0] sk_gg I J kc kn Q := by
  refine sk_istore d_law_954 (by decide) rfl ?_
  refine sk_aload_n (j := 3) d_law_956 rfl rfl ?_
  refine sk_loc [1, 2, 3, 4, 5, 6, 0] rfl ?_
  exact q_callVi (S := []) (as := []) d_law_957 lk_L_78 sh_41 ⟨_, rfl⟩ rfl ⟨by decide, by decide⟩ (Nat.le_of_ble_eq_true rfl) rfl h.1.1 h.1.2 h.2
theorem s_law_960 {Γ : sk_T} {I : sk_I} {J : sk_J} {Q : sk_Q} {x4 : Int32} {x5 : Int32} {x6 : Int32} {u0 : Int32} {kc kn : Nat} (h : (u0 = x5 → (¬ x5 = 0 → sk_W Γ m_law 1101 25936 23 [(0, .ref sk_scr), (1, .ref 0), (2, .ref 41), (3, .ref 61), (4, .int (x4 + 5))] [] sk_gg I J kc kn Q) ∧ (x5 = 0 → ((lg_cmp (J 61 0) (Int32.toInt64 x6)) = 0 → sk_W Γ m_law 1101 25936 23 [(0, .ref sk_scr), (1, .ref 0), (2, .ref 41), (3, .ref 61), (4, .int (x4 + 5))] [] sk_gg I J kc kn Q) ∧ (¬ (lg_cmp (J 61 0) (Int32.toInt64 x6)) = 0 → (kc ≤ 1101 ∧ kn ≤ 25936) ∧ Q (.inl (some (.int 0))) sk_gg I J))) ∧ (¬ u0 = x5 → (kc ≤ 1101 ∧ kn ≤ 25936) ∧ Q (.inl (some (.int 0))) sk_gg I J)) : sk_W Γ m_law 1101 25936 960 [(0, .ref sk_scr), (1, .ref 0), (2, .ref 41), (3, .ref 61), (4, .int x4), (5, .int x5), (6, .int x6)] [.int u0] sk_gg I J kc kn Q := by
  refine sk_iload (j := 5) d_law_960 rfl ?_
  refine sk_icmp_eq (tgt := 967) d_law_962 (by decide) (fun hc => ?_) (fun hc => ?_)
  · replace h := h.1 hc
    refine sk_iload (j := 5) d_law_967 rfl ?_
    refine sk_if_ne (tgt := 984) d_law_969 (by decide) (fun hc => ?_) (fun hc => ?_)
    · replace h := h.1 hc
      refine sk_goto (tgt := 1174) d_law_984 (by decide) ?_
      refine sk_iinc (j := 4) (v := x4 + 5) d_law_1174 rfl (by rfl) (by decide) rfl ?_
      refine sk_goto (tgt := 23) d_law_1177 (by decide) ?_
      refine sk_loc [1, 2, 3, 4, 0] rfl ?_
      exact h
    · replace h := h.2 hc
      refine sk_aload_n (j := 3) d_law_972 rfl rfl ?_
      refine sk_iconst (v := 0) d_law_973 (by decide) ?_
      refine sk_lald d_law_974 sh_61 (by unfold vp_in; decide) ?_
      refine q_cvl (y := J 61 0) rfl ?_
      refine sk_iload (j := 6) d_law_975 rfl ?_
      refine sk_i2l d_law_977 ?_
      refine sk_lcmp d_law_978 ?_
      refine sk_if_eq (tgt := 984) d_law_979 (by decide) (fun hc => ?_) (fun hc => ?_)
      · replace h := h.1 hc
        refine sk_goto (tgt := 1174) d_law_984 (by decide) ?_
        refine sk_iinc (j := 4) (v := x4 + 5) d_law_1174 rfl (by rfl) (by decide) rfl ?_
        refine sk_goto (tgt := 23) d_law_1177 (by decide) ?_
        refine sk_loc [1, 2, 3, 4, 0] rfl ?_
        exact h
      · replace h := h.2 hc
        refine sk_iconst (v := 0) d_law_982 (by decide) ?_
        exact q_zreturn d_law_983 rfl (by decide) h.1.1 h.1.2 h.2
  · replace h := h.2 hc
    refine sk_iconst (v := 0) d_law_965 (by decide) ?_
    exact q_zreturn d_law_966 rfl (by decide) h.1.1 h.1.2 h.2
theorem s_law_998 {Γ : sk_T} {I : sk_I} {J : sk_J} {Q : sk_Q} {x4 : Int32} {u0 : Int32} {kc kn : Nat} (h : vp_in (x4 + 1) (sk_len Γ) ∧ (kc ≤ 1101 ∧ kn ≤ 25936) ∧ sk_S Γ m_M_cube 0 0 (.ref 41 :: [.int (sk_xs Γ (x4 + 1).toNatClampNeg)]) sk_gg I J (sk_Ki fun v' I' J' => sk_W Γ m_law 1101 25936 1010 [(0, .ref sk_scr), (1, .ref 0), (2, .ref 41), (3, .ref 61), (4, .int x4), (5, .int u0)] [.int v'] sk_gg I' J' kc kn Q)) : sk_W Γ m_law 1101 25936 998 [(0, .ref sk_scr), (1, .ref 0), (2, .ref 41), (3, .ref 61), (4, .int x4)] [.int u0] sk_gg I J kc kn Q := by
  refine sk_istore d_law_998 (by decide) rfl ?_
  refine sk_aload_n (j := 3) d_law_1000 rfl rfl ?_
  refine sk_aload_n (j := 1) d_law_1001 rfl rfl ?_
  refine sk_iload (j := 5) d_law_1002 rfl ?_
  refine sk_iconst (v := 1) d_law_1004 (by decide) ?_
  refine sk_iadd d_law_1005 ?_
  obtain ⟨hb, h⟩ := h
  refine sk_sald d_law_1006 hb ?_
  refine sk_loc [1, 2, 3, 4, 5, 0] rfl ?_
  exact q_callVi (S := []) (as := [.int (sk_xs Γ (x4 + 1).toNatClampNeg)]) d_law_1007 lk_L_126 sh_41 ⟨_, rfl⟩ rfl ⟨by decide, by decide⟩ (Nat.le_of_ble_eq_true rfl) rfl h.1.1 h.1.2 h.2
theorem s_law_1010 {Γ : sk_T} {I : sk_I} {J : sk_J} {Q : sk_Q} {x4 : Int32} {x5 : Int32} {u0 : Int32} {kc kn : Nat} (h : (kc ≤ 1101 ∧ kn ≤ 25936) ∧ sk_S Γ m_M_thrown 0 0 (.ref 41 :: []) sk_gg I J (sk_Ki fun v' I' J' => sk_W Γ m_law 1101 25936 1016 [(0, .ref sk_scr), (1, .ref 0), (2, .ref 41), (3, .ref 61), (4, .int x4), (5, .int x5), (6, .int u0)] [.int v'] sk_gg I' J' kc kn Q)) : sk_W Γ m_law 1101 25936 1010 [(0, .ref sk_scr), (1, .ref 0), (2, .ref 41), (3, .ref 61), (4, .int x4), (5, .int x5)] [.int u0] sk_gg I J kc kn Q := by
  refine sk_istore d_law_1010 (by decide) rfl ?_
  refine sk_aload_n (j := 3) d_law_1012 rfl rfl ?_
  refine sk_loc [1, 2, 3, 4, 5, 6, 0] rfl ?_
  exact q_callVi (S := []) (as := []) d_law_1013 lk_L_78 sh_41 ⟨_, rfl⟩ rfl ⟨by decide, by decide⟩ (Nat.le_of_ble_eq_true rfl) rfl h.1.1 h.1.2 h.2
theorem s_law_1016 {Γ : sk_T} {I : sk_I} {J : sk_J} {Q : sk_Q} {x4 : Int32} {x5 : Int32} {x6 : Int32} {u0 : Int32} {kc kn : Nat} (h : (u0 = x5 → (¬ x5 = 0 → sk_W Γ m_law 1101 25936 23 [(0, .ref sk_scr), (1, .ref 0), (2, .ref 41), (3, .ref 61), (4, .int (x4 + 5))] [] sk_gg I J kc kn Q) ∧ (x5 = 0 → ((lg_cmp (J 61 0) (Int32.toInt64 x6)) = 0 → sk_W Γ m_law 1101 25936 23 [(0, .ref sk_scr), (1, .ref 0), (2, .ref 41), (3, .ref 61), (4, .int (x4 + 5))] [] sk_gg I J kc kn Q) ∧ (¬ (lg_cmp (J 61 0) (Int32.toInt64 x6)) = 0 → (kc ≤ 1101 ∧ kn ≤ 25936) ∧ Q (.inl (some (.int 0))) sk_gg I J))) ∧ (¬ u0 = x5 → (kc ≤ 1101 ∧ kn ≤ 25936) ∧ Q (.inl (some (.int 0))) sk_gg I J)) : sk_W Γ m_law 1101 25936 1016 [(0, .ref sk_scr), (1, .ref 0), (2, .ref 41), (3, .ref 61), (4, .int x4), (5, .int x5), (6, .int x6)] [.int u0] sk_gg I J kc kn Q := by
  refine sk_iload (j := 5) d_law_1016 rfl ?_
  refine sk_icmp_eq (tgt := 1023) d_law_1018 (by decide) (fun hc => ?_) (fun hc => ?_)
  · replace h := h.1 hc
    refine sk_iload (j := 5) d_law_1023 rfl ?_
    refine sk_if_ne (tgt := 1040) d_law_1025 (by decide) (fun hc => ?_) (fun hc => ?_)
    · replace h := h.1 hc
      refine sk_goto (tgt := 1174) d_law_1040 (by decide) ?_
      refine sk_iinc (j := 4) (v := x4 + 5) d_law_1174 rfl (by rfl) (by decide) rfl ?_
      refine sk_goto (tgt := 23) d_law_1177 (by decide) ?_
      refine sk_loc [1, 2, 3, 4, 0] rfl ?_
      exact h
    · replace h := h.2 hc
      refine sk_aload_n (j := 3) d_law_1028 rfl rfl ?_
      refine sk_iconst (v := 0) d_law_1029 (by decide) ?_
      refine sk_lald d_law_1030 sh_61 (by unfold vp_in; decide) ?_
      refine q_cvl (y := J 61 0) rfl ?_
      refine sk_iload (j := 6) d_law_1031 rfl ?_
      refine sk_i2l d_law_1033 ?_
      refine sk_lcmp d_law_1034 ?_
      refine sk_if_eq (tgt := 1040) d_law_1035 (by decide) (fun hc => ?_) (fun hc => ?_)
      · replace h := h.1 hc
        refine sk_goto (tgt := 1174) d_law_1040 (by decide) ?_
        refine sk_iinc (j := 4) (v := x4 + 5) d_law_1174 rfl (by rfl) (by decide) rfl ?_
        refine sk_goto (tgt := 23) d_law_1177 (by decide) ?_
        refine sk_loc [1, 2, 3, 4, 0] rfl ?_
        exact h
      · replace h := h.2 hc
        refine sk_iconst (v := 0) d_law_1038 (by decide) ?_
        exact q_zreturn d_law_1039 rfl (by decide) h.1.1 h.1.2 h.2
  · replace h := h.2 hc
    refine sk_iconst (v := 0) d_law_1021 (by decide) ?_
    exact q_zreturn d_law_1022 rfl (by decide) h.1.1 h.1.2 h.2
theorem s_law_1053 {Γ : sk_T} {I : sk_I} {J : sk_J} {Q : sk_Q} {x4 : Int32} {u0 : Int32} {kc kn : Nat} (h : vp_in (x4 + 1) (sk_len Γ) ∧ (kc ≤ 1101 ∧ kn ≤ 25936) ∧ sk_S Γ m_M_packed 0 0 (.ref 41 :: [.int (sk_xs Γ (x4 + 1).toNatClampNeg)]) sk_gg I J (sk_Ki fun v' I' J' => sk_W Γ m_law 1101 25936 1063 [(0, .ref sk_scr), (1, .ref 0), (2, .ref 41), (3, .ref 61), (4, .int x4)] [.int v', .int u0] sk_gg I' J' kc kn Q)) : sk_W Γ m_law 1101 25936 1053 [(0, .ref sk_scr), (1, .ref 0), (2, .ref 41), (3, .ref 61), (4, .int x4)] [.int u0] sk_gg I J kc kn Q := by
  refine sk_aload_n (j := 2) d_law_1053 rfl rfl ?_
  refine sk_aload_n (j := 0) d_law_1054 rfl rfl ?_
  refine sk_iload (j := 4) d_law_1055 rfl ?_
  refine sk_iconst (v := 1) d_law_1057 (by decide) ?_
  refine sk_iadd d_law_1058 ?_
  obtain ⟨hb, h⟩ := h
  refine sk_sald d_law_1059 hb ?_
  exact q_callVi (S := [.int u0]) (as := [.int (sk_xs Γ (x4 + 1).toNatClampNeg)]) d_law_1060 lk_L_130 sh_41 ⟨_, rfl⟩ rfl ⟨by decide, by decide⟩ (Nat.le_of_ble_eq_true rfl) rfl h.1.1 h.1.2 h.2
theorem s_law_1063 {Γ : sk_T} {I : sk_I} {J : sk_J} {Q : sk_Q} {x4 : Int32} {u0 : Int32} {u1 : Int32} {kc kn : Nat} (h : (u0 = u1 → sk_W Γ m_law 1101 25936 23 [(0, .ref sk_scr), (1, .ref 0), (2, .ref 41), (3, .ref 61), (4, .int (x4 + 5))] [] sk_gg I J kc kn Q) ∧ (¬ u0 = u1 → (kc ≤ 1101 ∧ kn ≤ 25936) ∧ Q (.inl (some (.int 0))) sk_gg I J)) : sk_W Γ m_law 1101 25936 1063 [(0, .ref sk_scr), (1, .ref 0), (2, .ref 41), (3, .ref 61), (4, .int x4)] [.int u1, .int u0] sk_gg I J kc kn Q := by
  refine sk_icmp_eq (tgt := 1174) d_law_1063 (by decide) (fun hc => ?_) (fun hc => ?_)
  · replace h := h.1 hc
    refine sk_iinc (j := 4) (v := x4 + 5) d_law_1174 rfl (by rfl) (by decide) rfl ?_
    refine sk_goto (tgt := 23) d_law_1177 (by decide) ?_
    refine sk_loc [1, 2, 3, 4, 0] rfl ?_
    exact h
  · replace h := h.2 hc
    refine sk_iconst (v := 0) d_law_1066 (by decide) ?_
    exact q_zreturn d_law_1067 rfl (by decide) h.1.1 h.1.2 h.2
theorem s_law_1085 {Γ : sk_T} {I : sk_I} {J : sk_J} {Q : sk_Q} {x4 : Int32} {u0 : Int32} {kc kn : Nat} (h : vp_in (x4 + 1) (sk_len Γ) ∧ vp_in (x4 + 2) (sk_len Γ) ∧ (kc ≤ 1101 ∧ kn ≤ 25936) ∧ sk_S Γ m_M_log 0 0 (.ref 41 :: [.int (sk_xs Γ (x4 + 1).toNatClampNeg), .int (sk_xs Γ (x4 + 2).toNatClampNeg)]) sk_gg I J (sk_Ki fun v' I' J' => sk_W Γ m_law 1101 25936 1103 [(0, .ref sk_scr), (1, .ref 0), (2, .ref 41), (3, .ref 61), (4, .int x4), (5, .int u0)] [.int v'] sk_gg I' J' kc kn Q)) : sk_W Γ m_law 1101 25936 1085 [(0, .ref sk_scr), (1, .ref 0), (2, .ref 41), (3, .ref 61), (4, .int x4)] [.int u0] sk_gg I J kc kn Q := by
  refine sk_istore d_law_1085 (by decide) rfl ?_
  refine sk_aload_n (j := 3) d_law_1087 rfl rfl ?_
  refine sk_aload_n (j := 1) d_law_1088 rfl rfl ?_
  refine sk_iload (j := 5) d_law_1089 rfl ?_
  refine sk_iconst (v := 1) d_law_1091 (by decide) ?_
  refine sk_iadd d_law_1092 ?_
  obtain ⟨hb, h⟩ := h
  refine sk_sald d_law_1093 hb ?_
  refine sk_aload_n (j := 1) d_law_1094 rfl rfl ?_
  refine sk_iload (j := 5) d_law_1095 rfl ?_
  refine sk_iconst (v := 2) d_law_1097 (by decide) ?_
  refine sk_iadd d_law_1098 ?_
  obtain ⟨hb, h⟩ := h
  refine sk_sald d_law_1099 hb ?_
  refine sk_loc [1, 2, 3, 4, 5, 0] rfl ?_
  exact q_callVi (S := []) (as := [.int (sk_xs Γ (x4 + 1).toNatClampNeg), .int (sk_xs Γ (x4 + 2).toNatClampNeg)]) d_law_1100 lk_L_133 sh_41 ⟨_, rfl⟩ rfl ⟨by decide, by decide⟩ (Nat.le_of_ble_eq_true rfl) rfl h.1.1 h.1.2 h.2
theorem s_law_1103 {Γ : sk_T} {I : sk_I} {J : sk_J} {Q : sk_Q} {x4 : Int32} {x5 : Int32} {u0 : Int32} {kc kn : Nat} (h : (kc ≤ 1101 ∧ kn ≤ 25936) ∧ sk_S Γ m_M_thrown 0 0 (.ref 41 :: []) sk_gg I J (sk_Ki fun v' I' J' => sk_W Γ m_law 1101 25936 1109 [(0, .ref sk_scr), (1, .ref 0), (2, .ref 41), (3, .ref 61), (4, .int x4), (5, .int x5), (6, .int u0)] [.int v'] sk_gg I' J' kc kn Q)) : sk_W Γ m_law 1101 25936 1103 [(0, .ref sk_scr), (1, .ref 0), (2, .ref 41), (3, .ref 61), (4, .int x4), (5, .int x5)] [.int u0] sk_gg I J kc kn Q := by
  refine sk_istore d_law_1103 (by decide) rfl ?_
  refine sk_aload_n (j := 3) d_law_1105 rfl rfl ?_
  refine sk_loc [1, 2, 3, 4, 5, 6, 0] rfl ?_
  exact q_callVi (S := []) (as := []) d_law_1106 lk_L_78 sh_41 ⟨_, rfl⟩ rfl ⟨by decide, by decide⟩ (Nat.le_of_ble_eq_true rfl) rfl h.1.1 h.1.2 h.2
theorem s_law_1109 {Γ : sk_T} {I : sk_I} {J : sk_J} {Q : sk_Q} {x4 : Int32} {x5 : Int32} {x6 : Int32} {u0 : Int32} {kc kn : Nat} (h : (u0 = x5 → (¬ x5 = 0 → sk_W Γ m_law 1101 25936 23 [(0, .ref sk_scr), (1, .ref 0), (2, .ref 41), (3, .ref 61), (4, .int (x4 + 5))] [] sk_gg I J kc kn Q) ∧ (x5 = 0 → ((lg_cmp (J 61 0) (Int32.toInt64 x6)) = 0 → sk_W Γ m_law 1101 25936 23 [(0, .ref sk_scr), (1, .ref 0), (2, .ref 41), (3, .ref 61), (4, .int (x4 + 5))] [] sk_gg I J kc kn Q) ∧ (¬ (lg_cmp (J 61 0) (Int32.toInt64 x6)) = 0 → (kc ≤ 1101 ∧ kn ≤ 25936) ∧ Q (.inl (some (.int 0))) sk_gg I J))) ∧ (¬ u0 = x5 → (kc ≤ 1101 ∧ kn ≤ 25936) ∧ Q (.inl (some (.int 0))) sk_gg I J)) : sk_W Γ m_law 1101 25936 1109 [(0, .ref sk_scr), (1, .ref 0), (2, .ref 41), (3, .ref 61), (4, .int x4), (5, .int x5), (6, .int x6)] [.int u0] sk_gg I J kc kn Q := by
  refine sk_iload (j := 5) d_law_1109 rfl ?_
  refine sk_icmp_eq (tgt := 1116) d_law_1111 (by decide) (fun hc => ?_) (fun hc => ?_)
  · replace h := h.1 hc
    refine sk_iload (j := 5) d_law_1116 rfl ?_
    refine sk_if_ne (tgt := 1133) d_law_1118 (by decide) (fun hc => ?_) (fun hc => ?_)
    · replace h := h.1 hc
      refine sk_goto (tgt := 1174) d_law_1133 (by decide) ?_
      refine sk_iinc (j := 4) (v := x4 + 5) d_law_1174 rfl (by rfl) (by decide) rfl ?_
      refine sk_goto (tgt := 23) d_law_1177 (by decide) ?_
      refine sk_loc [1, 2, 3, 4, 0] rfl ?_
      exact h
    · replace h := h.2 hc
      refine sk_aload_n (j := 3) d_law_1121 rfl rfl ?_
      refine sk_iconst (v := 0) d_law_1122 (by decide) ?_
      refine sk_lald d_law_1123 sh_61 (by unfold vp_in; decide) ?_
      refine q_cvl (y := J 61 0) rfl ?_
      refine sk_iload (j := 6) d_law_1124 rfl ?_
      refine sk_i2l d_law_1126 ?_
      refine sk_lcmp d_law_1127 ?_
      refine sk_if_eq (tgt := 1133) d_law_1128 (by decide) (fun hc => ?_) (fun hc => ?_)
      · replace h := h.1 hc
        refine sk_goto (tgt := 1174) d_law_1133 (by decide) ?_
        refine sk_iinc (j := 4) (v := x4 + 5) d_law_1174 rfl (by rfl) (by decide) rfl ?_
        refine sk_goto (tgt := 23) d_law_1177 (by decide) ?_
        refine sk_loc [1, 2, 3, 4, 0] rfl ?_
        exact h
      · replace h := h.2 hc
        refine sk_iconst (v := 0) d_law_1131 (by decide) ?_
        exact q_zreturn d_law_1132 rfl (by decide) h.1.1 h.1.2 h.2
  · replace h := h.2 hc
    refine sk_iconst (v := 0) d_law_1114 (by decide) ?_
    exact q_zreturn d_law_1115 rfl (by decide) h.1.1 h.1.2 h.2
theorem s_law_1140 {Γ : sk_T} {I : sk_I} {J : sk_J} {Q : sk_Q} {x4 : Int32} {u0 : Int32} {kc kn : Nat} (h : (kc ≤ 1101 ∧ kn ≤ 25936) ∧ sk_S Γ m_M_forget 0 0 (.ref 41 :: []) sk_gg I J (sk_Ki fun v' I' J' => sk_W Γ m_law 1101 25936 1144 [(0, .ref sk_scr), (1, .ref 0), (2, .ref 41), (3, .ref 61), (4, .int x4)] [.int v', .int u0] sk_gg I' J' kc kn Q)) : sk_W Γ m_law 1101 25936 1140 [(0, .ref sk_scr), (1, .ref 0), (2, .ref 41), (3, .ref 61), (4, .int x4)] [.int u0] sk_gg I J kc kn Q := by
  refine sk_aload_n (j := 2) d_law_1140 rfl rfl ?_
  exact q_callVi (S := [.int u0]) (as := []) d_law_1141 lk_L_137 sh_41 ⟨_, rfl⟩ rfl ⟨by decide, by decide⟩ (Nat.le_of_ble_eq_true rfl) rfl h.1.1 h.1.2 h.2
theorem s_law_1144 {Γ : sk_T} {I : sk_I} {J : sk_J} {Q : sk_Q} {x4 : Int32} {u0 : Int32} {u1 : Int32} {kc kn : Nat} (h : (u0 = u1 → sk_W Γ m_law 1101 25936 23 [(0, .ref sk_scr), (1, .ref 0), (2, .ref 41), (3, .ref 61), (4, .int (x4 + 5))] [] sk_gg I J kc kn Q) ∧ (¬ u0 = u1 → (kc ≤ 1101 ∧ kn ≤ 25936) ∧ Q (.inl (some (.int 0))) sk_gg I J)) : sk_W Γ m_law 1101 25936 1144 [(0, .ref sk_scr), (1, .ref 0), (2, .ref 41), (3, .ref 61), (4, .int x4)] [.int u1, .int u0] sk_gg I J kc kn Q := by
  refine sk_icmp_eq (tgt := 1174) d_law_1144 (by decide) (fun hc => ?_) (fun hc => ?_)
  · replace h := h.1 hc
    refine sk_iinc (j := 4) (v := x4 + 5) d_law_1174 rfl (by rfl) (by decide) rfl ?_
    refine sk_goto (tgt := 23) d_law_1177 (by decide) ?_
    refine sk_loc [1, 2, 3, 4, 0] rfl ?_
    exact h
  · replace h := h.2 hc
    refine sk_iconst (v := 0) d_law_1147 (by decide) ?_
    exact q_zreturn d_law_1148 rfl (by decide) h.1.1 h.1.2 h.2
theorem s_law_1159 {Γ : sk_T} {I : sk_I} {J : sk_J} {Q : sk_Q} {x4 : Int32} {u0 : Int32} {kc kn : Nat} (h : vp_in (x4 + 1) (sk_len Γ) ∧ (kc ≤ 1101 ∧ kn ≤ 25936) ∧ sk_S Γ m_M_explains 0 0 (.ref 41 :: [.int (sk_xs Γ (x4 + 1).toNatClampNeg)]) sk_gg I J (sk_Ki fun v' I' J' => sk_W Γ m_law 1101 25936 1169 [(0, .ref sk_scr), (1, .ref 0), (2, .ref 41), (3, .ref 61), (4, .int x4)] [.int v', .int u0] sk_gg I' J' kc kn Q)) : sk_W Γ m_law 1101 25936 1159 [(0, .ref sk_scr), (1, .ref 0), (2, .ref 41), (3, .ref 61), (4, .int x4)] [.int u0] sk_gg I J kc kn Q := by
  refine sk_aload_n (j := 2) d_law_1159 rfl rfl ?_
  refine sk_aload_n (j := 0) d_law_1160 rfl rfl ?_
  refine sk_iload (j := 4) d_law_1161 rfl ?_
  refine sk_iconst (v := 1) d_law_1163 (by decide) ?_
  refine sk_iadd d_law_1164 ?_
  obtain ⟨hb, h⟩ := h
  refine sk_sald d_law_1165 hb ?_
  exact q_callVi (S := [.int u0]) (as := [.int (sk_xs Γ (x4 + 1).toNatClampNeg)]) d_law_1166 lk_L_141 sh_41 ⟨_, rfl⟩ rfl ⟨by decide, by decide⟩ (Nat.le_of_ble_eq_true rfl) rfl h.1.1 h.1.2 h.2
theorem s_law_1169 {Γ : sk_T} {I : sk_I} {J : sk_J} {Q : sk_Q} {x4 : Int32} {u0 : Int32} {u1 : Int32} {kc kn : Nat} (h : (u0 = u1 → sk_W Γ m_law 1101 25936 23 [(0, .ref sk_scr), (1, .ref 0), (2, .ref 41), (3, .ref 61), (4, .int (x4 + 5))] [] sk_gg I J kc kn Q) ∧ (¬ u0 = u1 → (kc ≤ 1101 ∧ kn ≤ 25936) ∧ Q (.inl (some (.int 0))) sk_gg I J)) : sk_W Γ m_law 1101 25936 1169 [(0, .ref sk_scr), (1, .ref 0), (2, .ref 41), (3, .ref 61), (4, .int x4)] [.int u1, .int u0] sk_gg I J kc kn Q := by
  refine sk_icmp_eq (tgt := 1174) d_law_1169 (by decide) (fun hc => ?_) (fun hc => ?_)
  · replace h := h.1 hc
    refine sk_iinc (j := 4) (v := x4 + 5) d_law_1174 rfl (by rfl) (by decide) rfl ?_
    refine sk_goto (tgt := 23) d_law_1177 (by decide) ?_
    refine sk_loc [1, 2, 3, 4, 0] rfl ?_
    exact h
  · replace h := h.2 hc
    refine sk_iconst (v := 0) d_law_1172 (by decide) ?_
    exact q_zreturn d_law_1173 rfl (by decide) h.1.1 h.1.2 h.2
