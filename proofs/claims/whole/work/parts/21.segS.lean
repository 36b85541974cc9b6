/-! segments, printed by wip/whole/gen_seg.py -/
theorem s_S_settleVectors_0 {Γ : sk_T} {mc ms : Nat} {I : sk_I} {J : sk_J} {Q : sk_Q} {x1 : Int32} {o : Nat} (ho : sk_sg o) (h : sk_W Γ m_S_settleVectors mc ms 2 [(0, .ref o), (1, .int x1), (2, .int 0)] [] sk_gg I J 0 0 Q) : sk_W Γ m_S_settleVectors mc ms 0 [(0, .ref o), (1, .int x1)] [] sk_gg I J 0 0 Q := by
  refine sk_iconst (v := 0) d_S_settleVectors_0 (by decide) ?_
  refine sk_istore_n d_S_settleVectors_1 rfl (by decide) rfl ?_
  refine sk_loc [1, 2, 0] rfl ?_
  exact h
theorem s_S_settleVectors_2 {Γ : sk_T} {mc ms : Nat} {I : sk_I} {J : sk_J} {Q : sk_Q} {x1 : Int32} {x2 : Int32} {o : Nat} (ho : sk_sg o) (h : (6 ≤ x2 → sk_S Γ m_S_settle 0 0 (.ref o :: [.int x1]) sk_gg I J (sk_Kv fun I' J' => sk_W Γ m_S_settleVectors mc ms 45 [] [] sk_gg I' J' 0 0 Q)) ∧ (¬ 6 ≤ x2 → vp_in x2 6 ∧ vp_in x2 6 ∧ vp_in x2 6 ∧ vp_in x2 6 ∧ sk_W Γ m_S_settleVectors mc ms 2 [(0, .ref o), (1, .int x1), (2, .int (x2 + 1))] [] sk_gg I (sk_pj (sk_pj J (o + 1) x2.toNatClampNeg (sk_siv x2.toNatClampNeg)) (o + 2) x2.toNatClampNeg ((sk_siv x2.toNatClampNeg) ^^^ (-1))) 0 0 Q)) : sk_W Γ m_S_settleVectors mc ms 2 [(0, .ref o), (1, .int x1), (2, .int x2)] [] sk_gg I J 0 0 Q := by
  refine sk_iload_n (j := 2) d_S_settleVectors_2 rfl rfl ?_
  refine sk_bipush (v := 6) d_S_settleVectors_3 (by decide) ?_
  refine sk_icmp_ge (tgt := 40) d_S_settleVectors_5 (by decide) (fun hc => ?_) (fun hc => ?_)
  · replace h := h.1 hc
    refine sk_aload_n (j := 0) d_S_settleVectors_40 rfl rfl ?_
    refine sk_iload_n (j := 1) d_S_settleVectors_41 rfl rfl ?_
    refine sk_loc [] rfl ?_
    exact q_callVv (S := []) (as := [.int x1]) d_S_settleVectors_42 lk_S_41 (shS0 ho) ⟨_, rfl⟩ rfl ⟨by decide, by decide⟩ (Nat.le_of_ble_eq_true rfl) rfl (Nat.zero_le _) (Nat.zero_le _) h
  · replace h := h.2 hc
    refine sk_aload_n (j := 0) d_S_settleVectors_8 rfl rfl ?_
    refine q_getR d_S_settleVectors_9 fg_S_9 (shS0 ho) (rrS1 ho) ?_
    refine sk_iload_n (j := 2) d_S_settleVectors_12 rfl rfl ?_
    refine sk_gets (host := "StuckLines") d_S_settleVectors_13 (by decide +kernel) ?_
    refine sk_iload_n (j := 2) d_S_settleVectors_16 rfl rfl ?_
    obtain ⟨hb, h⟩ := h
    refine sk_tald d_S_settleVectors_17 hb ?_
    obtain ⟨hb, h⟩ := h
    refine r_last d_S_settleVectors_18 (shS1 ho) hb ?_
    refine sk_aload_n (j := 0) d_S_settleVectors_19 rfl rfl ?_
    refine q_getR d_S_settleVectors_20 fg_S_15 (shS0 ho) (rrS2 ho) ?_
    refine sk_iload_n (j := 2) d_S_settleVectors_23 rfl rfl ?_
    refine sk_gets (host := "StuckLines") d_S_settleVectors_24 (by decide +kernel) ?_
    refine sk_iload_n (j := 2) d_S_settleVectors_27 rfl rfl ?_
    obtain ⟨hb, h⟩ := h
    refine sk_tald d_S_settleVectors_28 hb ?_
    refine sk_ldc2 (v := (-1)) d_S_settleVectors_29 sw_282 ?_
    refine sk_lxor d_S_settleVectors_32 ?_
    obtain ⟨hb, h⟩ := h
    refine r_last d_S_settleVectors_33 (shS2 ho) hb ?_
    refine sk_iinc (j := 2) (v := x2 + 1) d_S_settleVectors_34 rfl (by rfl) (by decide) rfl ?_
    refine sk_goto (tgt := 2) d_S_settleVectors_37 (by decide) ?_
    refine sk_loc [1, 2, 0] rfl ?_
    exact h
theorem s_S_settleVectors_45 {Γ : sk_T} {mc ms : Nat} {I : sk_I} {J : sk_J} {Q : sk_Q}  {o : Nat} (ho : sk_sg o) (h : Q (.inl none) sk_gg I J) : sk_W Γ m_S_settleVectors mc ms 45 [] [] sk_gg I J 0 0 Q := by
  exact sk_vreturn d_S_settleVectors_45 rfl (Nat.zero_le _) (Nat.zero_le _) h
theorem s_S_settle_0 {Γ : sk_T} {mc ms : Nat} {I : sk_I} {J : sk_J} {Q : sk_Q} {x1 : Int32} {o : Nat} (ho : sk_sg o) (h : sk_S Γ m_C_stuckLine 0 0 (.ref 1 :: [.int x1]) sk_gg I J (sk_Ki fun v' I' J' => sk_W Γ m_S_settle mc ms 8 [(0, .ref o), (1, .int x1)] [.int v'] sk_gg I' J' 0 0 Q)) : sk_W Γ m_S_settle mc ms 0 [(0, .ref o), (1, .int x1)] [] sk_gg I J 0 0 Q := by
  refine sk_aload_n (j := 0) d_S_settle_0 rfl rfl ?_
  refine q_getR d_S_settle_1 fg_S_32 (shS0 ho) (rrS0 ho) ?_
  refine sk_iload_n (j := 1) d_S_settle_4 rfl rfl ?_
  exact q_callVi (S := []) (as := [.int x1]) d_S_settle_5 lk_S_45 sh_1 ⟨_, rfl⟩ rfl ⟨by decide, by decide⟩ (Nat.le_of_ble_eq_true rfl) rfl (Nat.zero_le _) (Nat.zero_le _) h
theorem s_S_settle_8 {Γ : sk_T} {mc ms : Nat} {I : sk_I} {J : sk_J} {Q : sk_Q} {x1 : Int32} {u0 : Int32} {o : Nat} (ho : sk_sg o) (h : sk_S Γ m_C_stuckPin 0 0 (.ref 1 :: [.int x1]) sk_gg I J (sk_Ki fun v' I' J' => sk_W Γ m_S_settle mc ms 18 [(0, .ref o), (1, .int x1), (2, .int u0)] [.int v', .ref o] sk_gg I' J' 0 0 Q)) : sk_W Γ m_S_settle mc ms 8 [(0, .ref o), (1, .int x1)] [.int u0] sk_gg I J 0 0 Q := by
  refine sk_istore_n d_S_settle_8 rfl (by decide) rfl ?_
  refine sk_aload_n (j := 1) d_S_settle_9 rfl rfl ?_
  refine sk_aload_n (j := 1) d_S_settle_10 rfl rfl ?_
  refine q_getR d_S_settle_11 fg_S_32 (shS0 ho) (rrS0 ho) ?_
  refine sk_iload_n (j := 2) d_S_settle_14 rfl rfl ?_
  refine sk_loc [1, 2, 0] rfl ?_
  exact q_callVi (S := [.ref o]) (as := [.int x1]) d_S_settle_15 lk_S_51 sh_1 ⟨_, rfl⟩ rfl ⟨by decide, by decide⟩ (Nat.le_of_ble_eq_true rfl) rfl (Nat.zero_le _) (Nat.zero_le _) h
theorem s_S_settle_18 {Γ : sk_T} {mc ms : Nat} {I : sk_I} {J : sk_J} {Q : sk_Q} {x1 : Int32} {x2 : Int32} {u1 : Int32} {o : Nat} (ho : sk_sg o) (h : (¬ (x1 &&& 1) = 1 → sk_W Γ m_S_settle mc ms 41 [(0, .ref o), (2, .int x2), (3, .int 0)] [] sk_gg (sk_pi I o 5 u1) (sk_pj J o 6 0) 0 0 Q) ∧ ((x1 &&& 1) = 1 → sk_W Γ m_S_settle mc ms 41 [(0, .ref o), (2, .int x2), (3, .int 0)] [] sk_gg (sk_pi I o 5 u1) (sk_pj J o 6 (-1)) 0 0 Q)) : sk_W Γ m_S_settle mc ms 18 [(0, .ref o), (1, .int x1), (2, .int x2)] [.int u1, .ref o] sk_gg I J 0 0 Q := by
  refine r_putI d_S_settle_18 fp_S_24 (shS0 ho) ?_
  refine sk_aload_n (j := 0) d_S_settle_21 rfl rfl ?_
  refine sk_iload_n (j := 1) d_S_settle_22 rfl rfl ?_
  refine sk_iconst (v := 1) d_S_settle_23 (by decide) ?_
  refine sk_iand d_S_settle_24 ?_
  refine sk_iconst (v := 1) d_S_settle_25 (by decide) ?_
  refine sk_icmp_ne (tgt := 35) d_S_settle_26 (by decide) (fun hc => ?_) (fun hc => ?_)
  · replace h := h.1 hc
    refine sk_lconst (v := 0) d_S_settle_35 (by decide) ?_
    refine r_putJ d_S_settle_36 fp_S_28 (shS0 ho) ?_
    refine sk_iconst (v := 0) d_S_settle_39 (by decide) ?_
    refine sk_istore_n d_S_settle_40 rfl (by decide) rfl ?_
    refine sk_loc [1, 3, 0] rfl ?_
    exact h
  · replace h := h.2 hc
    refine sk_ldc2 (v := (-1)) d_S_settle_29 sw_282 ?_
    refine sk_goto (tgt := 36) d_S_settle_32 (by decide) ?_
    refine r_putJ d_S_settle_36 fp_S_28 (shS0 ho) ?_
    refine sk_iconst (v := 0) d_S_settle_39 (by decide) ?_
    refine sk_istore_n d_S_settle_40 rfl (by decide) rfl ?_
    refine sk_loc [1, 3, 0] rfl ?_
    exact h
theorem s_S_settle_41 {Γ : sk_T} {mc ms : Nat} {I : sk_I} {J : sk_J} {Q : sk_Q} {x2 : Int32} {x3 : Int32} {o : Nat} (ho : sk_sg o) (h : ((I 1 1) ≤ x3 → Q (.inl none) sk_gg I J) ∧ (¬ (I 1 1) ≤ x3 → (¬ x3 = x2 → vp_in x3 26 ∧ (¬ (I 2 x3.toNatClampNeg) = (-1) → sk_S Γ m_S_settleGate 0 0 (.ref o :: [.int x3]) sk_gg I J (sk_Kv fun I' J' => sk_W Γ m_S_settle mc ms 145 [(0, .ref o), (2, .int x2), (3, .int x3)] [] sk_gg I' J' 0 0 Q)) ∧ ((I 2 x3.toNatClampNeg) = (-1) → vp_in x3 26 ∧ vp_in (I 3 x3.toNatClampNeg) 6 ∧ vp_in x3 26 ∧ vp_in x3 26 ∧ vp_in (I 3 x3.toNatClampNeg) 6 ∧ vp_in x3 26 ∧ sk_W Γ m_S_settle mc ms 145 [(0, .ref o), (2, .int x2), (3, .int x3)] [] sk_gg I (sk_pj (sk_pj J (o + 3) x3.toNatClampNeg (J (o + 1) (I 3 x3.toNatClampNeg).toNatClampNeg)) (o + 4) x3.toNatClampNeg ((sk_pj J (o + 3) x3.toNatClampNeg (J (o + 1) (I 3 x3.toNatClampNeg).toNatClampNeg)) (o + 2) (I 3 x3.toNatClampNeg).toNatClampNeg)) 0 0 Q)) ∧ (x3 = x2 → vp_in x3 26 ∧ vp_in x3 26 ∧ sk_W Γ m_S_settle mc ms 145 [(0, .ref o), (2, .int x2), (3, .int x3)] [] sk_gg I (sk_pj (sk_pj J (o + 3) x3.toNatClampNeg (J o 6)) (o + 4) x3.toNatClampNeg (((sk_pj J (o + 3) x3.toNatClampNeg (J o 6)) o 6) ^^^ (-1))) 0 0 Q))) : sk_W Γ m_S_settle mc ms 41 [(0, .ref o), (2, .int x2), (3, .int x3)] [] sk_gg I J 0 0 Q := by
  refine sk_iload_n (j := 2) d_S_settle_41 rfl rfl ?_
  refine sk_aload_n (j := 0) d_S_settle_42 rfl rfl ?_
  refine q_getR d_S_settle_43 fg_S_32 (shS0 ho) (rrS0 ho) ?_
  refine q_getI d_S_settle_46 fg_S_53 sh_1 ?_
  refine sk_icmp_ge (tgt := 151) d_S_settle_49 (by decide) (fun hc => ?_) (fun hc => ?_)
  · replace h := h.1 hc
    exact sk_vreturn d_S_settle_151 rfl (Nat.zero_le _) (Nat.zero_le _) h
  · replace h := h.2 hc
    refine sk_iload_n (j := 2) d_S_settle_52 rfl rfl ?_
    refine sk_iload_n (j := 1) d_S_settle_53 rfl rfl ?_
    refine sk_icmp_ne (tgt := 84) d_S_settle_54 (by decide) (fun hc => ?_) (fun hc => ?_)
    · replace h := h.1 hc
      refine sk_aload_n (j := 0) d_S_settle_84 rfl rfl ?_
      refine q_getR d_S_settle_85 fg_S_32 (shS0 ho) (rrS0 ho) ?_
      refine q_getR d_S_settle_88 fg_S_56 sh_1 rr_1_6 ?_
      refine sk_iload_n (j := 2) d_S_settle_91 rfl rfl ?_
      obtain ⟨hb, h⟩ := h
      refine sk_iald d_S_settle_92 sh_2 hb ?_
      refine sk_iconst (v := (-1)) d_S_settle_93 (by decide) ?_
      refine sk_icmp_ne (tgt := 140) d_S_settle_94 (by decide) (fun hc => ?_) (fun hc => ?_)
      · replace h := h.1 hc
        refine sk_aload_n (j := 0) d_S_settle_140 rfl rfl ?_
        refine sk_iload_n (j := 2) d_S_settle_141 rfl rfl ?_
        exact q_callVv (S := []) (as := [.int x3]) d_S_settle_142 lk_S_63 (shS0 ho) ⟨_, rfl⟩ rfl ⟨by decide, by decide⟩ (Nat.le_of_ble_eq_true rfl) rfl (Nat.zero_le _) (Nat.zero_le _) h
      · replace h := h.2 hc
        refine sk_aload_n (j := 0) d_S_settle_97 rfl rfl ?_
        refine q_getR d_S_settle_98 fg_S_18 (shS0 ho) (rrS3 ho) ?_
        refine sk_iload_n (j := 2) d_S_settle_101 rfl rfl ?_
        refine sk_aload_n (j := 0) d_S_settle_102 rfl rfl ?_
        refine q_getR d_S_settle_103 fg_S_9 (shS0 ho) (rrS1 ho) ?_
        refine sk_aload_n (j := 0) d_S_settle_106 rfl rfl ?_
        refine q_getR d_S_settle_107 fg_S_32 (shS0 ho) (rrS0 ho) ?_
        refine q_getR d_S_settle_110 fg_S_60 sh_1 rr_1_7 ?_
        refine sk_iload_n (j := 2) d_S_settle_113 rfl rfl ?_
        obtain ⟨hb, h⟩ := h
        refine sk_iald d_S_settle_114 sh_3 hb ?_
        obtain ⟨hb, h⟩ := h
        refine sk_lald d_S_settle_115 (shS1 ho) hb ?_
        obtain ⟨hb, h⟩ := h
        refine r_last d_S_settle_116 (shS3 ho) hb ?_
        refine sk_aload_n (j := 0) d_S_settle_117 rfl rfl ?_
        refine q_getR d_S_settle_118 fg_S_21 (shS0 ho) (rrS4 ho) ?_
        refine sk_iload_n (j := 2) d_S_settle_121 rfl rfl ?_
        refine sk_aload_n (j := 0) d_S_settle_122 rfl rfl ?_
        refine q_getR d_S_settle_123 fg_S_15 (shS0 ho) (rrS2 ho) ?_
        refine sk_aload_n (j := 0) d_S_settle_126 rfl rfl ?_
        refine q_getR d_S_settle_127 fg_S_32 (shS0 ho) (rrS0 ho) ?_
        refine q_getR d_S_settle_130 fg_S_60 sh_1 rr_1_7 ?_
        refine sk_iload_n (j := 2) d_S_settle_133 rfl rfl ?_
        obtain ⟨hb, h⟩ := h
        refine sk_iald d_S_settle_134 sh_3 hb ?_
        obtain ⟨hb, h⟩ := h
        refine sk_lald d_S_settle_135 (shS2 ho) hb ?_
        obtain ⟨hb, h⟩ := h
        refine r_last d_S_settle_136 (shS4 ho) hb ?_
        refine sk_goto (tgt := 145) d_S_settle_137 (by decide) ?_
        exact h
    · replace h := h.2 hc
      refine sk_aload_n (j := 0) d_S_settle_57 rfl rfl ?_
      refine q_getR d_S_settle_58 fg_S_18 (shS0 ho) (rrS3 ho) ?_
      refine sk_iload_n (j := 2) d_S_settle_61 rfl rfl ?_
      refine sk_aload_n (j := 0) d_S_settle_62 rfl rfl ?_
      refine q_getJ d_S_settle_63 fg_S_28 (shS0 ho) ?_
      obtain ⟨hb, h⟩ := h
      refine r_last d_S_settle_66 (shS3 ho) hb ?_
      refine sk_aload_n (j := 0) d_S_settle_67 rfl rfl ?_
      refine q_getR d_S_settle_68 fg_S_21 (shS0 ho) (rrS4 ho) ?_
      refine sk_iload_n (j := 2) d_S_settle_71 rfl rfl ?_
      refine sk_aload_n (j := 0) d_S_settle_72 rfl rfl ?_
      refine q_getJ d_S_settle_73 fg_S_28 (shS0 ho) ?_
      refine sk_ldc2 (v := (-1)) d_S_settle_76 sw_282 ?_
      refine sk_lxor d_S_settle_79 ?_
      obtain ⟨hb, h⟩ := h
      refine r_last d_S_settle_80 (shS4 ho) hb ?_
      refine sk_goto (tgt := 145) d_S_settle_81 (by decide) ?_
      exact h
theorem s_S_settle_145 {Γ : sk_T} {mc ms : Nat} {I : sk_I} {J : sk_J} {Q : sk_Q} {x2 : Int32} {x3 : Int32} {o : Nat} (ho : sk_sg o) (h : sk_W Γ m_S_settle mc ms 41 [(0, .ref o), (2, .int x2), (3, .int (x3 + 1))] [] sk_gg I J 0 0 Q) : sk_W Γ m_S_settle mc ms 145 [(0, .ref o), (2, .int x2), (3, .int x3)] [] sk_gg I J 0 0 Q := by
  refine sk_iinc (j := 2) (v := x3 + 1) d_S_settle_145 rfl (by rfl) (by decide) rfl ?_
  refine sk_goto (tgt := 41) d_S_settle_148 (by decide) ?_
  refine sk_loc [1, 2, 0] rfl ?_
  exact h
theorem s_S_settleGate_0 {Γ : sk_T} {mc ms : Nat} {I : sk_I} {J : sk_J} {Q : sk_Q} {x1 : Int32} {o : Nat} (ho : sk_sg o) (h : vp_in x1 26 ∧ vp_in x1 26 ∧ (¬ ((I 2 x1.toNatClampNeg) &&& 1) = 1 → sk_W Γ m_S_settleGate mc ms 32 [(0, .ref o), (1, .int x1), (2, .int ((I 2 x1.toNatClampNeg) >>> (1 &&& 31)))] [.int 0] sk_gg I J 0 0 Q) ∧ (((I 2 x1.toNatClampNeg) &&& 1) = 1 → sk_W Γ m_S_settleGate mc ms 32 [(0, .ref o), (1, .int x1), (2, .int ((I 2 x1.toNatClampNeg) >>> (1 &&& 31)))] [.int 1] sk_gg I J 0 0 Q)) : sk_W Γ m_S_settleGate mc ms 0 [(0, .ref o), (1, .int x1)] [] sk_gg I J 0 0 Q := by
  refine sk_aload_n (j := 0) d_S_settleGate_0 rfl rfl ?_
  refine q_getR d_S_settleGate_1 fg_S_32 (shS0 ho) (rrS0 ho) ?_
  refine q_getR d_S_settleGate_4 fg_S_56 sh_1 rr_1_6 ?_
  refine sk_iload_n (j := 1) d_S_settleGate_7 rfl rfl ?_
  obtain ⟨hb, h⟩ := h
  refine sk_iald d_S_settleGate_8 sh_2 hb ?_
  refine sk_iconst (v := 1) d_S_settleGate_9 (by decide) ?_
  refine sk_ishr d_S_settleGate_10 ?_
  refine sk_istore_n d_S_settleGate_11 rfl (by decide) rfl ?_
  refine sk_aload_n (j := 1) d_S_settleGate_12 rfl rfl ?_
  refine q_getR d_S_settleGate_13 fg_S_32 (shS0 ho) (rrS0 ho) ?_
  refine q_getR d_S_settleGate_16 fg_S_56 sh_1 rr_1_6 ?_
  refine sk_iload_n (j := 2) d_S_settleGate_19 rfl rfl ?_
  obtain ⟨hb, h⟩ := h
  refine sk_iald d_S_settleGate_20 sh_2 hb ?_
  refine sk_iconst (v := 1) d_S_settleGate_21 (by decide) ?_
  refine sk_iand d_S_settleGate_22 ?_
  refine sk_iconst (v := 1) d_S_settleGate_23 (by decide) ?_
  refine sk_icmp_ne (tgt := 31) d_S_settleGate_24 (by decide) (fun hc => ?_) (fun hc => ?_)
  · replace h := h.1 hc
    refine sk_iconst (v := 0) d_S_settleGate_31 (by decide) ?_
    refine sk_loc [1, 2, 0] rfl ?_
    exact h
  · replace h := h.2 hc
    refine sk_iconst (v := 1) d_S_settleGate_27 (by decide) ?_
    refine sk_goto (tgt := 32) d_S_settleGate_28 (by decide) ?_
    refine sk_loc [1, 2, 0] rfl ?_
    exact h
theorem s_S_settleGate_32 {Γ : sk_T} {mc ms : Nat} {I : sk_I} {J : sk_J} {Q : sk_Q} {x1 : Int32} {x2 : Int32} {u0 : Int32} {o : Nat} (ho : sk_sg o) (h : (¬ x2 = 0 → vp_in x1 27 ∧ sk_W Γ m_S_settleGate mc ms 65 [(0, .ref o), (1, .int x1), (2, .int x2), (3, .int u0), (4, .long 0), (6, .long (0 ^^^ (-1))), (8, .int (I 5 x1.toNatClampNeg))] [] sk_gg I J 0 0 Q) ∧ (x2 = 0 → vp_in x1 27 ∧ sk_W Γ m_S_settleGate mc ms 65 [(0, .ref o), (1, .int x1), (2, .int x2), (3, .int u0), (4, .long (-1)), (6, .long ((-1) ^^^ (-1))), (8, .int (I 5 x1.toNatClampNeg))] [] sk_gg I J 0 0 Q)) : sk_W Γ m_S_settleGate mc ms 32 [(0, .ref o), (1, .int x1), (2, .int x2)] [.int u0] sk_gg I J 0 0 Q := by
  refine sk_istore_n d_S_settleGate_32 rfl (by decide) rfl ?_
  refine sk_iload_n (j := 3) d_S_settleGate_33 rfl rfl ?_
  refine sk_if_ne (tgt := 43) d_S_settleGate_34 (by decide) (fun hc => ?_) (fun hc => ?_)
  · replace h := h.1 hc
    refine sk_lconst (v := 0) d_S_settleGate_43 (by decide) ?_
    refine sk_lstore d_S_settleGate_44 (by decide) rfl ?_
    refine sk_lload (j := 0) d_S_settleGate_46 rfl ?_
    refine sk_ldc2 (v := (-1)) d_S_settleGate_48 sw_282 ?_
    refine sk_lxor d_S_settleGate_51 ?_
    refine sk_lstore d_S_settleGate_52 (by decide) rfl ?_
    refine sk_aload_n (j := 3) d_S_settleGate_54 rfl rfl ?_
    refine q_getR d_S_settleGate_55 fg_S_32 (shS0 ho) (rrS0 ho) ?_
    refine q_getR d_S_settleGate_58 fg_S_66 sh_1 rr_1_9 ?_
    refine sk_iload_n (j := 4) d_S_settleGate_61 rfl rfl ?_
    obtain ⟨hb, h⟩ := h
    refine sk_iald d_S_settleGate_62 sh_5 hb ?_
    refine sk_istore d_S_settleGate_63 (by decide) rfl ?_
    refine sk_loc [4, 5, 6, 3, 2, 1, 0] rfl ?_
    exact h
  · replace h := h.2 hc
    refine sk_ldc2 (v := (-1)) d_S_settleGate_37 sw_282 ?_
    refine sk_goto (tgt := 44) d_S_settleGate_40 (by decide) ?_
    refine sk_lstore d_S_settleGate_44 (by decide) rfl ?_
    refine sk_lload (j := 0) d_S_settleGate_46 rfl ?_
    refine sk_ldc2 (v := (-1)) d_S_settleGate_48 sw_282 ?_
    refine sk_lxor d_S_settleGate_51 ?_
    refine sk_lstore d_S_settleGate_52 (by decide) rfl ?_
    refine sk_aload_n (j := 3) d_S_settleGate_54 rfl rfl ?_
    refine q_getR d_S_settleGate_55 fg_S_32 (shS0 ho) (rrS0 ho) ?_
    refine q_getR d_S_settleGate_58 fg_S_66 sh_1 rr_1_9 ?_
    refine sk_iload_n (j := 4) d_S_settleGate_61 rfl rfl ?_
    obtain ⟨hb, h⟩ := h
    refine sk_iald d_S_settleGate_62 sh_5 hb ?_
    refine sk_istore d_S_settleGate_63 (by decide) rfl ?_
    refine sk_loc [4, 5, 6, 3, 2, 1, 0] rfl ?_
    exact h
theorem s_S_settleGate_65 {Γ : sk_T} {mc ms : Nat} {I : sk_I} {J : sk_J} {Q : sk_Q} {x1 : Int32} {x2 : Int32} {x3 : Int32} {y4 : Int64} {y6 : Int64} {x8 : Int32} {o : Nat} (ho : sk_sg o) (h : vp_in (x1 + 1) 27 ∧ ((I 5 (x1 + 1).toNatClampNeg) ≤ x8 → (x3 = 0 → sk_W Γ m_S_settleGate mc ms 242 [(0, .ref o), (1, .int x1), (3, .int x3), (4, .long y4), (6, .long y6)] [.long y4, .int x1, .ref (o + 3)] sk_gg I J 0 0 Q) ∧ (¬ x3 = 0 → sk_W Γ m_S_settleGate mc ms 242 [(0, .ref o), (1, .int x1), (3, .int x3), (4, .long y4), (6, .long y6)] [.long y6, .int x1, .ref (o + 3)] sk_gg I J 0 0 Q)) ∧ (¬ (I 5 (x1 + 1).toNatClampNeg) ≤ x8 → vp_in x8 78 ∧ (¬ x8 = (I o 5) → vp_in (I 6 x8.toNatClampNeg) 26 ∧ sk_W Γ m_S_settleGate mc ms 116 [(0, .ref o), (1, .int x1), (2, .int x2), (3, .int x3), (4, .long y4), (6, .long y6), (8, .int x8), (9, .int (I 6 x8.toNatClampNeg))] [.long (J (o + 3) (I 6 x8.toNatClampNeg).toNatClampNeg)] sk_gg I J 0 0 Q) ∧ (x8 = (I o 5) → sk_W Γ m_S_settleGate mc ms 116 [(0, .ref o), (1, .int x1), (2, .int x2), (3, .int x3), (4, .long y4), (6, .long y6), (8, .int x8), (9, .int (I 6 x8.toNatClampNeg))] [.long (J o 6)] sk_gg I J 0 0 Q))) : sk_W Γ m_S_settleGate mc ms 65 [(0, .ref o), (1, .int x1), (2, .int x2), (3, .int x3), (4, .long y4), (6, .long y6), (8, .int x8)] [] sk_gg I J 0 0 Q := by
  refine sk_iload (j := 6) d_S_settleGate_65 rfl ?_
  refine sk_aload_n (j := 0) d_S_settleGate_67 rfl rfl ?_
  refine q_getR d_S_settleGate_68 fg_S_32 (shS0 ho) (rrS0 ho) ?_
  refine q_getR d_S_settleGate_71 fg_S_66 sh_1 rr_1_9 ?_
  refine sk_iload_n (j := 1) d_S_settleGate_74 rfl rfl ?_
  refine sk_iconst (v := 1) d_S_settleGate_75 (by decide) ?_
  refine sk_iadd d_S_settleGate_76 ?_
  obtain ⟨hb, h⟩ := h
  refine sk_iald d_S_settleGate_77 sh_5 hb ?_
  refine sk_icmp_ge (tgt := 226) d_S_settleGate_78 (by decide) (fun hc => ?_) (fun hc => ?_)
  · replace h := h.1 hc
    refine sk_aload_n (j := 0) d_S_settleGate_226 rfl rfl ?_
    refine q_getR d_S_settleGate_227 fg_S_18 (shS0 ho) (rrS3 ho) ?_
    refine sk_iload_n (j := 1) d_S_settleGate_230 rfl rfl ?_
    refine sk_iload_n (j := 3) d_S_settleGate_231 rfl rfl ?_
    refine sk_if_eq (tgt := 240) d_S_settleGate_232 (by decide) (fun hc => ?_) (fun hc => ?_)
    · replace h := h.1 hc
      refine sk_lload (j := 4) d_S_settleGate_240 rfl ?_
      refine sk_loc [0, 1, 3, 4, 5] rfl ?_
      exact h
    · replace h := h.2 hc
      refine sk_lload (j := 5) d_S_settleGate_235 rfl ?_
      refine sk_goto (tgt := 242) d_S_settleGate_237 (by decide) ?_
      refine sk_loc [0, 1, 3, 4, 5] rfl ?_
      exact h
  · replace h := h.2 hc
    refine sk_aload_n (j := 0) d_S_settleGate_81 rfl rfl ?_
    refine q_getR d_S_settleGate_82 fg_S_32 (shS0 ho) (rrS0 ho) ?_
    refine q_getR d_S_settleGate_85 fg_S_69 sh_1 rr_1_10 ?_
    refine sk_iload (j := 6) d_S_settleGate_88 rfl ?_
    obtain ⟨hb, h⟩ := h
    refine sk_iald d_S_settleGate_90 sh_6 hb ?_
    refine sk_istore d_S_settleGate_91 (by decide) rfl ?_
    refine sk_iload (j := 7) d_S_settleGate_93 rfl ?_
    refine sk_aload_n (j := 1) d_S_settleGate_95 rfl rfl ?_
    refine q_getI d_S_settleGate_96 fg_S_24 (shS0 ho) ?_
    refine sk_icmp_ne (tgt := 109) d_S_settleGate_99 (by decide) (fun hc => ?_) (fun hc => ?_)
    · replace h := h.1 hc
      refine sk_aload_n (j := 1) d_S_settleGate_109 rfl rfl ?_
      refine q_getR d_S_settleGate_110 fg_S_18 (shS0 ho) (rrS3 ho) ?_
      refine sk_iload (j := 0) d_S_settleGate_113 rfl ?_
      obtain ⟨hb, h⟩ := h
      refine sk_lald d_S_settleGate_115 (shS3 ho) hb ?_
      refine sk_loc [1, 2, 3, 4, 5, 6, 7, 0] rfl ?_
      exact h
    · replace h := h.2 hc
      refine sk_aload_n (j := 1) d_S_settleGate_102 rfl rfl ?_
      refine q_getJ d_S_settleGate_103 fg_S_28 (shS0 ho) ?_
      refine sk_goto (tgt := 116) d_S_settleGate_106 (by decide) ?_
      refine sk_loc [1, 2, 3, 4, 5, 6, 7, 0] rfl ?_
      exact h
theorem s_S_settleGate_116 {Γ : sk_T} {mc ms : Nat} {I : sk_I} {J : sk_J} {Q : sk_Q} {x1 : Int32} {x2 : Int32} {x3 : Int32} {y4 : Int64} {y6 : Int64} {x8 : Int32} {x9 : Int32} {w0 : Int64} {o : Nat} (ho : sk_sg o) (h : (¬ x8 = (I o 5) → vp_in x9 26 ∧ sk_W Γ m_S_settleGate mc ms 145 [(0, .ref o), (1, .int x1), (2, .int x2), (3, .int x3), (4, .long y4), (6, .long y6), (8, .int x8), (10, .long w0)] [.long (J (o + 4) x9.toNatClampNeg)] sk_gg I J 0 0 Q) ∧ (x8 = (I o 5) → sk_W Γ m_S_settleGate mc ms 145 [(0, .ref o), (1, .int x1), (2, .int x2), (3, .int x3), (4, .long y4), (6, .long y6), (8, .int x8), (10, .long w0)] [.long ((J o 6) ^^^ (-1))] sk_gg I J 0 0 Q)) : sk_W Γ m_S_settleGate mc ms 116 [(0, .ref o), (1, .int x1), (2, .int x2), (3, .int x3), (4, .long y4), (6, .long y6), (8, .int x8), (9, .int x9)] [.long w0] sk_gg I J 0 0 Q := by
  refine sk_lstore d_S_settleGate_116 (by decide) rfl ?_
  refine sk_iload (j := 7) d_S_settleGate_118 rfl ?_
  refine sk_aload_n (j := 1) d_S_settleGate_120 rfl rfl ?_
  refine q_getI d_S_settleGate_121 fg_S_24 (shS0 ho) ?_
  refine sk_icmp_ne (tgt := 138) d_S_settleGate_124 (by decide) (fun hc => ?_) (fun hc => ?_)
  · replace h := h.1 hc
    refine sk_aload_n (j := 1) d_S_settleGate_138 rfl rfl ?_
    refine q_getR d_S_settleGate_139 fg_S_21 (shS0 ho) (rrS4 ho) ?_
    refine sk_iload (j := 8) d_S_settleGate_142 rfl ?_
    obtain ⟨hb, h⟩ := h
    refine sk_lald d_S_settleGate_144 (shS4 ho) hb ?_
    refine sk_loc [1, 2, 3, 4, 5, 6, 7, 0] rfl ?_
    exact h
  · replace h := h.2 hc
    refine sk_aload_n (j := 1) d_S_settleGate_127 rfl rfl ?_
    refine q_getJ d_S_settleGate_128 fg_S_28 (shS0 ho) ?_
    refine sk_ldc2 (v := (-1)) d_S_settleGate_131 sw_282 ?_
    refine sk_lxor d_S_settleGate_134 ?_
    refine sk_goto (tgt := 145) d_S_settleGate_135 (by decide) ?_
    refine sk_loc [1, 2, 3, 4, 5, 6, 7, 0] rfl ?_
    exact h
theorem s_S_settleGate_145 {Γ : sk_T} {mc ms : Nat} {I : sk_I} {J : sk_J} {Q : sk_Q} {x1 : Int32} {x2 : Int32} {x3 : Int32} {y4 : Int64} {y6 : Int64} {x8 : Int32} {y10 : Int64} {w0 : Int64} {o : Nat} (ho : sk_sg o) (h : (¬ x2 = 0 → (¬ x2 = 1 → sk_W Γ m_S_settleGate mc ms 65 [(0, .ref o), (1, .int x1), (2, .int x2), (3, .int x3), (4, .long ((y4 &&& w0) ||| (y6 &&& y10))), (6, .long ((y6 &&& w0) ||| (y4 &&& y10))), (8, .int (x8 + 1))] [] sk_gg I J 0 0 Q) ∧ (x2 = 1 → sk_W Γ m_S_settleGate mc ms 65 [(0, .ref o), (1, .int x1), (2, .int x2), (3, .int x3), (4, .long (y4 ||| y10)), (6, .long (y6 &&& w0)), (8, .int (x8 + 1))] [] sk_gg I J 0 0 Q)) ∧ (x2 = 0 → sk_W Γ m_S_settleGate mc ms 65 [(0, .ref o), (1, .int x1), (2, .int x2), (3, .int x3), (4, .long (y4 &&& y10)), (6, .long (y6 ||| w0)), (8, .int (x8 + 1))] [] sk_gg I J 0 0 Q)) : sk_W Γ m_S_settleGate mc ms 145 [(0, .ref o), (1, .int x1), (2, .int x2), (3, .int x3), (4, .long y4), (6, .long y6), (8, .int x8), (10, .long y10)] [.long w0] sk_gg I J 0 0 Q := by
  refine sk_lstore d_S_settleGate_145 (by decide) rfl ?_
  refine sk_iload_n (j := 3) d_S_settleGate_147 rfl rfl ?_
  refine sk_if_ne (tgt := 168) d_S_settleGate_148 (by decide) (fun hc => ?_) (fun hc => ?_)
  · replace h := h.1 hc
    refine sk_iload_n (j := 3) d_S_settleGate_168 rfl rfl ?_
    refine sk_iconst (v := 1) d_S_settleGate_169 (by decide) ?_
    refine sk_icmp_ne (tgt := 190) d_S_settleGate_170 (by decide) (fun hc => ?_) (fun hc => ?_)
    · replace h := h.1 hc
      refine sk_lload (j := 5) d_S_settleGate_190 rfl ?_
      refine sk_lload (j := 0) d_S_settleGate_192 rfl ?_
      refine sk_land d_S_settleGate_194 ?_
      refine sk_lload (j := 6) d_S_settleGate_195 rfl ?_
      refine sk_lload (j := 8) d_S_settleGate_197 rfl ?_
      refine sk_land d_S_settleGate_199 ?_
      refine sk_lor d_S_settleGate_200 ?_
      refine sk_lstore d_S_settleGate_201 (by decide) rfl ?_
      refine sk_lload (j := 7) d_S_settleGate_203 rfl ?_
      refine sk_lload (j := 1) d_S_settleGate_205 rfl ?_
      refine sk_land d_S_settleGate_207 ?_
      refine sk_lload (j := 6) d_S_settleGate_208 rfl ?_
      refine sk_lload (j := 9) d_S_settleGate_210 rfl ?_
      refine sk_land d_S_settleGate_212 ?_
      refine sk_lor d_S_settleGate_213 ?_
      refine sk_lstore d_S_settleGate_214 (by decide) rfl ?_
      refine sk_lload (j := 1) d_S_settleGate_216 rfl ?_
      refine sk_lstore d_S_settleGate_218 (by decide) rfl ?_
      refine sk_iinc (j := 8) (v := x8 + 1) d_S_settleGate_220 rfl (by rfl) (by decide) rfl ?_
      refine sk_goto (tgt := 65) d_S_settleGate_223 (by decide) ?_
      refine sk_loc [5, 6, 7, 8, 1, 2, 0] rfl ?_
      exact h
    · replace h := h.2 hc
      refine sk_lload (j := 5) d_S_settleGate_173 rfl ?_
      refine sk_lload (j := 8) d_S_settleGate_175 rfl ?_
      refine sk_lor d_S_settleGate_177 ?_
      refine sk_lstore d_S_settleGate_178 (by decide) rfl ?_
      refine sk_lload (j := 6) d_S_settleGate_180 rfl ?_
      refine sk_lload (j := 1) d_S_settleGate_182 rfl ?_
      refine sk_land d_S_settleGate_184 ?_
      refine sk_lstore d_S_settleGate_185 (by decide) rfl ?_
      refine sk_goto (tgt := 220) d_S_settleGate_187 (by decide) ?_
      refine sk_iinc (j := 7) (v := x8 + 1) d_S_settleGate_220 rfl (by rfl) (by decide) rfl ?_
      refine sk_goto (tgt := 65) d_S_settleGate_223 (by decide) ?_
      refine sk_loc [4, 5, 6, 7, 2, 1, 0] rfl ?_
      exact h
  · replace h := h.2 hc
    refine sk_lload (j := 5) d_S_settleGate_151 rfl ?_
    refine sk_lload (j := 8) d_S_settleGate_153 rfl ?_
    refine sk_land d_S_settleGate_155 ?_
    refine sk_lstore d_S_settleGate_156 (by decide) rfl ?_
    refine sk_lload (j := 6) d_S_settleGate_158 rfl ?_
    refine sk_lload (j := 1) d_S_settleGate_160 rfl ?_
    refine sk_lor d_S_settleGate_162 ?_
    refine sk_lstore d_S_settleGate_163 (by decide) rfl ?_
    refine sk_goto (tgt := 220) d_S_settleGate_165 (by decide) ?_
    refine sk_iinc (j := 7) (v := x8 + 1) d_S_settleGate_220 rfl (by rfl) (by decide) rfl ?_
    refine sk_goto (tgt := 65) d_S_settleGate_223 (by decide) ?_
    refine sk_loc [4, 5, 6, 7, 2, 1, 0] rfl ?_
    exact h
theorem s_S_settleGate_242 {Γ : sk_T} {mc ms : Nat} {I : sk_I} {J : sk_J} {Q : sk_Q} {x1 : Int32} {x3 : Int32} {y4 : Int64} {y6 : Int64} {u1 : Int32} {w2 : Int64} {o : Nat} (ho : sk_sg o) (h : vp_in u1 26 ∧ (x3 = 0 → vp_in x1 26 ∧ Q (.inl none) sk_gg I (sk_pj (sk_pj J (o + 3) u1.toNatClampNeg w2) (o + 4) x1.toNatClampNeg y6)) ∧ (¬ x3 = 0 → vp_in x1 26 ∧ Q (.inl none) sk_gg I (sk_pj (sk_pj J (o + 3) u1.toNatClampNeg w2) (o + 4) x1.toNatClampNeg y4))) : sk_W Γ m_S_settleGate mc ms 242 [(0, .ref o), (1, .int x1), (3, .int x3), (4, .long y4), (6, .long y6)] [.long w2, .int u1, .ref (o + 3)] sk_gg I J 0 0 Q := by
  obtain ⟨hb, h⟩ := h
  refine r_last d_S_settleGate_242 (shS3 ho) hb ?_
  refine sk_aload_n (j := 0) d_S_settleGate_243 rfl rfl ?_
  refine q_getR d_S_settleGate_244 fg_S_21 (shS0 ho) (rrS4 ho) ?_
  refine sk_iload_n (j := 1) d_S_settleGate_247 rfl rfl ?_
  refine sk_iload_n (j := 2) d_S_settleGate_248 rfl rfl ?_
  refine sk_if_eq (tgt := 257) d_S_settleGate_249 (by decide) (fun hc => ?_) (fun hc => ?_)
  · replace h := h.1 hc
    refine sk_lload (j := 4) d_S_settleGate_257 rfl ?_
    obtain ⟨hb, h⟩ := h
    refine r_last d_S_settleGate_259 (shS4 ho) hb ?_
    exact sk_vreturn d_S_settleGate_260 rfl (Nat.zero_le _) (Nat.zero_le _) h
  · replace h := h.2 hc
    refine sk_lload (j := 3) d_S_settleGate_252 rfl ?_
    refine sk_goto (tgt := 259) d_S_settleGate_254 (by decide) ?_
    obtain ⟨hb, h⟩ := h
    refine r_last d_S_settleGate_259 (shS4 ho) hb ?_
    exact sk_vreturn d_S_settleGate_260 rfl (Nat.zero_le _) (Nat.zero_le _) h
theorem s_S_onesOf_0 {Γ : sk_T} {mc ms : Nat} {I : sk_I} {J : sk_J} {Q : sk_Q} {x1 : Int32} {o : Nat} (ho : sk_sg o) (h : vp_in x1 26 ∧ Q (.inl (some (.long (J (o + 3) x1.toNatClampNeg)))) sk_gg I J) : sk_W Γ m_S_onesOf mc ms 0 [(0, .ref o), (1, .int x1)] [] sk_gg I J 0 0 Q := by
  refine sk_aload_n (j := 0) d_S_onesOf_0 rfl rfl ?_
  refine q_getR d_S_onesOf_1 fg_S_18 (shS0 ho) (rrS3 ho) ?_
  refine sk_iload_n (j := 1) d_S_onesOf_4 rfl rfl ?_
  obtain ⟨hb, h⟩ := h
  refine sk_lald d_S_onesOf_5 (shS3 ho) hb ?_
  exact sk_lreturn d_S_onesOf_6 rfl (Nat.zero_le _) (Nat.zero_le _) h
theorem s_S_stateOf_0 {Γ : sk_T} {mc ms : Nat} {I : sk_I} {J : sk_J} {Q : sk_Q} {x1 : Int32} {x2 : Int32} {o : Nat} (ho : sk_sg o) (h : vp_in x1 26 ∧ (¬ (lg_cmp ((sk_ushr (J (o + 3) x1.toNatClampNeg) x2) &&& 1) 1) = 0 → vp_in x1 26 ∧ (¬ (lg_cmp ((sk_ushr (J (o + 4) x1.toNatClampNeg) x2) &&& 1) 1) = 0 → Q (.inl (some (.int 2))) sk_gg I J) ∧ ((lg_cmp ((sk_ushr (J (o + 4) x1.toNatClampNeg) x2) &&& 1) 1) = 0 → Q (.inl (some (.int 0))) sk_gg I J)) ∧ ((lg_cmp ((sk_ushr (J (o + 3) x1.toNatClampNeg) x2) &&& 1) 1) = 0 → Q (.inl (some (.int 1))) sk_gg I J)) : sk_W Γ m_S_stateOf mc ms 0 [(0, .ref o), (1, .int x1), (2, .int x2)] [] sk_gg I J 0 0 Q := by
  refine sk_aload_n (j := 0) d_S_stateOf_0 rfl rfl ?_
  refine q_getR d_S_stateOf_1 fg_S_18 (shS0 ho) (rrS3 ho) ?_
  refine sk_iload_n (j := 1) d_S_stateOf_4 rfl rfl ?_
  obtain ⟨hb, h⟩ := h
  refine sk_lald d_S_stateOf_5 (shS3 ho) hb ?_
  refine sk_iload_n (j := 2) d_S_stateOf_6 rfl rfl ?_
  refine r_lushr d_S_stateOf_7 ?_
  refine sk_lconst (v := 1) d_S_stateOf_8 (by decide) ?_
  refine sk_land d_S_stateOf_9 ?_
  refine sk_lconst (v := 1) d_S_stateOf_10 (by decide) ?_
  refine sk_lcmp d_S_stateOf_11 ?_
  refine sk_if_ne (tgt := 17) d_S_stateOf_12 (by decide) (fun hc => ?_) (fun hc => ?_)
  · replace h := h.1 hc
    refine sk_aload_n (j := 0) d_S_stateOf_17 rfl rfl ?_
    refine q_getR d_S_stateOf_18 fg_S_21 (shS0 ho) (rrS4 ho) ?_
    refine sk_iload_n (j := 1) d_S_stateOf_21 rfl rfl ?_
    obtain ⟨hb, h⟩ := h
    refine sk_lald d_S_stateOf_22 (shS4 ho) hb ?_
    refine sk_iload_n (j := 2) d_S_stateOf_23 rfl rfl ?_
    refine r_lushr d_S_stateOf_24 ?_
    refine sk_lconst (v := 1) d_S_stateOf_25 (by decide) ?_
    refine sk_land d_S_stateOf_26 ?_
    refine sk_lconst (v := 1) d_S_stateOf_27 (by decide) ?_
    refine sk_lcmp d_S_stateOf_28 ?_
    refine sk_if_ne (tgt := 36) d_S_stateOf_29 (by decide) (fun hc => ?_) (fun hc => ?_)
    · replace h := h.1 hc
      refine sk_iconst (v := 2) d_S_stateOf_36 (by decide) ?_
      exact sk_ireturn d_S_stateOf_37 rfl (Nat.zero_le _) (Nat.zero_le _) h
    · replace h := h.2 hc
      refine sk_iconst (v := 0) d_S_stateOf_32 (by decide) ?_
      refine sk_goto (tgt := 37) d_S_stateOf_33 (by decide) ?_
      exact sk_ireturn d_S_stateOf_37 rfl (Nat.zero_le _) (Nat.zero_le _) h
  · replace h := h.2 hc
    refine sk_iconst (v := 1) d_S_stateOf_15 (by decide) ?_
    exact sk_ireturn d_S_stateOf_16 rfl (Nat.zero_le _) (Nat.zero_le _) h
theorem s_S_settleCube_0 {Γ : sk_T} {mc ms : Nat} {I : sk_I} {J : sk_J} {Q : sk_Q} {x1 : Int32} {x2 : Int32} {x3 : Int32} {o : Nat} (ho : sk_sg o) (h : sk_W Γ m_S_settleCube mc ms 3 [(0, .ref o), (1, .int x1), (2, .int x2), (3, .int x3), (4, .int 0)] [] sk_gg I J 0 0 Q) : sk_W Γ m_S_settleCube mc ms 0 [(0, .ref o), (1, .int x1), (2, .int x2), (3, .int x3)] [] sk_gg I J 0 0 Q := by
  refine sk_iconst (v := 0) d_S_settleCube_0 (by decide) ?_
  refine sk_istore d_S_settleCube_1 (by decide) rfl ?_
  refine sk_loc [1, 2, 3, 4, 0] rfl ?_
  exact h
theorem s_S_settleCube_3 {Γ : sk_T} {mc ms : Nat} {I : sk_I} {J : sk_J} {Q : sk_Q} {x1 : Int32} {x2 : Int32} {x3 : Int32} {x4 : Int32} {o : Nat} (ho : sk_sg o) (h : (6 ≤ x4 → sk_S Γ m_S_settle 0 0 (.ref o :: [.int x3]) sk_gg I J (sk_Kv fun I' J' => sk_W Γ m_S_settleCube mc ms 103 [] [] sk_gg I' J' 0 0 Q)) ∧ (¬ 6 ≤ x4 → (¬ ((x1 >>> (x4 &&& 31)) &&& 1) = 1 → sk_W Γ m_S_settleCube mc ms 25 [(0, .ref o), (1, .int x1), (2, .int x2), (3, .int x3), (4, .int x4)] [.int 0] sk_gg I J 0 0 Q) ∧ (((x1 >>> (x4 &&& 31)) &&& 1) = 1 → sk_W Γ m_S_settleCube mc ms 25 [(0, .ref o), (1, .int x1), (2, .int x2), (3, .int x3), (4, .int x4)] [.int 1] sk_gg I J 0 0 Q))) : sk_W Γ m_S_settleCube mc ms 3 [(0, .ref o), (1, .int x1), (2, .int x2), (3, .int x3), (4, .int x4)] [] sk_gg I J 0 0 Q := by
  refine sk_iload (j := 4) d_S_settleCube_3 rfl ?_
  refine sk_bipush (v := 6) d_S_settleCube_5 (by decide) ?_
  refine sk_icmp_ge (tgt := 98) d_S_settleCube_7 (by decide) (fun hc => ?_) (fun hc => ?_)
  · replace h := h.1 hc
    refine sk_aload_n (j := 0) d_S_settleCube_98 rfl rfl ?_
    refine sk_iload_n (j := 3) d_S_settleCube_99 rfl rfl ?_
    refine sk_loc [] rfl ?_
    exact q_callVv (S := []) (as := [.int x3]) d_S_settleCube_100 lk_S_41 (shS0 ho) ⟨_, rfl⟩ rfl ⟨by decide, by decide⟩ (Nat.le_of_ble_eq_true rfl) rfl (Nat.zero_le _) (Nat.zero_le _) h
  · replace h := h.2 hc
    refine sk_iload_n (j := 1) d_S_settleCube_10 rfl rfl ?_
    refine sk_iload (j := 4) d_S_settleCube_11 rfl ?_
    refine sk_ishr d_S_settleCube_13 ?_
    refine sk_iconst (v := 1) d_S_settleCube_14 (by decide) ?_
    refine sk_iand d_S_settleCube_15 ?_
    refine sk_iconst (v := 1) d_S_settleCube_16 (by decide) ?_
    refine sk_icmp_ne (tgt := 24) d_S_settleCube_17 (by decide) (fun hc => ?_) (fun hc => ?_)
    · replace h := h.1 hc
      refine sk_iconst (v := 0) d_S_settleCube_24 (by decide) ?_
      exact h
    · replace h := h.2 hc
      refine sk_iconst (v := 1) d_S_settleCube_20 (by decide) ?_
      refine sk_goto (tgt := 25) d_S_settleCube_21 (by decide) ?_
      exact h
theorem s_S_settleCube_25 {Γ : sk_T} {mc ms : Nat} {I : sk_I} {J : sk_J} {Q : sk_Q} {x1 : Int32} {x2 : Int32} {x3 : Int32} {x4 : Int32} {u0 : Int32} {o : Nat} (ho : sk_sg o) (h : (¬ ((x2 >>> (x4 &&& 31)) &&& 1) = 1 → (¬ u0 = 0 → sk_W Γ m_S_settleCube mc ms 67 [(0, .ref o), (1, .int x1), (2, .int x2), (3, .int x3), (4, .int x4), (5, .int u0), (6, .int 0)] [.long 0, .int x4, .ref (o + 1)] sk_gg I J 0 0 Q) ∧ (u0 = 0 → sk_W Γ m_S_settleCube mc ms 67 [(0, .ref o), (1, .int x1), (2, .int x2), (3, .int x3), (4, .int x4), (5, .int u0), (6, .int 0)] [.long 0, .int x4, .ref (o + 1)] sk_gg I J 0 0 Q)) ∧ (((x2 >>> (x4 &&& 31)) &&& 1) = 1 → (¬ u0 = 0 → sk_W Γ m_S_settleCube mc ms 67 [(0, .ref o), (1, .int x1), (2, .int x2), (3, .int x3), (4, .int x4), (5, .int u0), (6, .int 1)] [.long 0, .int x4, .ref (o + 1)] sk_gg I J 0 0 Q) ∧ (u0 = 0 → sk_W Γ m_S_settleCube mc ms 67 [(0, .ref o), (1, .int x1), (2, .int x2), (3, .int x3), (4, .int x4), (5, .int u0), (6, .int 1)] [.long (-1), .int x4, .ref (o + 1)] sk_gg I J 0 0 Q))) : sk_W Γ m_S_settleCube mc ms 25 [(0, .ref o), (1, .int x1), (2, .int x2), (3, .int x3), (4, .int x4)] [.int u0] sk_gg I J 0 0 Q := by
  refine sk_istore d_S_settleCube_25 (by decide) rfl ?_
  refine sk_iload_n (j := 3) d_S_settleCube_27 rfl rfl ?_
  refine sk_iload (j := 5) d_S_settleCube_28 rfl ?_
  refine sk_ishr d_S_settleCube_30 ?_
  refine sk_iconst (v := 1) d_S_settleCube_31 (by decide) ?_
  refine sk_iand d_S_settleCube_32 ?_
  refine sk_iconst (v := 1) d_S_settleCube_33 (by decide) ?_
  refine sk_icmp_ne (tgt := 41) d_S_settleCube_34 (by decide) (fun hc => ?_) (fun hc => ?_)
  · replace h := h.1 hc
    refine sk_iconst (v := 0) d_S_settleCube_41 (by decide) ?_
    refine sk_istore d_S_settleCube_42 (by decide) rfl ?_
    refine sk_aload_n (j := 2) d_S_settleCube_44 rfl rfl ?_
    refine q_getR d_S_settleCube_45 fg_S_9 (shS0 ho) (rrS1 ho) ?_
    refine sk_iload (j := 6) d_S_settleCube_48 rfl ?_
    refine sk_iload (j := 1) d_S_settleCube_50 rfl ?_
    refine sk_if_ne (tgt := 66) d_S_settleCube_52 (by decide) (fun hc => ?_) (fun hc => ?_)
    · replace h := h.1 hc
      refine sk_lconst (v := 0) d_S_settleCube_66 (by decide) ?_
      refine sk_loc [2, 3, 4, 5, 6, 1, 0] rfl ?_
      exact h
    · replace h := h.2 hc
      refine sk_iload (j := 0) d_S_settleCube_55 rfl ?_
      refine sk_if_eq (tgt := 66) d_S_settleCube_57 (by decide) (fun _ => ?_) (fun hc => absurd hc (by decide))
      refine sk_lconst (v := 0) d_S_settleCube_66 (by decide) ?_
      refine sk_loc [2, 3, 4, 5, 6, 1, 0] rfl ?_
      exact h
  · replace h := h.2 hc
    refine sk_iconst (v := 1) d_S_settleCube_37 (by decide) ?_
    refine sk_goto (tgt := 42) d_S_settleCube_38 (by decide) ?_
    refine sk_istore d_S_settleCube_42 (by decide) rfl ?_
    refine sk_aload_n (j := 2) d_S_settleCube_44 rfl rfl ?_
    refine q_getR d_S_settleCube_45 fg_S_9 (shS0 ho) (rrS1 ho) ?_
    refine sk_iload (j := 6) d_S_settleCube_48 rfl ?_
    refine sk_iload (j := 1) d_S_settleCube_50 rfl ?_
    refine sk_if_ne (tgt := 66) d_S_settleCube_52 (by decide) (fun hc => ?_) (fun hc => ?_)
    · replace h := h.1 hc
      refine sk_lconst (v := 0) d_S_settleCube_66 (by decide) ?_
      refine sk_loc [2, 3, 4, 5, 6, 1, 0] rfl ?_
      exact h
    · replace h := h.2 hc
      refine sk_iload (j := 0) d_S_settleCube_55 rfl ?_
      refine sk_if_eq (tgt := 66) d_S_settleCube_57 (by decide) (fun hc => absurd hc (by decide)) (fun _ => ?_)
      refine sk_ldc2 (v := (-1)) d_S_settleCube_60 sw_282 ?_
      refine sk_goto (tgt := 67) d_S_settleCube_63 (by decide) ?_
      refine sk_loc [2, 3, 4, 5, 6, 1, 0] rfl ?_
      exact h
theorem s_S_settleCube_67 {Γ : sk_T} {mc ms : Nat} {I : sk_I} {J : sk_J} {Q : sk_Q} {x1 : Int32} {x2 : Int32} {x3 : Int32} {x4 : Int32} {x5 : Int32} {x6 : Int32} {u1 : Int32} {w2 : Int64} {o : Nat} (ho : sk_sg o) (h : vp_in u1 6 ∧ (¬ x5 = 0 → vp_in x4 6 ∧ sk_W Γ m_S_settleCube mc ms 3 [(0, .ref o), (1, .int x1), (2, .int x2), (3, .int x3), (4, .int (x4 + 1))] [] sk_gg I (sk_pj (sk_pj J (o + 1) u1.toNatClampNeg w2) (o + 2) x4.toNatClampNeg 0) 0 0 Q) ∧ (x5 = 0 → (¬ x6 = 0 → vp_in x4 6 ∧ sk_W Γ m_S_settleCube mc ms 3 [(0, .ref o), (1, .int x1), (2, .int x2), (3, .int x3), (4, .int (x4 + 1))] [] sk_gg I (sk_pj (sk_pj J (o + 1) u1.toNatClampNeg w2) (o + 2) x4.toNatClampNeg 0) 0 0 Q) ∧ (x6 = 0 → vp_in x4 6 ∧ sk_W Γ m_S_settleCube mc ms 3 [(0, .ref o), (1, .int x1), (2, .int x2), (3, .int x3), (4, .int (x4 + 1))] [] sk_gg I (sk_pj (sk_pj J (o + 1) u1.toNatClampNeg w2) (o + 2) x4.toNatClampNeg (-1)) 0 0 Q))) : sk_W Γ m_S_settleCube mc ms 67 [(0, .ref o), (1, .int x1), (2, .int x2), (3, .int x3), (4, .int x4), (5, .int x5), (6, .int x6)] [.long w2, .int u1, .ref (o + 1)] sk_gg I J 0 0 Q := by
  obtain ⟨hb, h⟩ := h
  refine r_last d_S_settleCube_67 (shS1 ho) hb ?_
  refine sk_aload_n (j := 0) d_S_settleCube_68 rfl rfl ?_
  refine q_getR d_S_settleCube_69 fg_S_15 (shS0 ho) (rrS2 ho) ?_
  refine sk_iload (j := 4) d_S_settleCube_72 rfl ?_
  refine sk_iload (j := 5) d_S_settleCube_74 rfl ?_
  refine sk_if_ne (tgt := 90) d_S_settleCube_76 (by decide) (fun hc => ?_) (fun hc => ?_)
  · replace h := h.1 hc
    refine sk_lconst (v := 0) d_S_settleCube_90 (by decide) ?_
    obtain ⟨hb, h⟩ := h
    refine r_last d_S_settleCube_91 (shS2 ho) hb ?_
    refine sk_iinc (j := 4) (v := x4 + 1) d_S_settleCube_92 rfl (by rfl) (by decide) rfl ?_
    refine sk_goto (tgt := 3) d_S_settleCube_95 (by decide) ?_
    refine sk_loc [1, 2, 3, 4, 0] rfl ?_
    exact h
  · replace h := h.2 hc
    refine sk_iload (j := 6) d_S_settleCube_79 rfl ?_
    refine sk_if_ne (tgt := 90) d_S_settleCube_81 (by decide) (fun hc => ?_) (fun hc => ?_)
    · replace h := h.1 hc
      refine sk_lconst (v := 0) d_S_settleCube_90 (by decide) ?_
      obtain ⟨hb, h⟩ := h
      refine r_last d_S_settleCube_91 (shS2 ho) hb ?_
      refine sk_iinc (j := 4) (v := x4 + 1) d_S_settleCube_92 rfl (by rfl) (by decide) rfl ?_
      refine sk_goto (tgt := 3) d_S_settleCube_95 (by decide) ?_
      refine sk_loc [1, 2, 3, 4, 0] rfl ?_
      exact h
    · replace h := h.2 hc
      refine sk_ldc2 (v := (-1)) d_S_settleCube_84 sw_282 ?_
      refine sk_goto (tgt := 91) d_S_settleCube_87 (by decide) ?_
      obtain ⟨hb, h⟩ := h
      refine r_last d_S_settleCube_91 (shS2 ho) hb ?_
      refine sk_iinc (j := 4) (v := x4 + 1) d_S_settleCube_92 rfl (by rfl) (by decide) rfl ?_
      refine sk_goto (tgt := 3) d_S_settleCube_95 (by decide) ?_
      refine sk_loc [1, 2, 3, 4, 0] rfl ?_
      exact h
theorem s_S_settleCube_103 {Γ : sk_T} {mc ms : Nat} {I : sk_I} {J : sk_J} {Q : sk_Q}  {o : Nat} (ho : sk_sg o) (h : Q (.inl none) sk_gg I J) : sk_W Γ m_S_settleCube mc ms 103 [] [] sk_gg I J 0 0 Q := by
  exact sk_vreturn d_S_settleCube_103 rfl (Nat.zero_le _) (Nat.zero_le _) h
theorem s_S_isContraryTo_0 {Γ : sk_T} {mc ms : Nat} {I : sk_I} {J : sk_J} {Q : sk_Q}  (h : sk_W Γ m_S_isContraryTo mc ms 2 [(0, .ref 26), (1, .ref 31), (2, .int 0)] [] sk_gg I J 0 0 Q) : sk_W Γ m_S_isContraryTo mc ms 0 [(0, .ref 26), (1, .ref 31)] [] sk_gg I J 0 0 Q := by
  refine sk_iconst (v := 0) d_S_isContraryTo_0 (by decide) ?_
  refine sk_istore_n d_S_isContraryTo_1 rfl (by decide) rfl ?_
  refine sk_loc [1, 2, 0] rfl ?_
  exact h
theorem s_S_isContraryTo_2 {Γ : sk_T} {mc ms : Nat} {I : sk_I} {J : sk_J} {Q : sk_Q} {x2 : Int32} (h : ((I 1 4) ≤ x2 → Q (.inl (some (.int 0))) sk_gg I J) ∧ (¬ (I 1 4) ≤ x2 → vp_in x2 12 ∧ vp_in (I 8 x2.toNatClampNeg) 26 ∧ vp_in (I 8 x2.toNatClampNeg) 26 ∧ vp_in (I 8 x2.toNatClampNeg) 26 ∧ vp_in (I 8 x2.toNatClampNeg) 26 ∧ ((lg_cmp (((J 29 (I 8 x2.toNatClampNeg).toNatClampNeg) &&& (J 35 (I 8 x2.toNatClampNeg).toNatClampNeg)) ||| ((J 30 (I 8 x2.toNatClampNeg).toNatClampNeg) &&& (J 34 (I 8 x2.toNatClampNeg).toNatClampNeg))) 0) = 0 → sk_W Γ m_S_isContraryTo mc ms 2 [(0, .ref 26), (1, .ref 31), (2, .int (x2 + 1))] [] sk_gg I J 0 0 Q) ∧ (¬ (lg_cmp (((J 29 (I 8 x2.toNatClampNeg).toNatClampNeg) &&& (J 35 (I 8 x2.toNatClampNeg).toNatClampNeg)) ||| ((J 30 (I 8 x2.toNatClampNeg).toNatClampNeg) &&& (J 34 (I 8 x2.toNatClampNeg).toNatClampNeg))) 0) = 0 → Q (.inl (some (.int 1))) sk_gg I J))) : sk_W Γ m_S_isContraryTo mc ms 2 [(0, .ref 26), (1, .ref 31), (2, .int x2)] [] sk_gg I J 0 0 Q := by
  refine sk_iload_n (j := 2) d_S_isContraryTo_2 rfl rfl ?_
  refine sk_aload_n (j := 0) d_S_isContraryTo_3 rfl rfl ?_
  refine q_getR d_S_isContraryTo_4 fg_S_32 sh_26 rr_26_0 ?_
  refine q_getI d_S_isContraryTo_7 fg_S_72 sh_1 ?_
  refine sk_icmp_ge (tgt := 63) d_S_isContraryTo_10 (by decide) (fun hc => ?_) (fun hc => ?_)
  · replace h := h.1 hc
    refine sk_iconst (v := 0) d_S_isContraryTo_63 (by decide) ?_
    exact q_zreturn d_S_isContraryTo_64 rfl (by decide) (Nat.zero_le _) (Nat.zero_le _) h
  · replace h := h.2 hc
    refine sk_aload_n (j := 0) d_S_isContraryTo_13 rfl rfl ?_
    refine q_getR d_S_isContraryTo_14 fg_S_32 sh_26 rr_26_0 ?_
    refine q_getR d_S_isContraryTo_17 fg_S_75 sh_1 rr_1_12 ?_
    refine sk_iload_n (j := 2) d_S_isContraryTo_20 rfl rfl ?_
    obtain ⟨hb, h⟩ := h
    refine sk_iald d_S_isContraryTo_21 sh_8 hb ?_
    refine sk_istore_n d_S_isContraryTo_22 rfl (by decide) rfl ?_
    refine sk_aload_n (j := 1) d_S_isContraryTo_23 rfl rfl ?_
    refine q_getR d_S_isContraryTo_24 fg_S_18 sh_26 rr_26_3 ?_
    refine sk_iload_n (j := 0) d_S_isContraryTo_27 rfl rfl ?_
    obtain ⟨hb, h⟩ := h
    refine sk_lald d_S_isContraryTo_28 sh_29 hb ?_
    refine sk_aload_n (j := 2) d_S_isContraryTo_29 rfl rfl ?_
    refine q_getR d_S_isContraryTo_30 fg_S_21 sh_31 rr_31_4 ?_
    refine sk_iload_n (j := 0) d_S_isContraryTo_33 rfl rfl ?_
    obtain ⟨hb, h⟩ := h
    refine sk_lald d_S_isContraryTo_34 sh_35 hb ?_
    refine sk_land d_S_isContraryTo_35 ?_
    refine sk_aload_n (j := 1) d_S_isContraryTo_36 rfl rfl ?_
    refine q_getR d_S_isContraryTo_37 fg_S_21 sh_26 rr_26_4 ?_
    refine sk_iload_n (j := 0) d_S_isContraryTo_40 rfl rfl ?_
    obtain ⟨hb, h⟩ := h
    refine sk_lald d_S_isContraryTo_41 sh_30 hb ?_
    refine sk_aload_n (j := 2) d_S_isContraryTo_42 rfl rfl ?_
    refine q_getR d_S_isContraryTo_43 fg_S_18 sh_31 rr_31_3 ?_
    refine sk_iload_n (j := 0) d_S_isContraryTo_46 rfl rfl ?_
    obtain ⟨hb, h⟩ := h
    refine sk_lald d_S_isContraryTo_47 sh_34 hb ?_
    refine sk_land d_S_isContraryTo_48 ?_
    refine sk_lor d_S_isContraryTo_49 ?_
    refine sk_lconst (v := 0) d_S_isContraryTo_50 (by decide) ?_
    refine sk_lcmp d_S_isContraryTo_51 ?_
    refine sk_if_eq (tgt := 57) d_S_isContraryTo_52 (by decide) (fun hc => ?_) (fun hc => ?_)
    · replace h := h.1 hc
      refine sk_iinc (j := 3) (v := x2 + 1) d_S_isContraryTo_57 rfl (by rfl) (by decide) rfl ?_
      refine sk_goto (tgt := 2) d_S_isContraryTo_60 (by decide) ?_
      refine sk_loc [2, 3, 0] rfl ?_
      exact h
    · replace h := h.2 hc
      refine sk_iconst (v := 1) d_S_isContraryTo_55 (by decide) ?_
      exact q_zreturn d_S_isContraryTo_56 rfl (by decide) (Nat.zero_le _) (Nat.zero_le _) h
