/-! segments, printed by wip/whole/gen_seg.py -/
theorem s_R_prepareAll_0 {Γ : sk_T} {mc ms : Nat} {I : sk_I} {J : sk_J} {Q : sk_Q}  (h : sk_W Γ m_R_prepareAll mc ms 2 [(0, .ref 16), (1, .int (-1))] [] sk_gg I J 0 0 Q) : sk_W Γ m_R_prepareAll mc ms 0 [(0, .ref 16)] [] sk_gg I J 0 0 Q := by
  refine sk_iconst (v := (-1)) d_R_prepareAll_0 (by decide) ?_
  refine sk_istore_n d_R_prepareAll_1 rfl (by decide) rfl ?_
  refine sk_loc [1, 0] rfl ?_
  exact h
theorem s_R_prepareAll_2 {Γ : sk_T} {mc ms : Nat} {I : sk_I} {J : sk_J} {Q : sk_Q} {x1 : Int32} (h : sk_S Γ m_C_faults 0 0 (.ref 1 :: []) sk_gg I J (sk_Ki fun v' I' J' => sk_W Γ m_R_prepareAll mc ms 10 [(0, .ref 16), (1, .int x1)] [.int v', .int x1] sk_gg I' J' 0 0 Q)) : sk_W Γ m_R_prepareAll mc ms 2 [(0, .ref 16), (1, .int x1)] [] sk_gg I J 0 0 Q := by
  refine sk_iload_n (j := 1) d_R_prepareAll_2 rfl rfl ?_
  refine sk_aload_n (j := 0) d_R_prepareAll_3 rfl rfl ?_
  refine q_getR d_R_prepareAll_4 fg_R_22 sh_16 rr_16_0 ?_
  exact q_callVi (S := [.int x1]) (as := []) d_R_prepareAll_7 lk_R_35 sh_1 ⟨_, rfl⟩ rfl ⟨by decide, by decide⟩ (Nat.le_of_ble_eq_true rfl) rfl (Nat.zero_le _) (Nat.zero_le _) h
theorem s_R_prepareAll_10 {Γ : sk_T} {mc ms : Nat} {I : sk_I} {J : sk_J} {Q : sk_Q} {x1 : Int32} {u0 : Int32} {u1 : Int32} (h : (u1 ≤ u0 → Q (.inl none) sk_gg I J) ∧ (¬ u1 ≤ u0 → sk_S Γ m_R_workOut 0 0 (.ref 16 :: [.int x1]) sk_gg I J (sk_Kv fun I' J' => sk_W Γ m_R_prepareAll mc ms 18 [(0, .ref 16), (1, .int x1)] [] sk_gg I' J' 0 0 Q))) : sk_W Γ m_R_prepareAll mc ms 10 [(0, .ref 16), (1, .int x1)] [.int u1, .int u0] sk_gg I J 0 0 Q := by
  refine sk_icmp_ge (tgt := 24) d_R_prepareAll_10 (by decide) (fun hc => ?_) (fun hc => ?_)
  · replace h := h.1 hc
    exact sk_vreturn d_R_prepareAll_24 rfl (Nat.zero_le _) (Nat.zero_le _) h
  · replace h := h.2 hc
    refine sk_aload_n (j := 0) d_R_prepareAll_13 rfl rfl ?_
    refine sk_iload_n (j := 1) d_R_prepareAll_14 rfl rfl ?_
    exact q_callVv (S := []) (as := [.int x1]) d_R_prepareAll_15 lk_R_41 sh_16 ⟨_, rfl⟩ rfl ⟨by decide, by decide⟩ (Nat.le_of_ble_eq_true rfl) rfl (Nat.zero_le _) (Nat.zero_le _) h
theorem s_R_prepareAll_18 {Γ : sk_T} {mc ms : Nat} {I : sk_I} {J : sk_J} {Q : sk_Q} {x1 : Int32} (h : sk_W Γ m_R_prepareAll mc ms 2 [(0, .ref 16), (1, .int (x1 + 1))] [] sk_gg I J 0 0 Q) : sk_W Γ m_R_prepareAll mc ms 18 [(0, .ref 16), (1, .int x1)] [] sk_gg I J 0 0 Q := by
  refine sk_iinc (j := 1) (v := x1 + 1) d_R_prepareAll_18 rfl (by rfl) (by decide) rfl ?_
  refine sk_goto (tgt := 2) d_R_prepareAll_21 (by decide) ?_
  refine sk_loc [1, 0] rfl ?_
  exact h
theorem s_R_workOut_0 {Γ : sk_T} {mc ms : Nat} {I : sk_I} {J : sk_J} {Q : sk_Q} {x1 : Int32} (h : vp_in (x1 + 1) 209 ∧ (¬ (I 19 (x1 + 1).toNatClampNeg) = (I 1 0) → sk_S Γ m_C_vectors 0 0 (.ref 1 :: []) sk_gg I J (sk_Ki fun v' I' J' => sk_W Γ m_R_workOut mc ms 33 [(0, .ref 16), (1, .int x1), (2, .int (x1 + 1))] [.int v', .int 64, .long (-1)] sk_gg I' J' 0 0 Q)) ∧ ((I 19 (x1 + 1).toNatClampNeg) = (I 1 0) → Q (.inl none) sk_gg I J)) : sk_W Γ m_R_workOut mc ms 0 [(0, .ref 16), (1, .int x1)] [] sk_gg I J 0 0 Q := by
  refine sk_iload_n (j := 1) d_R_workOut_0 rfl rfl ?_
  refine sk_iconst (v := 1) d_R_workOut_1 (by decide) ?_
  refine sk_iadd d_R_workOut_2 ?_
  refine sk_istore_n d_R_workOut_3 rfl (by decide) rfl ?_
  refine sk_aload_n (j := 1) d_R_workOut_4 rfl rfl ?_
  refine q_getR d_R_workOut_5 fg_R_18 sh_16 rr_16_4 ?_
  refine sk_iload_n (j := 0) d_R_workOut_8 rfl rfl ?_
  obtain ⟨hb, h⟩ := h
  refine sk_iald d_R_workOut_9 sh_19 hb ?_
  refine sk_aload_n (j := 1) d_R_workOut_10 rfl rfl ?_
  refine q_getR d_R_workOut_11 fg_R_22 sh_16 rr_16_0 ?_
  refine q_getI d_R_workOut_14 fg_R_45 sh_1 ?_
  refine sk_icmp_ne (tgt := 21) d_R_workOut_17 (by decide) (fun hc => ?_) (fun hc => ?_)
  · replace h := h.1 hc
    refine sk_ldc2 (v := (-1)) d_R_workOut_21 sw_271 ?_
    refine sk_bipush (v := 64) d_R_workOut_24 (by decide) ?_
    refine sk_aload_n (j := 1) d_R_workOut_26 rfl rfl ?_
    refine q_getR d_R_workOut_27 fg_R_22 sh_16 rr_16_0 ?_
    refine sk_loc [1, 2, 0] rfl ?_
    exact q_callVi (S := [.int 64, .long (-1)]) (as := []) d_R_workOut_30 lk_R_51 sh_1 ⟨_, rfl⟩ rfl ⟨by decide, by decide⟩ (Nat.le_of_ble_eq_true rfl) rfl (Nat.zero_le _) (Nat.zero_le _) h
  · replace h := h.2 hc
    exact sk_vreturn d_R_workOut_20 rfl (Nat.zero_le _) (Nat.zero_le _) h
theorem s_R_workOut_33 {Γ : sk_T} {mc ms : Nat} {I : sk_I} {J : sk_J} {Q : sk_Q} {x1 : Int32} {x2 : Int32} {w0 : Int64} {u1 : Int32} {u2 : Int32} (h : sk_S Γ m_S_settleVectors 0 0 (.ref 20 :: [.int x1]) sk_gg I J (sk_Kv fun I' J' => sk_W Γ m_R_workOut mc ms 47 [(0, .ref 16), (2, .int x2), (3, .long (sk_ushr w0 (u1 - u2))), (5, .long 0)] [] sk_gg I' J' 0 0 Q)) : sk_W Γ m_R_workOut mc ms 33 [(0, .ref 16), (1, .int x1), (2, .int x2)] [.int u2, .int u1, .long w0] sk_gg I J 0 0 Q := by
  refine sk_isub d_R_workOut_33 ?_
  refine r_lushr d_R_workOut_34 ?_
  refine sk_lstore_n d_R_workOut_35 rfl (by decide) rfl ?_
  refine sk_lconst (v := 0) d_R_workOut_36 (by decide) ?_
  refine sk_lstore d_R_workOut_37 (by decide) rfl ?_
  refine sk_aload_n (j := 2) d_R_workOut_39 rfl rfl ?_
  refine q_getR d_R_workOut_40 fg_R_31 sh_16 rr_16_1 ?_
  refine sk_iload_n (j := 3) d_R_workOut_43 rfl rfl ?_
  refine sk_loc [2, 4, 1, 0] rfl ?_
  exact q_callVv (S := []) (as := [.int x1]) d_R_workOut_44 lk_R_54 sh_20 ⟨_, rfl⟩ rfl ⟨by decide, by decide⟩ (Nat.le_of_ble_eq_true rfl) rfl (Nat.zero_le _) (Nat.zero_le _) h
theorem s_R_workOut_47 {Γ : sk_T} {mc ms : Nat} {I : sk_I} {J : sk_J} {Q : sk_Q} {x2 : Int32} {y3 : Int64} {y5 : Int64} (h : sk_W Γ m_R_workOut mc ms 50 [(0, .ref 16), (2, .int x2), (3, .long y3), (5, .long y5), (7, .int 0)] [] sk_gg I J 0 0 Q) : sk_W Γ m_R_workOut mc ms 47 [(0, .ref 16), (2, .int x2), (3, .long y3), (5, .long y5)] [] sk_gg I J 0 0 Q := by
  refine sk_iconst (v := 0) d_R_workOut_47 (by decide) ?_
  refine sk_istore d_R_workOut_48 (by decide) rfl ?_
  refine sk_loc [1, 2, 3, 4, 0] rfl ?_
  exact h
theorem s_R_workOut_50 {Γ : sk_T} {mc ms : Nat} {I : sk_I} {J : sk_J} {Q : sk_Q} {x2 : Int32} {y3 : Int64} {y5 : Int64} {x7 : Int32} (h : ((I 1 4) ≤ x7 → vp_in x2 209 ∧ vp_in x2 209 ∧ Q (.inl none) sk_gg (sk_pi I 19 x2.toNatClampNeg (I 1 0)) (sk_pj J 18 x2.toNatClampNeg y5)) ∧ (¬ (I 1 4) ≤ x7 → vp_in x7 12 ∧ sk_S Γ m_S_onesOf 0 0 (.ref 20 :: [.int (I 8 x7.toNatClampNeg)]) sk_gg I J (sk_Kl fun v' I' J' => sk_W Γ m_R_workOut mc ms 79 [(0, .ref 16), (2, .int x2), (3, .long y3), (5, .long y5), (7, .int x7)] [.long v'] sk_gg I' J' 0 0 Q))) : sk_W Γ m_R_workOut mc ms 50 [(0, .ref 16), (2, .int x2), (3, .long y3), (5, .long y5), (7, .int x7)] [] sk_gg I J 0 0 Q := by
  refine sk_iload (j := 4) d_R_workOut_50 rfl ?_
  refine sk_aload_n (j := 0) d_R_workOut_52 rfl rfl ?_
  refine q_getR d_R_workOut_53 fg_R_22 sh_16 rr_16_0 ?_
  refine q_getI d_R_workOut_56 fg_R_57 sh_1 ?_
  refine sk_icmp_ge (tgt := 118) d_R_workOut_59 (by decide) (fun hc => ?_) (fun hc => ?_)
  · replace h := h.1 hc
    refine sk_aload_n (j := 0) d_R_workOut_118 rfl rfl ?_
    refine q_getR d_R_workOut_119 fg_R_15 sh_16 rr_16_3 ?_
    refine sk_iload_n (j := 1) d_R_workOut_122 rfl rfl ?_
    refine sk_lload (j := 3) d_R_workOut_123 rfl ?_
    obtain ⟨hb, h⟩ := h
    refine r_last d_R_workOut_125 sh_18 hb ?_
    refine sk_aload_n (j := 0) d_R_workOut_126 rfl rfl ?_
    refine q_getR d_R_workOut_127 fg_R_18 sh_16 rr_16_4 ?_
    refine sk_iload_n (j := 1) d_R_workOut_130 rfl rfl ?_
    refine sk_aload_n (j := 0) d_R_workOut_131 rfl rfl ?_
    refine q_getR d_R_workOut_132 fg_R_22 sh_16 rr_16_0 ?_
    refine q_getI d_R_workOut_135 fg_R_45 sh_1 ?_
    obtain ⟨hb, h⟩ := h
    refine r_iast d_R_workOut_138 sh_19 hb ?_
    exact sk_vreturn d_R_workOut_139 rfl (Nat.zero_le _) (Nat.zero_le _) h
  · replace h := h.2 hc
    refine sk_aload_n (j := 0) d_R_workOut_62 rfl rfl ?_
    refine q_getR d_R_workOut_63 fg_R_31 sh_16 rr_16_1 ?_
    refine sk_aload_n (j := 0) d_R_workOut_66 rfl rfl ?_
    refine q_getR d_R_workOut_67 fg_R_22 sh_16 rr_16_0 ?_
    refine q_getR d_R_workOut_70 fg_R_60 sh_1 rr_1_12 ?_
    refine sk_iload (j := 4) d_R_workOut_73 rfl ?_
    obtain ⟨hb, h⟩ := h
    refine sk_iald d_R_workOut_75 sh_8 hb ?_
    exact q_callVl (S := []) (as := [.int (I 8 x7.toNatClampNeg)]) d_R_workOut_76 lk_R_63 sh_20 ⟨_, rfl⟩ rfl ⟨by decide, by decide⟩ (Nat.le_of_ble_eq_true rfl) rfl (Nat.zero_le _) (Nat.zero_le _) h
theorem s_R_workOut_79 {Γ : sk_T} {mc ms : Nat} {I : sk_I} {J : sk_J} {Q : sk_Q} {x2 : Int32} {y3 : Int64} {y5 : Int64} {x7 : Int32} {w0 : Int64} (h : vp_in ((x2 * 12) + x7) 2508 ∧ vp_in x7 2508 ∧ sk_W Γ m_R_workOut mc ms 50 [(0, .ref 16), (2, .int x2), (3, .long y3), (5, .long (y5 ||| ((w0 &&& y3) ^^^ ((sk_pj J 17 ((x2 * 12) + x7).toNatClampNeg (w0 &&& y3)) 17 x7.toNatClampNeg)))), (7, .int (x7 + 1))] [] sk_gg I (sk_pj J 17 ((x2 * 12) + x7).toNatClampNeg (w0 &&& y3)) 0 0 Q) : sk_W Γ m_R_workOut mc ms 79 [(0, .ref 16), (2, .int x2), (3, .long y3), (5, .long y5), (7, .int x7)] [.long w0] sk_gg I J 0 0 Q := by
  refine sk_lload_n (j := 2) d_R_workOut_79 rfl rfl ?_
  refine sk_land d_R_workOut_80 ?_
  refine sk_lstore d_R_workOut_81 (by decide) rfl ?_
  refine sk_aload_n (j := 1) d_R_workOut_83 rfl rfl ?_
  refine q_getR d_R_workOut_84 fg_R_9 sh_16 rr_16_2 ?_
  refine sk_iload_n (j := 2) d_R_workOut_87 rfl rfl ?_
  refine sk_bipush (v := 12) d_R_workOut_88 (by decide) ?_
  refine sk_imul d_R_workOut_90 ?_
  refine sk_iload (j := 5) d_R_workOut_91 rfl ?_
  refine sk_iadd d_R_workOut_93 ?_
  refine sk_lload (j := 0) d_R_workOut_94 rfl ?_
  obtain ⟨hb, h⟩ := h
  refine r_last d_R_workOut_96 sh_17 hb ?_
  refine sk_lload (j := 4) d_R_workOut_97 rfl ?_
  refine sk_lload (j := 0) d_R_workOut_99 rfl ?_
  refine sk_aload_n (j := 1) d_R_workOut_101 rfl rfl ?_
  refine q_getR d_R_workOut_102 fg_R_9 sh_16 rr_16_2 ?_
  refine sk_iload (j := 5) d_R_workOut_105 rfl ?_
  obtain ⟨hb, h⟩ := h
  refine sk_lald d_R_workOut_107 sh_17 hb ?_
  refine sk_lxor d_R_workOut_108 ?_
  refine sk_lor d_R_workOut_109 ?_
  refine sk_lstore d_R_workOut_110 (by decide) rfl ?_
  refine sk_iinc (j := 5) (v := x7 + 1) d_R_workOut_112 rfl (by rfl) (by decide) rfl ?_
  refine sk_goto (tgt := 50) d_R_workOut_115 (by decide) ?_
  refine sk_loc [3, 4, 5, 1, 0] rfl ?_
  exact h
theorem s_R_firstShowing_0 {Γ : sk_T} {mc ms : Nat} {I : sk_I} {J : sk_J} {Q : sk_Q} {x1 : Int32} (h : sk_S Γ m_R_vectorsShowing 0 0 (.ref 16 :: [.int x1]) sk_gg I J (sk_Kl fun v' I' J' => sk_W Γ m_R_firstShowing mc ms 5 [] [.long v'] sk_gg I' J' 0 0 Q)) : sk_W Γ m_R_firstShowing mc ms 0 [(0, .ref 16), (1, .int x1)] [] sk_gg I J 0 0 Q := by
  refine sk_aload_n (j := 0) d_R_firstShowing_0 rfl rfl ?_
  refine sk_iload_n (j := 1) d_R_firstShowing_1 rfl rfl ?_
  refine sk_loc [] rfl ?_
  exact q_callVl (S := []) (as := [.int x1]) d_R_firstShowing_2 lk_R_67 sh_16 ⟨_, rfl⟩ rfl ⟨by decide, by decide⟩ (Nat.le_of_ble_eq_true rfl) rfl (Nat.zero_le _) (Nat.zero_le _) h
theorem s_R_firstShowing_5 {Γ : sk_T} {mc ms : Nat} {I : sk_I} {J : sk_J} {Q : sk_Q} {w0 : Int64} (h : sk_W Γ m_R_firstShowing mc ms 9 [(2, .long w0), (4, .int 0)] [] sk_gg I J 0 0 Q) : sk_W Γ m_R_firstShowing mc ms 5 [] [.long w0] sk_gg I J 0 0 Q := by
  refine sk_lstore_n d_R_firstShowing_5 rfl (by decide) rfl ?_
  refine sk_iconst (v := 0) d_R_firstShowing_6 (by decide) ?_
  refine sk_istore d_R_firstShowing_7 (by decide) rfl ?_
  refine sk_loc [1, 0] rfl ?_
  exact h
theorem s_R_firstShowing_9 {Γ : sk_T} {mc ms : Nat} {I : sk_I} {J : sk_J} {Q : sk_Q} {y2 : Int64} {x4 : Int32} (h : (64 ≤ x4 → Q (.inl (some (.int (-1)))) sk_gg I J) ∧ (¬ 64 ≤ x4 → (¬ (lg_cmp ((sk_ushr y2 x4) &&& 1) 1) = 0 → sk_W Γ m_R_firstShowing mc ms 9 [(2, .long y2), (4, .int (x4 + 1))] [] sk_gg I J 0 0 Q) ∧ ((lg_cmp ((sk_ushr y2 x4) &&& 1) 1) = 0 → Q (.inl (some (.int x4))) sk_gg I J))) : sk_W Γ m_R_firstShowing mc ms 9 [(2, .long y2), (4, .int x4)] [] sk_gg I J 0 0 Q := by
  refine sk_iload (j := 1) d_R_firstShowing_9 rfl ?_
  refine sk_bipush (v := 64) d_R_firstShowing_11 (by decide) ?_
  refine sk_icmp_ge (tgt := 36) d_R_firstShowing_13 (by decide) (fun hc => ?_) (fun hc => ?_)
  · replace h := h.1 hc
    refine sk_iconst (v := (-1)) d_R_firstShowing_36 (by decide) ?_
    exact sk_ireturn d_R_firstShowing_37 rfl (Nat.zero_le _) (Nat.zero_le _) h
  · replace h := h.2 hc
    refine sk_lload_n (j := 0) d_R_firstShowing_16 rfl rfl ?_
    refine sk_iload (j := 1) d_R_firstShowing_17 rfl ?_
    refine r_lushr d_R_firstShowing_19 ?_
    refine sk_lconst (v := 1) d_R_firstShowing_20 (by decide) ?_
    refine sk_land d_R_firstShowing_21 ?_
    refine sk_lconst (v := 1) d_R_firstShowing_22 (by decide) ?_
    refine sk_lcmp d_R_firstShowing_23 ?_
    refine sk_if_ne (tgt := 30) d_R_firstShowing_24 (by decide) (fun hc => ?_) (fun hc => ?_)
    · replace h := h.1 hc
      refine sk_iinc (j := 1) (v := x4 + 1) d_R_firstShowing_30 rfl (by rfl) (by decide) rfl ?_
      refine sk_goto (tgt := 9) d_R_firstShowing_33 (by decide) ?_
      refine sk_loc [1, 0] rfl ?_
      exact h
    · replace h := h.2 hc
      refine sk_iload (j := 1) d_R_firstShowing_27 rfl ?_
      exact sk_ireturn d_R_firstShowing_29 rfl (Nat.zero_le _) (Nat.zero_le _) h
theorem s_R_vectorsShowing_0 {Γ : sk_T} {mc ms : Nat} {I : sk_I} {J : sk_J} {Q : sk_Q} {x1 : Int32} (h : vp_in (x1 + 1) 209 ∧ Q (.inl (some (.long (J 18 (x1 + 1).toNatClampNeg)))) sk_gg I J) : sk_W Γ m_R_vectorsShowing mc ms 0 [(0, .ref 16), (1, .int x1)] [] sk_gg I J 0 0 Q := by
  refine sk_aload_n (j := 0) d_R_vectorsShowing_0 rfl rfl ?_
  refine q_getR d_R_vectorsShowing_1 fg_R_15 sh_16 rr_16_3 ?_
  refine sk_iload_n (j := 1) d_R_vectorsShowing_4 rfl rfl ?_
  refine sk_iconst (v := 1) d_R_vectorsShowing_5 (by decide) ?_
  refine sk_iadd d_R_vectorsShowing_6 ?_
  obtain ⟨hb, h⟩ := h
  refine sk_lald d_R_vectorsShowing_7 sh_18 hb ?_
  exact sk_lreturn d_R_vectorsShowing_8 rfl (Nat.zero_le _) (Nat.zero_le _) h
theorem s_R_prepare_0 {Γ : sk_T} {mc ms : Nat} {I : sk_I} {J : sk_J} {Q : sk_Q} {x1 : Int32} (h : sk_S Γ m_R_workOut 0 0 (.ref 16 :: [.int (-1)]) sk_gg I J (sk_Kv fun I' J' => sk_W Γ m_R_prepare mc ms 5 [(0, .ref 16), (1, .int x1)] [] sk_gg I' J' 0 0 Q)) : sk_W Γ m_R_prepare mc ms 0 [(0, .ref 16), (1, .int x1)] [] sk_gg I J 0 0 Q := by
  refine sk_aload_n (j := 0) d_R_prepare_0 rfl rfl ?_
  refine sk_iconst (v := (-1)) d_R_prepare_1 (by decide) ?_
  exact q_callVv (S := []) (as := [.int (-1)]) d_R_prepare_2 lk_R_41 sh_16 ⟨_, rfl⟩ rfl ⟨by decide, by decide⟩ (Nat.le_of_ble_eq_true rfl) rfl (Nat.zero_le _) (Nat.zero_le _) h
theorem s_R_prepare_5 {Γ : sk_T} {mc ms : Nat} {I : sk_I} {J : sk_J} {Q : sk_Q} {x1 : Int32} (h : sk_S Γ m_R_workOut 0 0 (.ref 16 :: [.int x1]) sk_gg I J (sk_Kv fun I' J' => sk_W Γ m_R_prepare mc ms 10 [] [] sk_gg I' J' 0 0 Q)) : sk_W Γ m_R_prepare mc ms 5 [(0, .ref 16), (1, .int x1)] [] sk_gg I J 0 0 Q := by
  refine sk_aload_n (j := 0) d_R_prepare_5 rfl rfl ?_
  refine sk_iload_n (j := 1) d_R_prepare_6 rfl rfl ?_
  refine sk_loc [] rfl ?_
  exact q_callVv (S := []) (as := [.int x1]) d_R_prepare_7 lk_R_41 sh_16 ⟨_, rfl⟩ rfl ⟨by decide, by decide⟩ (Nat.le_of_ble_eq_true rfl) rfl (Nat.zero_le _) (Nat.zero_le _) h
theorem s_R_prepare_10 {Γ : sk_T} {mc ms : Nat} {I : sk_I} {J : sk_J} {Q : sk_Q}  (h : Q (.inl none) sk_gg I J) : sk_W Γ m_R_prepare mc ms 10 [] [] sk_gg I J 0 0 Q := by
  exact sk_vreturn d_R_prepare_10 rfl (Nat.zero_le _) (Nat.zero_le _) h
theorem s_R_to_0 {Γ : sk_T} {mc ms : Nat} {I : sk_I} {J : sk_J} {Q : sk_Q} {x1 : Int32} {x2 : Int32} (h : sk_W Γ m_R_to mc ms 13 [(0, .ref 16), (1, .int x1), (3, .int ((x2 + 1) * 12)), (4, .int 0), (5, .int 0)] [] sk_gg I J 0 0 Q) : sk_W Γ m_R_to mc ms 0 [(0, .ref 16), (1, .int x1), (2, .int x2)] [] sk_gg I J 0 0 Q := by
  refine sk_iload_n (j := 2) d_R_to_0 rfl rfl ?_
  refine sk_iconst (v := 1) d_R_to_1 (by decide) ?_
  refine sk_iadd d_R_to_2 ?_
  refine sk_bipush (v := 12) d_R_to_3 (by decide) ?_
  refine sk_imul d_R_to_5 ?_
  refine sk_istore_n d_R_to_6 rfl (by decide) rfl ?_
  refine sk_iconst (v := 0) d_R_to_7 (by decide) ?_
  refine sk_istore d_R_to_8 (by decide) rfl ?_
  refine sk_iconst (v := 0) d_R_to_10 (by decide) ?_
  refine sk_istore d_R_to_11 (by decide) rfl ?_
  refine sk_loc [3, 4, 2, 1, 0] rfl ?_
  exact h
theorem s_R_to_13 {Γ : sk_T} {mc ms : Nat} {I : sk_I} {J : sk_J} {Q : sk_Q} {x1 : Int32} {x3 : Int32} {x4 : Int32} {x5 : Int32} (h : ((I 1 4) ≤ x5 → Q (.inl (some (.int x4))) sk_gg I J) ∧ (¬ (I 1 4) ≤ x5 → vp_in (x3 + x5) 2508 ∧ sk_W Γ m_R_to mc ms 13 [(0, .ref 16), (1, .int x1), (3, .int x3), (4, .int (x4 ||| ((Int64.toInt32 ((sk_ushr (J 17 (x3 + x5).toNatClampNeg) x1) &&& 1)) <<< (x5 &&& 31)))), (5, .int (x5 + 1))] [] sk_gg I J 0 0 Q)) : sk_W Γ m_R_to mc ms 13 [(0, .ref 16), (1, .int x1), (3, .int x3), (4, .int x4), (5, .int x5)] [] sk_gg I J 0 0 Q := by
  refine sk_iload (j := 4) d_R_to_13 rfl ?_
  refine sk_aload_n (j := 0) d_R_to_15 rfl rfl ?_
  refine q_getR d_R_to_16 fg_R_22 sh_16 rr_16_0 ?_
  refine q_getI d_R_to_19 fg_R_57 sh_1 ?_
  refine sk_icmp_ge (tgt := 53) d_R_to_22 (by decide) (fun hc => ?_) (fun hc => ?_)
  · replace h := h.1 hc
    refine sk_iload (j := 3) d_R_to_53 rfl ?_
    exact sk_ireturn d_R_to_55 rfl (Nat.zero_le _) (Nat.zero_le _) h
  · replace h := h.2 hc
    refine sk_iload (j := 3) d_R_to_25 rfl ?_
    refine sk_aload_n (j := 0) d_R_to_27 rfl rfl ?_
    refine q_getR d_R_to_28 fg_R_9 sh_16 rr_16_2 ?_
    refine sk_iload_n (j := 2) d_R_to_31 rfl rfl ?_
    refine sk_iload (j := 4) d_R_to_32 rfl ?_
    refine sk_iadd d_R_to_34 ?_
    obtain ⟨hb, h⟩ := h
    refine sk_lald d_R_to_35 sh_17 hb ?_
    refine sk_iload_n (j := 1) d_R_to_36 rfl rfl ?_
    refine r_lushr d_R_to_37 ?_
    refine sk_lconst (v := 1) d_R_to_38 (by decide) ?_
    refine sk_land d_R_to_39 ?_
    refine sk_l2i d_R_to_40 ?_
    refine sk_iload (j := 4) d_R_to_41 rfl ?_
    refine sk_ishl d_R_to_43 ?_
    refine sk_ior d_R_to_44 ?_
    refine sk_istore d_R_to_45 (by decide) rfl ?_
    refine sk_iinc (j := 4) (v := x5 + 1) d_R_to_47 rfl (by rfl) (by decide) rfl ?_
    refine sk_goto (tgt := 13) d_R_to_50 (by decide) ?_
    refine sk_loc [2, 3, 4, 1, 0] rfl ?_
    exact h
theorem s_R_shownFaults_0 {Γ : sk_T} {mc ms : Nat} {I : sk_I} {J : sk_J} {Q : sk_Q}  (h : sk_W Γ m_R_shownFaults mc ms 4 [(0, .ref 16), (1, .int 0), (2, .int 0)] [] sk_gg I J 0 0 Q) : sk_W Γ m_R_shownFaults mc ms 0 [(0, .ref 16)] [] sk_gg I J 0 0 Q := by
  refine sk_iconst (v := 0) d_R_shownFaults_0 (by decide) ?_
  refine sk_istore_n d_R_shownFaults_1 rfl (by decide) rfl ?_
  refine sk_iconst (v := 0) d_R_shownFaults_2 (by decide) ?_
  refine sk_istore_n d_R_shownFaults_3 rfl (by decide) rfl ?_
  refine sk_loc [2, 1, 0] rfl ?_
  exact h
theorem s_R_shownFaults_4 {Γ : sk_T} {mc ms : Nat} {I : sk_I} {J : sk_J} {Q : sk_Q} {x1 : Int32} {x2 : Int32} (h : sk_S Γ m_C_faults 0 0 (.ref 1 :: []) sk_gg I J (sk_Ki fun v' I' J' => sk_W Γ m_R_shownFaults mc ms 12 [(0, .ref 16), (1, .int x1), (2, .int x2)] [.int v', .int x2] sk_gg I' J' 0 0 Q)) : sk_W Γ m_R_shownFaults mc ms 4 [(0, .ref 16), (1, .int x1), (2, .int x2)] [] sk_gg I J 0 0 Q := by
  refine sk_iload_n (j := 2) d_R_shownFaults_4 rfl rfl ?_
  refine sk_aload_n (j := 0) d_R_shownFaults_5 rfl rfl ?_
  refine q_getR d_R_shownFaults_6 fg_R_22 sh_16 rr_16_0 ?_
  exact q_callVi (S := [.int x2]) (as := []) d_R_shownFaults_9 lk_R_35 sh_1 ⟨_, rfl⟩ rfl ⟨by decide, by decide⟩ (Nat.le_of_ble_eq_true rfl) rfl (Nat.zero_le _) (Nat.zero_le _) h
theorem s_R_shownFaults_12 {Γ : sk_T} {mc ms : Nat} {I : sk_I} {J : sk_J} {Q : sk_Q} {x1 : Int32} {x2 : Int32} {u0 : Int32} {u1 : Int32} (h : (u1 ≤ u0 → Q (.inl (some (.int x1))) sk_gg I J) ∧ (¬ u1 ≤ u0 → sk_S Γ m_R_vectorsShowing 0 0 (.ref 16 :: [.int x2]) sk_gg I J (sk_Kl fun v' I' J' => sk_W Γ m_R_shownFaults mc ms 20 [(0, .ref 16), (1, .int x1), (2, .int x2)] [.long v'] sk_gg I' J' 0 0 Q))) : sk_W Γ m_R_shownFaults mc ms 12 [(0, .ref 16), (1, .int x1), (2, .int x2)] [.int u1, .int u0] sk_gg I J 0 0 Q := by
  refine sk_icmp_ge (tgt := 34) d_R_shownFaults_12 (by decide) (fun hc => ?_) (fun hc => ?_)
  · replace h := h.1 hc
    refine sk_iload_n (j := 1) d_R_shownFaults_34 rfl rfl ?_
    exact sk_ireturn d_R_shownFaults_35 rfl (Nat.zero_le _) (Nat.zero_le _) h
  · replace h := h.2 hc
    refine sk_aload_n (j := 0) d_R_shownFaults_15 rfl rfl ?_
    refine sk_iload_n (j := 2) d_R_shownFaults_16 rfl rfl ?_
    exact q_callVl (S := []) (as := [.int x2]) d_R_shownFaults_17 lk_R_67 sh_16 ⟨_, rfl⟩ rfl ⟨by decide, by decide⟩ (Nat.le_of_ble_eq_true rfl) rfl (Nat.zero_le _) (Nat.zero_le _) h
theorem s_R_shownFaults_20 {Γ : sk_T} {mc ms : Nat} {I : sk_I} {J : sk_J} {Q : sk_Q} {x1 : Int32} {x2 : Int32} {w0 : Int64} (h : ((lg_cmp w0 0) = 0 → sk_W Γ m_R_shownFaults mc ms 4 [(0, .ref 16), (1, .int x1), (2, .int (x2 + 1))] [] sk_gg I J 0 0 Q) ∧ (¬ (lg_cmp w0 0) = 0 → sk_W Γ m_R_shownFaults mc ms 4 [(0, .ref 16), (1, .int (x1 + 1)), (2, .int (x2 + 1))] [] sk_gg I J 0 0 Q)) : sk_W Γ m_R_shownFaults mc ms 20 [(0, .ref 16), (1, .int x1), (2, .int x2)] [.long w0] sk_gg I J 0 0 Q := by
  refine sk_lconst (v := 0) d_R_shownFaults_20 (by decide) ?_
  refine sk_lcmp d_R_shownFaults_21 ?_
  refine sk_if_eq (tgt := 28) d_R_shownFaults_22 (by decide) (fun hc => ?_) (fun hc => ?_)
  · replace h := h.1 hc
    refine sk_iinc (j := 2) (v := x2 + 1) d_R_shownFaults_28 rfl (by rfl) (by decide) rfl ?_
    refine sk_goto (tgt := 4) d_R_shownFaults_31 (by decide) ?_
    refine sk_loc [1, 2, 0] rfl ?_
    exact h
  · replace h := h.2 hc
    refine sk_iinc (j := 1) (v := x1 + 1) d_R_shownFaults_25 rfl (by rfl) (by decide) rfl ?_
    refine sk_iinc (j := 2) (v := x2 + 1) d_R_shownFaults_28 rfl (by rfl) (by decide) rfl ?_
    refine sk_goto (tgt := 4) d_R_shownFaults_31 (by decide) ?_
    refine sk_loc [2, 1, 0] rfl ?_
    exact h
theorem s_R_classesOfAlike_0 {Γ : sk_T} {mc ms : Nat} {I : sk_I} {J : sk_J} {Q : sk_Q}  (h : sk_W Γ m_R_classesOfAlike mc ms 4 [(0, .ref 16), (1, .int 0), (2, .int 0)] [] sk_gg I J 0 0 Q) : sk_W Γ m_R_classesOfAlike mc ms 0 [(0, .ref 16)] [] sk_gg I J 0 0 Q := by
  refine sk_iconst (v := 0) d_R_classesOfAlike_0 (by decide) ?_
  refine sk_istore_n d_R_classesOfAlike_1 rfl (by decide) rfl ?_
  refine sk_iconst (v := 0) d_R_classesOfAlike_2 (by decide) ?_
  refine sk_istore_n d_R_classesOfAlike_3 rfl (by decide) rfl ?_
  refine sk_loc [2, 1, 0] rfl ?_
  exact h
theorem s_R_classesOfAlike_4 {Γ : sk_T} {mc ms : Nat} {I : sk_I} {J : sk_J} {Q : sk_Q} {x1 : Int32} {x2 : Int32} (h : sk_S Γ m_C_faults 0 0 (.ref 1 :: []) sk_gg I J (sk_Ki fun v' I' J' => sk_W Γ m_R_classesOfAlike mc ms 12 [(0, .ref 16), (1, .int x1), (2, .int x2)] [.int v', .int x2] sk_gg I' J' 0 0 Q)) : sk_W Γ m_R_classesOfAlike mc ms 4 [(0, .ref 16), (1, .int x1), (2, .int x2)] [] sk_gg I J 0 0 Q := by
  refine sk_iload_n (j := 2) d_R_classesOfAlike_4 rfl rfl ?_
  refine sk_aload_n (j := 0) d_R_classesOfAlike_5 rfl rfl ?_
  refine q_getR d_R_classesOfAlike_6 fg_R_22 sh_16 rr_16_0 ?_
  exact q_callVi (S := [.int x2]) (as := []) d_R_classesOfAlike_9 lk_R_35 sh_1 ⟨_, rfl⟩ rfl ⟨by decide, by decide⟩ (Nat.le_of_ble_eq_true rfl) rfl (Nat.zero_le _) (Nat.zero_le _) h
theorem s_R_classesOfAlike_12 {Γ : sk_T} {mc ms : Nat} {I : sk_I} {J : sk_J} {Q : sk_Q} {x1 : Int32} {x2 : Int32} {u0 : Int32} {u1 : Int32} (h : (u1 ≤ u0 → Q (.inl (some (.int x1))) sk_gg I J) ∧ (¬ u1 ≤ u0 → sk_S Γ m_R_firstAlike 0 0 (.ref 16 :: [.int x2]) sk_gg I J (sk_Ki fun v' I' J' => sk_W Γ m_R_classesOfAlike mc ms 20 [(0, .ref 16), (1, .int x1), (2, .int x2)] [.int v'] sk_gg I' J' 0 0 Q))) : sk_W Γ m_R_classesOfAlike mc ms 12 [(0, .ref 16), (1, .int x1), (2, .int x2)] [.int u1, .int u0] sk_gg I J 0 0 Q := by
  refine sk_icmp_ge (tgt := 33) d_R_classesOfAlike_12 (by decide) (fun hc => ?_) (fun hc => ?_)
  · replace h := h.1 hc
    refine sk_iload_n (j := 1) d_R_classesOfAlike_33 rfl rfl ?_
    exact sk_ireturn d_R_classesOfAlike_34 rfl (Nat.zero_le _) (Nat.zero_le _) h
  · replace h := h.2 hc
    refine sk_aload_n (j := 0) d_R_classesOfAlike_15 rfl rfl ?_
    refine sk_iload_n (j := 2) d_R_classesOfAlike_16 rfl rfl ?_
    exact q_callVi (S := []) (as := [.int x2]) d_R_classesOfAlike_17 lk_R_74 sh_16 ⟨_, rfl⟩ rfl ⟨by decide, by decide⟩ (Nat.le_of_ble_eq_true rfl) rfl (Nat.zero_le _) (Nat.zero_le _) h
theorem s_R_classesOfAlike_20 {Γ : sk_T} {mc ms : Nat} {I : sk_I} {J : sk_J} {Q : sk_Q} {x1 : Int32} {x2 : Int32} {u0 : Int32} (h : (¬ u0 = x2 → sk_W Γ m_R_classesOfAlike mc ms 4 [(0, .ref 16), (1, .int x1), (2, .int (x2 + 1))] [] sk_gg I J 0 0 Q) ∧ (u0 = x2 → sk_W Γ m_R_classesOfAlike mc ms 4 [(0, .ref 16), (1, .int (x1 + 1)), (2, .int (x2 + 1))] [] sk_gg I J 0 0 Q)) : sk_W Γ m_R_classesOfAlike mc ms 20 [(0, .ref 16), (1, .int x1), (2, .int x2)] [.int u0] sk_gg I J 0 0 Q := by
  refine sk_iload_n (j := 2) d_R_classesOfAlike_20 rfl rfl ?_
  refine sk_icmp_ne (tgt := 27) d_R_classesOfAlike_21 (by decide) (fun hc => ?_) (fun hc => ?_)
  · replace h := h.1 hc
    refine sk_iinc (j := 2) (v := x2 + 1) d_R_classesOfAlike_27 rfl (by rfl) (by decide) rfl ?_
    refine sk_goto (tgt := 4) d_R_classesOfAlike_30 (by decide) ?_
    refine sk_loc [1, 2, 0] rfl ?_
    exact h
  · replace h := h.2 hc
    refine sk_iinc (j := 1) (v := x1 + 1) d_R_classesOfAlike_24 rfl (by rfl) (by decide) rfl ?_
    refine sk_iinc (j := 2) (v := x2 + 1) d_R_classesOfAlike_27 rfl (by rfl) (by decide) rfl ?_
    refine sk_goto (tgt := 4) d_R_classesOfAlike_30 (by decide) ?_
    refine sk_loc [2, 1, 0] rfl ?_
    exact h
theorem s_R_firstAlike_0 {Γ : sk_T} {mc ms : Nat} {I : sk_I} {J : sk_J} {Q : sk_Q} {x1 : Int32} (h : sk_W Γ m_R_firstAlike mc ms 2 [(0, .ref 16), (1, .int x1), (2, .int 0)] [] sk_gg I J 0 0 Q) : sk_W Γ m_R_firstAlike mc ms 0 [(0, .ref 16), (1, .int x1)] [] sk_gg I J 0 0 Q := by
  refine sk_iconst (v := 0) d_R_firstAlike_0 (by decide) ?_
  refine sk_istore_n d_R_firstAlike_1 rfl (by decide) rfl ?_
  refine sk_loc [1, 2, 0] rfl ?_
  exact h
theorem s_R_firstAlike_2 {Γ : sk_T} {mc ms : Nat} {I : sk_I} {J : sk_J} {Q : sk_Q} {x1 : Int32} {x2 : Int32} (h : (x1 ≤ x2 → Q (.inl (some (.int x1))) sk_gg I J) ∧ (¬ x1 ≤ x2 → sk_S Γ m_R_areAlike 0 0 (.ref 16 :: [.int x2, .int x1]) sk_gg I J (sk_Ki fun v' I' J' => sk_W Γ m_R_firstAlike mc ms 13 [(0, .ref 16), (1, .int x1), (2, .int x2)] [.int v'] sk_gg I' J' 0 0 Q))) : sk_W Γ m_R_firstAlike mc ms 2 [(0, .ref 16), (1, .int x1), (2, .int x2)] [] sk_gg I J 0 0 Q := by
  refine sk_iload_n (j := 2) d_R_firstAlike_2 rfl rfl ?_
  refine sk_iload_n (j := 1) d_R_firstAlike_3 rfl rfl ?_
  refine sk_icmp_ge (tgt := 24) d_R_firstAlike_4 (by decide) (fun hc => ?_) (fun hc => ?_)
  · replace h := h.1 hc
    refine sk_iload_n (j := 1) d_R_firstAlike_24 rfl rfl ?_
    exact sk_ireturn d_R_firstAlike_25 rfl (Nat.zero_le _) (Nat.zero_le _) h
  · replace h := h.2 hc
    refine sk_aload_n (j := 0) d_R_firstAlike_7 rfl rfl ?_
    refine sk_iload_n (j := 2) d_R_firstAlike_8 rfl rfl ?_
    refine sk_iload_n (j := 1) d_R_firstAlike_9 rfl rfl ?_
    exact q_callVi (S := []) (as := [.int x2, .int x1]) d_R_firstAlike_10 lk_R_70 sh_16 ⟨_, rfl⟩ rfl ⟨by decide, by decide⟩ (Nat.le_of_ble_eq_true rfl) rfl (Nat.zero_le _) (Nat.zero_le _) h
theorem s_R_firstAlike_13 {Γ : sk_T} {mc ms : Nat} {I : sk_I} {J : sk_J} {Q : sk_Q} {x1 : Int32} {x2 : Int32} {u0 : Int32} (h : (u0 = 0 → sk_W Γ m_R_firstAlike mc ms 2 [(0, .ref 16), (1, .int x1), (2, .int (x2 + 1))] [] sk_gg I J 0 0 Q) ∧ (¬ u0 = 0 → Q (.inl (some (.int x2))) sk_gg I J)) : sk_W Γ m_R_firstAlike mc ms 13 [(0, .ref 16), (1, .int x1), (2, .int x2)] [.int u0] sk_gg I J 0 0 Q := by
  refine sk_if_eq (tgt := 18) d_R_firstAlike_13 (by decide) (fun hc => ?_) (fun hc => ?_)
  · replace h := h.1 hc
    refine sk_iinc (j := 2) (v := x2 + 1) d_R_firstAlike_18 rfl (by rfl) (by decide) rfl ?_
    refine sk_goto (tgt := 2) d_R_firstAlike_21 (by decide) ?_
    refine sk_loc [1, 2, 0] rfl ?_
    exact h
  · replace h := h.2 hc
    refine sk_iload_n (j := 2) d_R_firstAlike_16 rfl rfl ?_
    exact sk_ireturn d_R_firstAlike_17 rfl (Nat.zero_le _) (Nat.zero_le _) h
theorem s_R_areAlike_0 {Γ : sk_T} {mc ms : Nat} {I : sk_I} {J : sk_J} {Q : sk_Q} {x1 : Int32} {x2 : Int32} (h : sk_S Γ m_R_vectorsShowing 0 0 (.ref 16 :: [.int x1]) sk_gg I J (sk_Kl fun v' I' J' => sk_W Γ m_R_areAlike mc ms 5 [(0, .ref 16), (1, .int x1), (2, .int x2)] [.long v'] sk_gg I' J' 0 0 Q)) : sk_W Γ m_R_areAlike mc ms 0 [(0, .ref 16), (1, .int x1), (2, .int x2)] [] sk_gg I J 0 0 Q := by
  refine sk_aload_n (j := 0) d_R_areAlike_0 rfl rfl ?_
  refine sk_iload_n (j := 1) d_R_areAlike_1 rfl rfl ?_
  exact q_callVl (S := []) (as := [.int x1]) d_R_areAlike_2 lk_R_67 sh_16 ⟨_, rfl⟩ rfl ⟨by decide, by decide⟩ (Nat.le_of_ble_eq_true rfl) rfl (Nat.zero_le _) (Nat.zero_le _) h
theorem s_R_areAlike_5 {Γ : sk_T} {mc ms : Nat} {I : sk_I} {J : sk_J} {Q : sk_Q} {x1 : Int32} {x2 : Int32} {w0 : Int64} (h : sk_S Γ m_R_vectorsShowing 0 0 (.ref 16 :: [.int x2]) sk_gg I J (sk_Kl fun v' I' J' => sk_W Γ m_R_areAlike mc ms 10 [(0, .ref 16), (1, .int x1), (2, .int x2)] [.long v', .long w0] sk_gg I' J' 0 0 Q)) : sk_W Γ m_R_areAlike mc ms 5 [(0, .ref 16), (1, .int x1), (2, .int x2)] [.long w0] sk_gg I J 0 0 Q := by
  refine sk_aload_n (j := 0) d_R_areAlike_5 rfl rfl ?_
  refine sk_iload_n (j := 2) d_R_areAlike_6 rfl rfl ?_
  exact q_callVl (S := [.long w0]) (as := [.int x2]) d_R_areAlike_7 lk_R_67 sh_16 ⟨_, rfl⟩ rfl ⟨by decide, by decide⟩ (Nat.le_of_ble_eq_true rfl) rfl (Nat.zero_le _) (Nat.zero_le _) h
theorem s_R_areAlike_10 {Γ : sk_T} {mc ms : Nat} {I : sk_I} {J : sk_J} {Q : sk_Q} {x1 : Int32} {x2 : Int32} {w0 : Int64} {w1 : Int64} (h : ((lg_cmp w0 w1) = 0 → sk_W Γ m_R_areAlike mc ms 34 [(0, .ref 16), (3, .int ((x1 + 1) * 12)), (4, .int ((x2 + 1) * 12)), (5, .int 0)] [] sk_gg I J 0 0 Q) ∧ (¬ (lg_cmp w0 w1) = 0 → Q (.inl (some (.int 0))) sk_gg I J)) : sk_W Γ m_R_areAlike mc ms 10 [(0, .ref 16), (1, .int x1), (2, .int x2)] [.long w1, .long w0] sk_gg I J 0 0 Q := by
  refine sk_lcmp d_R_areAlike_10 ?_
  refine sk_if_eq (tgt := 16) d_R_areAlike_11 (by decide) (fun hc => ?_) (fun hc => ?_)
  · replace h := h.1 hc
    refine sk_iload_n (j := 1) d_R_areAlike_16 rfl rfl ?_
    refine sk_iconst (v := 1) d_R_areAlike_17 (by decide) ?_
    refine sk_iadd d_R_areAlike_18 ?_
    refine sk_bipush (v := 12) d_R_areAlike_19 (by decide) ?_
    refine sk_imul d_R_areAlike_21 ?_
    refine sk_istore_n d_R_areAlike_22 rfl (by decide) rfl ?_
    refine sk_iload_n (j := 3) d_R_areAlike_23 rfl rfl ?_
    refine sk_iconst (v := 1) d_R_areAlike_24 (by decide) ?_
    refine sk_iadd d_R_areAlike_25 ?_
    refine sk_bipush (v := 12) d_R_areAlike_26 (by decide) ?_
    refine sk_imul d_R_areAlike_28 ?_
    refine sk_istore d_R_areAlike_29 (by decide) rfl ?_
    refine sk_iconst (v := 0) d_R_areAlike_31 (by decide) ?_
    refine sk_istore d_R_areAlike_32 (by decide) rfl ?_
    refine sk_loc [3, 2, 1, 0] rfl ?_
    exact h
  · replace h := h.2 hc
    refine sk_iconst (v := 0) d_R_areAlike_14 (by decide) ?_
    exact q_zreturn d_R_areAlike_15 rfl (by decide) (Nat.zero_le _) (Nat.zero_le _) h
theorem s_R_areAlike_34 {Γ : sk_T} {mc ms : Nat} {I : sk_I} {J : sk_J} {Q : sk_Q} {x3 : Int32} {x4 : Int32} {x5 : Int32} (h : ((I 1 4) ≤ x5 → Q (.inl (some (.int 1))) sk_gg I J) ∧ (¬ (I 1 4) ≤ x5 → vp_in (x3 + x5) 2508 ∧ vp_in (x4 + x5) 2508 ∧ ((lg_cmp (J 17 (x3 + x5).toNatClampNeg) (J 17 (x4 + x5).toNatClampNeg)) = 0 → sk_W Γ m_R_areAlike mc ms 34 [(0, .ref 16), (3, .int x3), (4, .int x4), (5, .int (x5 + 1))] [] sk_gg I J 0 0 Q) ∧ (¬ (lg_cmp (J 17 (x3 + x5).toNatClampNeg) (J 17 (x4 + x5).toNatClampNeg)) = 0 → Q (.inl (some (.int 0))) sk_gg I J))) : sk_W Γ m_R_areAlike mc ms 34 [(0, .ref 16), (3, .int x3), (4, .int x4), (5, .int x5)] [] sk_gg I J 0 0 Q := by
  refine sk_iload (j := 3) d_R_areAlike_34 rfl ?_
  refine sk_aload_n (j := 0) d_R_areAlike_36 rfl rfl ?_
  refine q_getR d_R_areAlike_37 fg_R_22 sh_16 rr_16_0 ?_
  refine q_getI d_R_areAlike_40 fg_R_57 sh_1 ?_
  refine sk_icmp_ge (tgt := 77) d_R_areAlike_43 (by decide) (fun hc => ?_) (fun hc => ?_)
  · replace h := h.1 hc
    refine sk_iconst (v := 1) d_R_areAlike_77 (by decide) ?_
    exact q_zreturn d_R_areAlike_78 rfl (by decide) (Nat.zero_le _) (Nat.zero_le _) h
  · replace h := h.2 hc
    refine sk_aload_n (j := 0) d_R_areAlike_46 rfl rfl ?_
    refine q_getR d_R_areAlike_47 fg_R_9 sh_16 rr_16_2 ?_
    refine sk_iload_n (j := 1) d_R_areAlike_50 rfl rfl ?_
    refine sk_iload (j := 3) d_R_areAlike_51 rfl ?_
    refine sk_iadd d_R_areAlike_53 ?_
    obtain ⟨hb, h⟩ := h
    refine sk_lald d_R_areAlike_54 sh_17 hb ?_
    refine sk_aload_n (j := 0) d_R_areAlike_55 rfl rfl ?_
    refine q_getR d_R_areAlike_56 fg_R_9 sh_16 rr_16_2 ?_
    refine sk_iload (j := 2) d_R_areAlike_59 rfl ?_
    refine sk_iload (j := 3) d_R_areAlike_61 rfl ?_
    refine sk_iadd d_R_areAlike_63 ?_
    obtain ⟨hb, h⟩ := h
    refine sk_lald d_R_areAlike_64 sh_17 hb ?_
    refine sk_lcmp d_R_areAlike_65 ?_
    refine sk_if_eq (tgt := 71) d_R_areAlike_66 (by decide) (fun hc => ?_) (fun hc => ?_)
    · replace h := h.1 hc
      refine sk_iinc (j := 3) (v := x5 + 1) d_R_areAlike_71 rfl (by rfl) (by decide) rfl ?_
      refine sk_goto (tgt := 34) d_R_areAlike_74 (by decide) ?_
      refine sk_loc [1, 2, 3, 0] rfl ?_
      exact h
    · replace h := h.2 hc
      refine sk_iconst (v := 0) d_R_areAlike_69 (by decide) ?_
      exact q_zreturn d_R_areAlike_70 rfl (by decide) (Nat.zero_le _) (Nat.zero_le _) h
