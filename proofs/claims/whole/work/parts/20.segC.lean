/-! segments, printed by wip/whole/gen_seg.py -/
theorem s_C_removeAll_0 {Γ : sk_T} {mc ms : Nat} {I : sk_I} {J : sk_J} {Q : sk_Q}  (h : Q (.inl none) sk_gg (sk_pi (sk_pi (sk_pi (sk_pi (sk_pi (sk_pi I 1 1 0) 1 2 0) 1 3 0) 1 4 0) 1 5 0) 1 0 ((I 1 0) + 1)) J) : sk_W Γ m_C_removeAll mc ms 0 [(0, .ref 1)] [] sk_gg I J 0 0 Q := by
  refine sk_aload_n (j := 0) d_C_removeAll_0 rfl rfl ?_
  refine sk_iconst (v := 0) d_C_removeAll_1 (by decide) ?_
  refine r_putI d_C_removeAll_2 fp_C_15 sh_1 ?_
  refine sk_aload_n (j := 0) d_C_removeAll_5 rfl rfl ?_
  refine sk_iconst (v := 0) d_C_removeAll_6 (by decide) ?_
  refine r_putI d_C_removeAll_7 fp_C_18 sh_1 ?_
  refine sk_aload_n (j := 0) d_C_removeAll_10 rfl rfl ?_
  refine sk_iconst (v := 0) d_C_removeAll_11 (by decide) ?_
  refine r_putI d_C_removeAll_12 fp_C_21 sh_1 ?_
  refine sk_aload_n (j := 0) d_C_removeAll_15 rfl rfl ?_
  refine sk_iconst (v := 0) d_C_removeAll_16 (by decide) ?_
  refine r_putI d_C_removeAll_17 fp_C_24 sh_1 ?_
  refine sk_aload_n (j := 0) d_C_removeAll_20 rfl rfl ?_
  refine sk_iconst (v := 0) d_C_removeAll_21 (by decide) ?_
  refine r_putI d_C_removeAll_22 fp_C_27 sh_1 ?_
  refine sk_aload_n (j := 0) d_C_removeAll_25 rfl rfl ?_
  refine sk_dup d_C_removeAll_26 rfl ?_
  refine q_getI d_C_removeAll_27 fg_C_9 sh_1 ?_
  refine q_cvi (y := I 1 0) rfl ?_
  refine sk_iconst (v := 1) d_C_removeAll_30 (by decide) ?_
  refine sk_iadd d_C_removeAll_31 ?_
  refine r_putI d_C_removeAll_32 fp_C_9 sh_1 ?_
  exact sk_vreturn d_C_removeAll_35 rfl (Nat.zero_le _) (Nat.zero_le _) h
theorem s_C_hasLine_0 {Γ : sk_T} {mc ms : Nat} {I : sk_I} {J : sk_J} {Q : sk_Q} {x1 : Int32} (h : (x1 < 0 → Q (.inl (some (.int 0))) sk_gg I J) ∧ (¬ x1 < 0 → ((I 1 1) ≤ x1 → Q (.inl (some (.int 0))) sk_gg I J) ∧ (¬ (I 1 1) ≤ x1 → Q (.inl (some (.int 1))) sk_gg I J))) : sk_W Γ m_C_hasLine mc ms 0 [(0, .ref 1), (1, .int x1)] [] sk_gg I J 0 0 Q := by
  refine sk_iload_n (j := 1) d_C_hasLine_0 rfl rfl ?_
  refine sk_if_lt (tgt := 16) d_C_hasLine_1 (by decide) (fun hc => ?_) (fun hc => ?_)
  · replace h := h.1 hc
    refine sk_iconst (v := 0) d_C_hasLine_16 (by decide) ?_
    exact q_zreturn d_C_hasLine_17 rfl (by decide) (Nat.zero_le _) (Nat.zero_le _) h
  · replace h := h.2 hc
    refine sk_iload_n (j := 1) d_C_hasLine_4 rfl rfl ?_
    refine sk_aload_n (j := 0) d_C_hasLine_5 rfl rfl ?_
    refine q_getI d_C_hasLine_6 fg_C_15 sh_1 ?_
    refine sk_icmp_ge (tgt := 16) d_C_hasLine_9 (by decide) (fun hc => ?_) (fun hc => ?_)
    · replace h := h.1 hc
      refine sk_iconst (v := 0) d_C_hasLine_16 (by decide) ?_
      exact q_zreturn d_C_hasLine_17 rfl (by decide) (Nat.zero_le _) (Nat.zero_le _) h
    · replace h := h.2 hc
      refine sk_iconst (v := 1) d_C_hasLine_12 (by decide) ?_
      refine sk_goto (tgt := 17) d_C_hasLine_13 (by decide) ?_
      exact q_zreturn d_C_hasLine_17 rfl (by decide) (Nat.zero_le _) (Nat.zero_le _) h
theorem s_C_pinsOf_0 {Γ : sk_T} {mc ms : Nat} {I : sk_I} {J : sk_J} {Q : sk_Q} {x1 : Int32} (h : vp_in (x1 + 1) 27 ∧ vp_in x1 27 ∧ Q (.inl (some (.int ((I 5 (x1 + 1).toNatClampNeg) - (I 5 x1.toNatClampNeg))))) sk_gg I J) : sk_W Γ m_C_pinsOf mc ms 0 [(0, .ref 1), (1, .int x1)] [] sk_gg I J 0 0 Q := by
  refine sk_aload_n (j := 0) d_C_pinsOf_0 rfl rfl ?_
  refine q_getR d_C_pinsOf_1 fg_C_41 sh_1 rr_1_9 ?_
  refine sk_iload_n (j := 1) d_C_pinsOf_4 rfl rfl ?_
  refine sk_iconst (v := 1) d_C_pinsOf_5 (by decide) ?_
  refine sk_iadd d_C_pinsOf_6 ?_
  obtain ⟨hb, h⟩ := h
  refine sk_iald d_C_pinsOf_7 sh_5 hb ?_
  refine sk_aload_n (j := 0) d_C_pinsOf_8 rfl rfl ?_
  refine q_getR d_C_pinsOf_9 fg_C_41 sh_1 rr_1_9 ?_
  refine sk_iload_n (j := 1) d_C_pinsOf_12 rfl rfl ?_
  obtain ⟨hb, h⟩ := h
  refine sk_iald d_C_pinsOf_13 sh_5 hb ?_
  refine sk_isub d_C_pinsOf_14 ?_
  exact sk_ireturn d_C_pinsOf_15 rfl (Nat.zero_le _) (Nat.zero_le _) h
theorem s_C_faults_0 {Γ : sk_T} {mc ms : Nat} {I : sk_I} {J : sk_J} {Q : sk_Q}  (h : Q (.inl (some (.int (2 * ((I 1 1) + (I 1 5)))))) sk_gg I J) : sk_W Γ m_C_faults mc ms 0 [(0, .ref 1)] [] sk_gg I J 0 0 Q := by
  refine sk_iconst (v := 2) d_C_faults_0 (by decide) ?_
  refine sk_aload_n (j := 0) d_C_faults_1 rfl rfl ?_
  refine q_getI d_C_faults_2 fg_C_15 sh_1 ?_
  refine sk_aload_n (j := 0) d_C_faults_5 rfl rfl ?_
  refine q_getI d_C_faults_6 fg_C_27 sh_1 ?_
  refine sk_iadd d_C_faults_9 ?_
  refine sk_imul d_C_faults_10 ?_
  exact sk_ireturn d_C_faults_11 rfl (Nat.zero_le _) (Nat.zero_le _) h
theorem s_C_vectors_0 {Γ : sk_T} {mc ms : Nat} {I : sk_I} {J : sk_J} {Q : sk_Q}  (h : Q (.inl (some (.int (1 <<< ((I 1 2) &&& 31))))) sk_gg I J) : sk_W Γ m_C_vectors mc ms 0 [(0, .ref 1)] [] sk_gg I J 0 0 Q := by
  refine sk_iconst (v := 1) d_C_vectors_0 (by decide) ?_
  refine sk_aload_n (j := 0) d_C_vectors_1 rfl rfl ?_
  refine q_getI d_C_vectors_2 fg_C_18 sh_1 ?_
  refine sk_ishl d_C_vectors_5 ?_
  exact sk_ireturn d_C_vectors_6 rfl (Nat.zero_le _) (Nat.zero_le _) h
theorem s_C_stuckLine_0 {Γ : sk_T} {mc ms : Nat} {I : sk_I} {J : sk_J} {Q : sk_Q} {x1 : Int32} (h : ((x1 >>> (1 &&& 31)) < 0 → Q (.inl (some (.int (-1)))) sk_gg I J) ∧ (¬ (x1 >>> (1 &&& 31)) < 0 → ((I 1 1) ≤ (x1 >>> (1 &&& 31)) → Q (.inl (some (.int (-1)))) sk_gg I J) ∧ (¬ (I 1 1) ≤ (x1 >>> (1 &&& 31)) → Q (.inl (some (.int (x1 >>> (1 &&& 31))))) sk_gg I J))) : sk_W Γ m_C_stuckLine mc ms 0 [(0, .ref 1), (1, .int x1)] [] sk_gg I J 0 0 Q := by
  refine sk_iload_n (j := 1) d_C_stuckLine_0 rfl rfl ?_
  refine sk_iconst (v := 1) d_C_stuckLine_1 (by decide) ?_
  refine sk_ishr d_C_stuckLine_2 ?_
  refine sk_istore_n d_C_stuckLine_3 rfl (by decide) rfl ?_
  refine sk_iload_n (j := 0) d_C_stuckLine_4 rfl rfl ?_
  refine sk_if_lt (tgt := 20) d_C_stuckLine_5 (by decide) (fun hc => ?_) (fun hc => ?_)
  · replace h := h.1 hc
    refine sk_iconst (v := (-1)) d_C_stuckLine_20 (by decide) ?_
    exact sk_ireturn d_C_stuckLine_21 rfl (Nat.zero_le _) (Nat.zero_le _) h
  · replace h := h.2 hc
    refine sk_iload_n (j := 0) d_C_stuckLine_8 rfl rfl ?_
    refine sk_aload_n (j := 1) d_C_stuckLine_9 rfl rfl ?_
    refine q_getI d_C_stuckLine_10 fg_C_15 sh_1 ?_
    refine sk_icmp_ge (tgt := 20) d_C_stuckLine_13 (by decide) (fun hc => ?_) (fun hc => ?_)
    · replace h := h.1 hc
      refine sk_iconst (v := (-1)) d_C_stuckLine_20 (by decide) ?_
      exact sk_ireturn d_C_stuckLine_21 rfl (Nat.zero_le _) (Nat.zero_le _) h
    · replace h := h.2 hc
      refine sk_iload_n (j := 0) d_C_stuckLine_16 rfl rfl ?_
      refine sk_goto (tgt := 21) d_C_stuckLine_17 (by decide) ?_
      exact sk_ireturn d_C_stuckLine_21 rfl (Nat.zero_le _) (Nat.zero_le _) h
theorem s_C_stuckPin_0 {Γ : sk_T} {mc ms : Nat} {I : sk_I} {J : sk_J} {Q : sk_Q} {x1 : Int32} (h : ((x1 >>> (1 &&& 31)) < (I 1 1) → Q (.inl (some (.int (-1)))) sk_gg I J) ∧ (¬ (x1 >>> (1 &&& 31)) < (I 1 1) → Q (.inl (some (.int ((x1 >>> (1 &&& 31)) - (I 1 1))))) sk_gg I J)) : sk_W Γ m_C_stuckPin mc ms 0 [(0, .ref 1), (1, .int x1)] [] sk_gg I J 0 0 Q := by
  refine sk_iload_n (j := 1) d_C_stuckPin_0 rfl rfl ?_
  refine sk_iconst (v := 1) d_C_stuckPin_1 (by decide) ?_
  refine sk_ishr d_C_stuckPin_2 ?_
  refine sk_istore_n d_C_stuckPin_3 rfl (by decide) rfl ?_
  refine sk_iload_n (j := 0) d_C_stuckPin_4 rfl rfl ?_
  refine sk_aload_n (j := 1) d_C_stuckPin_5 rfl rfl ?_
  refine q_getI d_C_stuckPin_6 fg_C_15 sh_1 ?_
  refine sk_icmp_lt (tgt := 21) d_C_stuckPin_9 (by decide) (fun hc => ?_) (fun hc => ?_)
  · replace h := h.1 hc
    refine sk_iconst (v := (-1)) d_C_stuckPin_21 (by decide) ?_
    exact sk_ireturn d_C_stuckPin_22 rfl (Nat.zero_le _) (Nat.zero_le _) h
  · replace h := h.2 hc
    refine sk_iload_n (j := 0) d_C_stuckPin_12 rfl rfl ?_
    refine sk_aload_n (j := 1) d_C_stuckPin_13 rfl rfl ?_
    refine q_getI d_C_stuckPin_14 fg_C_15 sh_1 ?_
    refine sk_isub d_C_stuckPin_17 ?_
    refine sk_goto (tgt := 22) d_C_stuckPin_18 (by decide) ?_
    exact sk_ireturn d_C_stuckPin_22 rfl (Nat.zero_le _) (Nat.zero_le _) h
theorem s_C_addSource_0 {Γ : sk_T} {mc ms : Nat} {I : sk_I} {J : sk_J} {Q : sk_Q} {x1 : Int32} (h : sk_S Γ m_C_addLine 0 0 (.ref 1 :: [.int (-1)]) sk_gg I J (sk_Ki fun v' I' J' => sk_W Γ m_C_addSource mc ms 5 [(0, .ref 1), (1, .int x1)] [.int v'] sk_gg I' J' 0 0 Q)) : sk_W Γ m_C_addSource mc ms 0 [(0, .ref 1), (1, .int x1)] [] sk_gg I J 0 0 Q := by
  refine sk_aload_n (j := 0) d_C_addSource_0 rfl rfl ?_
  refine sk_iconst (v := (-1)) d_C_addSource_1 (by decide) ?_
  exact q_callVi (S := []) (as := [.int (-1)]) d_C_addSource_2 lk_C_59 sh_1 ⟨_, rfl⟩ rfl ⟨by decide, by decide⟩ (Nat.le_of_ble_eq_true rfl) rfl (Nat.zero_le _) (Nat.zero_le _) h
theorem s_C_addSource_5 {Γ : sk_T} {mc ms : Nat} {I : sk_I} {J : sk_J} {Q : sk_Q} {x1 : Int32} {u0 : Int32} (h : vp_in u0 26 ∧ (x1 = 0 ∨ x1 = 1) ∧ vp_in u0 26 ∧ Q (.inl (some (.int u0))) sk_gg (sk_pi (sk_pi (sk_pi I 4 u0.toNatClampNeg x1) 3 u0.toNatClampNeg (I 1 2)) 1 2 ((I 1 2) + 1)) J) : sk_W Γ m_C_addSource mc ms 5 [(0, .ref 1), (1, .int x1)] [.int u0] sk_gg I J 0 0 Q := by
  refine sk_istore_n d_C_addSource_5 rfl (by decide) rfl ?_
  refine sk_aload_n (j := 1) d_C_addSource_6 rfl rfl ?_
  refine q_getR d_C_addSource_7 fg_C_37 sh_1 rr_1_8 ?_
  refine sk_iload_n (j := 0) d_C_addSource_10 rfl rfl ?_
  refine sk_iload_n (j := 2) d_C_addSource_11 rfl rfl ?_
  obtain ⟨hb, hz, h⟩ := h
  refine r_zast d_C_addSource_12 sh_4 hb hz ?_
  refine sk_aload_n (j := 1) d_C_addSource_13 rfl rfl ?_
  refine q_getR d_C_addSource_14 fg_C_34 sh_1 rr_1_7 ?_
  refine sk_iload_n (j := 0) d_C_addSource_17 rfl rfl ?_
  refine sk_aload_n (j := 1) d_C_addSource_18 rfl rfl ?_
  refine q_getI d_C_addSource_19 fg_C_18 sh_1 ?_
  refine q_cvi (y := I 1 2) rfl ?_
  obtain ⟨hb, h⟩ := h
  refine r_iast d_C_addSource_22 sh_3 hb ?_
  refine sk_aload_n (j := 1) d_C_addSource_23 rfl rfl ?_
  refine sk_dup d_C_addSource_24 rfl ?_
  refine q_getI d_C_addSource_25 fg_C_18 sh_1 ?_
  refine q_cvi (y := I 1 2) rfl ?_
  refine sk_iconst (v := 1) d_C_addSource_28 (by decide) ?_
  refine sk_iadd d_C_addSource_29 ?_
  refine r_putI d_C_addSource_30 fp_C_18 sh_1 ?_
  refine sk_iload_n (j := 0) d_C_addSource_33 rfl rfl ?_
  exact sk_ireturn d_C_addSource_34 rfl (Nat.zero_le _) (Nat.zero_le _) h
theorem s_C_addLine_0 {Γ : sk_T} {mc ms : Nat} {I : sk_I} {J : sk_J} {Q : sk_Q} {x1 : Int32} (h : vp_in (I 1 1) 26 ∧ vp_in (I 1 1) 26 ∧ vp_in (I 1 1) 26 ∧ vp_in (I 1 1) 26 ∧ vp_in ((I 1 1) + 1) 27 ∧ Q (.inl (some (.int (I 1 1)))) sk_gg (sk_pi (sk_pi (sk_pi (sk_pi (sk_pi (sk_pi (sk_pi I 2 (I 1 1).toNatClampNeg x1) 4 (I 1 1).toNatClampNeg 0) 3 (I 1 1).toNatClampNeg (-1)) 9 (I 1 1).toNatClampNeg (-1)) 5 ((I 1 1) + 1).toNatClampNeg (I 1 5)) 1 1 ((I 1 1) + 1)) 1 0 ((I 1 0) + 1)) J) : sk_W Γ m_C_addLine mc ms 0 [(0, .ref 1), (1, .int x1)] [] sk_gg I J 0 0 Q := by
  refine sk_aload_n (j := 0) d_C_addLine_0 rfl rfl ?_
  refine q_getI d_C_addLine_1 fg_C_15 sh_1 ?_
  refine sk_istore_n d_C_addLine_4 rfl (by decide) rfl ?_
  refine sk_aload_n (j := 1) d_C_addLine_5 rfl rfl ?_
  refine q_getR d_C_addLine_6 fg_C_30 sh_1 rr_1_6 ?_
  refine sk_iload_n (j := 0) d_C_addLine_9 rfl rfl ?_
  refine sk_iload_n (j := 2) d_C_addLine_10 rfl rfl ?_
  obtain ⟨hb, h⟩ := h
  refine r_iast d_C_addLine_11 sh_2 hb ?_
  refine sk_aload_n (j := 1) d_C_addLine_12 rfl rfl ?_
  refine q_getR d_C_addLine_13 fg_C_37 sh_1 rr_1_8 ?_
  refine sk_iload_n (j := 0) d_C_addLine_16 rfl rfl ?_
  refine sk_iconst (v := 0) d_C_addLine_17 (by decide) ?_
  obtain ⟨hb, h⟩ := h
  refine r_zast d_C_addLine_18 sh_4 hb (by decide) ?_
  refine sk_aload_n (j := 1) d_C_addLine_19 rfl rfl ?_
  refine q_getR d_C_addLine_20 fg_C_34 sh_1 rr_1_7 ?_
  refine sk_iload_n (j := 0) d_C_addLine_23 rfl rfl ?_
  refine sk_iconst (v := (-1)) d_C_addLine_24 (by decide) ?_
  obtain ⟨hb, h⟩ := h
  refine r_iast d_C_addLine_25 sh_3 hb ?_
  refine sk_aload_n (j := 1) d_C_addLine_26 rfl rfl ?_
  refine q_getR d_C_addLine_27 fg_C_53 sh_1 rr_1_13 ?_
  refine sk_iload_n (j := 0) d_C_addLine_30 rfl rfl ?_
  refine sk_iconst (v := (-1)) d_C_addLine_31 (by decide) ?_
  obtain ⟨hb, h⟩ := h
  refine r_iast d_C_addLine_32 sh_9 hb ?_
  refine sk_aload_n (j := 1) d_C_addLine_33 rfl rfl ?_
  refine q_getR d_C_addLine_34 fg_C_41 sh_1 rr_1_9 ?_
  refine sk_iload_n (j := 0) d_C_addLine_37 rfl rfl ?_
  refine sk_iconst (v := 1) d_C_addLine_38 (by decide) ?_
  refine sk_iadd d_C_addLine_39 ?_
  refine sk_aload_n (j := 1) d_C_addLine_40 rfl rfl ?_
  refine q_getI d_C_addLine_41 fg_C_27 sh_1 ?_
  refine q_cvi (y := I 1 5) rfl ?_
  obtain ⟨hb, h⟩ := h
  refine r_iast d_C_addLine_44 sh_5 hb ?_
  refine sk_aload_n (j := 1) d_C_addLine_45 rfl rfl ?_
  refine sk_dup d_C_addLine_46 rfl ?_
  refine q_getI d_C_addLine_47 fg_C_15 sh_1 ?_
  refine q_cvi (y := I 1 1) rfl ?_
  refine sk_iconst (v := 1) d_C_addLine_50 (by decide) ?_
  refine sk_iadd d_C_addLine_51 ?_
  refine r_putI d_C_addLine_52 fp_C_15 sh_1 ?_
  refine sk_aload_n (j := 1) d_C_addLine_55 rfl rfl ?_
  refine sk_dup d_C_addLine_56 rfl ?_
  refine q_getI d_C_addLine_57 fg_C_9 sh_1 ?_
  refine q_cvi (y := I 1 0) rfl ?_
  refine sk_iconst (v := 1) d_C_addLine_60 (by decide) ?_
  refine sk_iadd d_C_addLine_61 ?_
  refine r_putI d_C_addLine_62 fp_C_9 sh_1 ?_
  refine sk_iload_n (j := 0) d_C_addLine_65 rfl rfl ?_
  exact sk_ireturn d_C_addLine_66 rfl (Nat.zero_le _) (Nat.zero_le _) h
theorem s_C_addGate_0 {Γ : sk_T} {mc ms : Nat} {I : sk_I} {J : sk_J} {Q : sk_Q} {x1 : Int32} {x2 : Int32} {x3 : Int32} {x4 : Int32} (h : sk_S Γ m_C_addLine 0 0 (.ref 1 :: [.int x1]) sk_gg I J (sk_Ki fun v' I' J' => sk_W Γ m_C_addGate mc ms 5 [(0, .ref 1), (2, .int x2), (3, .int x3), (4, .int x4)] [.int v'] sk_gg I' J' 0 0 Q)) : sk_W Γ m_C_addGate mc ms 0 [(0, .ref 1), (1, .int x1), (2, .int x2), (3, .int x3), (4, .int x4)] [] sk_gg I J 0 0 Q := by
  refine sk_aload_n (j := 0) d_C_addGate_0 rfl rfl ?_
  refine sk_iload_n (j := 1) d_C_addGate_1 rfl rfl ?_
  refine sk_loc [0, 2, 3, 4] rfl ?_
  exact q_callVi (S := []) (as := [.int x1]) d_C_addGate_2 lk_C_59 sh_1 ⟨_, rfl⟩ rfl ⟨by decide, by decide⟩ (Nat.le_of_ble_eq_true rfl) rfl (Nat.zero_le _) (Nat.zero_le _) h
theorem s_C_addGate_5 {Γ : sk_T} {mc ms : Nat} {I : sk_I} {J : sk_J} {Q : sk_Q} {x2 : Int32} {x3 : Int32} {x4 : Int32} {u0 : Int32} (h : sk_S Γ m_C_addPin 0 0 (.ref 1 :: [.int u0, .int x2]) sk_gg I J (sk_Kv fun I' J' => sk_W Γ m_C_addGate mc ms 14 [(0, .ref 1), (3, .int x3), (4, .int x4), (5, .int u0)] [] sk_gg I' J' 0 0 Q)) : sk_W Γ m_C_addGate mc ms 5 [(0, .ref 1), (2, .int x2), (3, .int x3), (4, .int x4)] [.int u0] sk_gg I J 0 0 Q := by
  refine sk_istore d_C_addGate_5 (by decide) rfl ?_
  refine sk_aload_n (j := 1) d_C_addGate_7 rfl rfl ?_
  refine sk_iload (j := 0) d_C_addGate_8 rfl ?_
  refine sk_iload_n (j := 2) d_C_addGate_10 rfl rfl ?_
  refine sk_loc [1, 3, 4, 0] rfl ?_
  exact q_callVv (S := []) (as := [.int u0, .int x2]) d_C_addGate_11 lk_C_63 sh_1 ⟨_, rfl⟩ rfl ⟨by decide, by decide⟩ (Nat.le_of_ble_eq_true rfl) rfl (Nat.zero_le _) (Nat.zero_le _) h
theorem s_C_addGate_14 {Γ : sk_T} {mc ms : Nat} {I : sk_I} {J : sk_J} {Q : sk_Q} {x3 : Int32} {x4 : Int32} {x5 : Int32} (h : sk_S Γ m_C_addPin 0 0 (.ref 1 :: [.int x5, .int x3]) sk_gg I J (sk_Kv fun I' J' => sk_W Γ m_C_addGate mc ms 21 [(0, .ref 1), (4, .int x4), (5, .int x5)] [] sk_gg I' J' 0 0 Q)) : sk_W Γ m_C_addGate mc ms 14 [(0, .ref 1), (3, .int x3), (4, .int x4), (5, .int x5)] [] sk_gg I J 0 0 Q := by
  refine sk_aload_n (j := 0) d_C_addGate_14 rfl rfl ?_
  refine sk_iload (j := 3) d_C_addGate_15 rfl ?_
  refine sk_iload_n (j := 1) d_C_addGate_17 rfl rfl ?_
  refine sk_loc [0, 2, 3] rfl ?_
  exact q_callVv (S := []) (as := [.int x5, .int x3]) d_C_addGate_18 lk_C_63 sh_1 ⟨_, rfl⟩ rfl ⟨by decide, by decide⟩ (Nat.le_of_ble_eq_true rfl) rfl (Nat.zero_le _) (Nat.zero_le _) h
theorem s_C_addGate_21 {Γ : sk_T} {mc ms : Nat} {I : sk_I} {J : sk_J} {Q : sk_Q} {x4 : Int32} {x5 : Int32} (h : sk_S Γ m_C_addPin 0 0 (.ref 1 :: [.int x5, .int x4]) sk_gg I J (sk_Kv fun I' J' => sk_W Γ m_C_addGate mc ms 29 [(5, .int x5)] [] sk_gg I' J' 0 0 Q)) : sk_W Γ m_C_addGate mc ms 21 [(0, .ref 1), (4, .int x4), (5, .int x5)] [] sk_gg I J 0 0 Q := by
  refine sk_aload_n (j := 0) d_C_addGate_21 rfl rfl ?_
  refine sk_iload (j := 2) d_C_addGate_22 rfl ?_
  refine sk_iload (j := 1) d_C_addGate_24 rfl ?_
  refine sk_loc [2] rfl ?_
  exact q_callVv (S := []) (as := [.int x5, .int x4]) d_C_addGate_26 lk_C_63 sh_1 ⟨_, rfl⟩ rfl ⟨by decide, by decide⟩ (Nat.le_of_ble_eq_true rfl) rfl (Nat.zero_le _) (Nat.zero_le _) h
theorem s_C_addGate_29 {Γ : sk_T} {mc ms : Nat} {I : sk_I} {J : sk_J} {Q : sk_Q} {x5 : Int32} (h : Q (.inl (some (.int x5))) sk_gg I J) : sk_W Γ m_C_addGate mc ms 29 [(5, .int x5)] [] sk_gg I J 0 0 Q := by
  refine sk_iload (j := 0) d_C_addGate_29 rfl ?_
  exact sk_ireturn d_C_addGate_31 rfl (Nat.zero_le _) (Nat.zero_le _) h
theorem s_C_addPin_0 {Γ : sk_T} {mc ms : Nat} {I : sk_I} {J : sk_J} {Q : sk_Q} {x1 : Int32} {x2 : Int32} (h : (¬ x2 = (-1) → vp_in (I 1 5) 78 ∧ vp_in (I 1 5) 78 ∧ vp_in (x1 + 1) 27 ∧ Q (.inl none) sk_gg (sk_pi (sk_pi (sk_pi (sk_pi I 6 (I 1 5).toNatClampNeg x2) 7 (I 1 5).toNatClampNeg x1) 1 5 ((I 1 5) + 1)) 5 (x1 + 1).toNatClampNeg ((I 1 5) + 1)) J) ∧ (x2 = (-1) → Q (.inl none) sk_gg I J)) : sk_W Γ m_C_addPin mc ms 0 [(0, .ref 1), (1, .int x1), (2, .int x2)] [] sk_gg I J 0 0 Q := by
  refine sk_iload_n (j := 2) d_C_addPin_0 rfl rfl ?_
  refine sk_iconst (v := (-1)) d_C_addPin_1 (by decide) ?_
  refine sk_icmp_ne (tgt := 6) d_C_addPin_2 (by decide) (fun hc => ?_) (fun hc => ?_)
  · replace h := h.1 hc
    refine sk_aload_n (j := 0) d_C_addPin_6 rfl rfl ?_
    refine q_getR d_C_addPin_7 fg_C_44 sh_1 rr_1_10 ?_
    refine sk_aload_n (j := 0) d_C_addPin_10 rfl rfl ?_
    refine q_getI d_C_addPin_11 fg_C_27 sh_1 ?_
    refine sk_iload_n (j := 2) d_C_addPin_14 rfl rfl ?_
    obtain ⟨hb, h⟩ := h
    refine r_iast d_C_addPin_15 sh_6 hb ?_
    refine sk_aload_n (j := 0) d_C_addPin_16 rfl rfl ?_
    refine q_getR d_C_addPin_17 fg_C_47 sh_1 rr_1_11 ?_
    refine sk_aload_n (j := 0) d_C_addPin_20 rfl rfl ?_
    refine q_getI d_C_addPin_21 fg_C_27 sh_1 ?_
    refine q_cvi (y := I 1 5) rfl ?_
    refine sk_iload_n (j := 1) d_C_addPin_24 rfl rfl ?_
    obtain ⟨hb, h⟩ := h
    refine r_iast d_C_addPin_25 sh_7 hb ?_
    refine sk_aload_n (j := 0) d_C_addPin_26 rfl rfl ?_
    refine sk_dup d_C_addPin_27 rfl ?_
    refine q_getI d_C_addPin_28 fg_C_27 sh_1 ?_
    refine q_cvi (y := I 1 5) rfl ?_
    refine sk_iconst (v := 1) d_C_addPin_31 (by decide) ?_
    refine sk_iadd d_C_addPin_32 ?_
    refine r_putI d_C_addPin_33 fp_C_27 sh_1 ?_
    refine sk_aload_n (j := 0) d_C_addPin_36 rfl rfl ?_
    refine q_getR d_C_addPin_37 fg_C_41 sh_1 rr_1_9 ?_
    refine sk_iload_n (j := 1) d_C_addPin_40 rfl rfl ?_
    refine sk_iconst (v := 1) d_C_addPin_41 (by decide) ?_
    refine sk_iadd d_C_addPin_42 ?_
    refine sk_aload_n (j := 0) d_C_addPin_43 rfl rfl ?_
    refine q_getI d_C_addPin_44 fg_C_27 sh_1 ?_
    refine q_cvi (y := (I 1 5) + 1) rfl ?_
    obtain ⟨hb, h⟩ := h
    refine r_iast d_C_addPin_47 sh_5 hb ?_
    exact sk_vreturn d_C_addPin_48 rfl (Nat.zero_le _) (Nat.zero_le _) h
  · replace h := h.2 hc
    exact sk_vreturn d_C_addPin_5 rfl (Nat.zero_le _) (Nat.zero_le _) h
theorem s_C_isOutput_0 {Γ : sk_T} {mc ms : Nat} {I : sk_I} {J : sk_J} {Q : sk_Q} {x1 : Int32} (h : sk_W Γ m_C_isOutput mc ms 2 [(0, .ref 1), (1, .int x1), (2, .int 0)] [] sk_gg I J 0 0 Q) : sk_W Γ m_C_isOutput mc ms 0 [(0, .ref 1), (1, .int x1)] [] sk_gg I J 0 0 Q := by
  refine sk_iconst (v := 0) d_C_isOutput_0 (by decide) ?_
  refine sk_istore_n d_C_isOutput_1 rfl (by decide) rfl ?_
  refine sk_loc [1, 2, 0] rfl ?_
  exact h
theorem s_C_isOutput_2 {Γ : sk_T} {mc ms : Nat} {I : sk_I} {J : sk_J} {Q : sk_Q} {x1 : Int32} {x2 : Int32} (h : ((I 1 3) ≤ x2 → Q (.inl (some (.int 0))) sk_gg I J) ∧ (¬ (I 1 3) ≤ x2 → vp_in x2 6 ∧ (¬ (I 10 x2.toNatClampNeg) = x1 → sk_W Γ m_C_isOutput mc ms 2 [(0, .ref 1), (1, .int x1), (2, .int (x2 + 1))] [] sk_gg I J 0 0 Q) ∧ ((I 10 x2.toNatClampNeg) = x1 → Q (.inl (some (.int 1))) sk_gg I J))) : sk_W Γ m_C_isOutput mc ms 2 [(0, .ref 1), (1, .int x1), (2, .int x2)] [] sk_gg I J 0 0 Q := by
  refine sk_iload_n (j := 2) d_C_isOutput_2 rfl rfl ?_
  refine sk_aload_n (j := 0) d_C_isOutput_3 rfl rfl ?_
  refine q_getI d_C_isOutput_4 fg_C_21 sh_1 ?_
  refine sk_icmp_ge (tgt := 28) d_C_isOutput_7 (by decide) (fun hc => ?_) (fun hc => ?_)
  · replace h := h.1 hc
    refine sk_iconst (v := 0) d_C_isOutput_28 (by decide) ?_
    exact q_zreturn d_C_isOutput_29 rfl (by decide) (Nat.zero_le _) (Nat.zero_le _) h
  · replace h := h.2 hc
    refine sk_aload_n (j := 0) d_C_isOutput_10 rfl rfl ?_
    refine q_getR d_C_isOutput_11 fg_C_56 sh_1 rr_1_14 ?_
    refine sk_iload_n (j := 2) d_C_isOutput_14 rfl rfl ?_
    obtain ⟨hb, h⟩ := h
    refine sk_iald d_C_isOutput_15 sh_10 hb ?_
    refine sk_iload_n (j := 1) d_C_isOutput_16 rfl rfl ?_
    refine sk_icmp_ne (tgt := 22) d_C_isOutput_17 (by decide) (fun hc => ?_) (fun hc => ?_)
    · replace h := h.1 hc
      refine sk_iinc (j := 2) (v := x2 + 1) d_C_isOutput_22 rfl (by rfl) (by decide) rfl ?_
      refine sk_goto (tgt := 2) d_C_isOutput_25 (by decide) ?_
      refine sk_loc [1, 2, 0] rfl ?_
      exact h
    · replace h := h.2 hc
      refine sk_iconst (v := 1) d_C_isOutput_20 (by decide) ?_
      exact q_zreturn d_C_isOutput_21 rfl (by decide) (Nat.zero_le _) (Nat.zero_le _) h
theorem s_C_addOutput_0 {Γ : sk_T} {mc ms : Nat} {I : sk_I} {J : sk_J} {Q : sk_Q} {x1 : Int32} (h : vp_in (I 1 3) 6 ∧ sk_S Γ m_C_gatherObserved 0 0 (.ref 1 :: []) sk_gg (sk_pi (sk_pi I 10 (I 1 3).toNatClampNeg x1) 1 3 ((I 1 3) + 1)) J (sk_Kv fun I' J' => sk_W Γ m_C_addOutput mc ms 24 [(0, .ref 1)] [] sk_gg I' J' 0 0 Q)) : sk_W Γ m_C_addOutput mc ms 0 [(0, .ref 1), (1, .int x1)] [] sk_gg I J 0 0 Q := by
  refine sk_aload_n (j := 0) d_C_addOutput_0 rfl rfl ?_
  refine q_getR d_C_addOutput_1 fg_C_56 sh_1 rr_1_14 ?_
  refine sk_aload_n (j := 0) d_C_addOutput_4 rfl rfl ?_
  refine q_getI d_C_addOutput_5 fg_C_21 sh_1 ?_
  refine sk_iload_n (j := 1) d_C_addOutput_8 rfl rfl ?_
  obtain ⟨hb, h⟩ := h
  refine r_iast d_C_addOutput_9 sh_10 hb ?_
  refine sk_aload_n (j := 0) d_C_addOutput_10 rfl rfl ?_
  refine sk_dup d_C_addOutput_11 rfl ?_
  refine q_getI d_C_addOutput_12 fg_C_21 sh_1 ?_
  refine q_cvi (y := I 1 3) rfl ?_
  refine sk_iconst (v := 1) d_C_addOutput_15 (by decide) ?_
  refine sk_iadd d_C_addOutput_16 ?_
  refine r_putI d_C_addOutput_17 fp_C_21 sh_1 ?_
  refine sk_aload_n (j := 0) d_C_addOutput_20 rfl rfl ?_
  refine sk_loc [0] rfl ?_
  exact q_callVv (S := []) (as := []) d_C_addOutput_21 lk_C_67 sh_1 ⟨_, rfl⟩ rfl ⟨by decide, by decide⟩ (Nat.le_of_ble_eq_true rfl) rfl (Nat.zero_le _) (Nat.zero_le _) h
theorem s_C_addOutput_24 {Γ : sk_T} {mc ms : Nat} {I : sk_I} {J : sk_J} {Q : sk_Q}  (h : Q (.inl (some (.int (I 1 3)))) sk_gg I J) : sk_W Γ m_C_addOutput mc ms 24 [(0, .ref 1)] [] sk_gg I J 0 0 Q := by
  refine sk_aload_n (j := 0) d_C_addOutput_24 rfl rfl ?_
  refine q_getI d_C_addOutput_25 fg_C_21 sh_1 ?_
  exact sk_ireturn d_C_addOutput_28 rfl (Nat.zero_le _) (Nat.zero_le _) h
theorem s_C_gatherObserved_0 {Γ : sk_T} {mc ms : Nat} {I : sk_I} {J : sk_J} {Q : sk_Q}  (h : sk_W Γ m_C_gatherObserved mc ms 7 [(0, .ref 1), (1, .int 0)] [] sk_gg (sk_pi I 1 4 0) J 0 0 Q) : sk_W Γ m_C_gatherObserved mc ms 0 [(0, .ref 1)] [] sk_gg I J 0 0 Q := by
  refine sk_aload_n (j := 0) d_C_gatherObserved_0 rfl rfl ?_
  refine sk_iconst (v := 0) d_C_gatherObserved_1 (by decide) ?_
  refine r_putI d_C_gatherObserved_2 fp_C_24 sh_1 ?_
  refine sk_iconst (v := 0) d_C_gatherObserved_5 (by decide) ?_
  refine sk_istore_n d_C_gatherObserved_6 rfl (by decide) rfl ?_
  refine sk_loc [1, 0] rfl ?_
  exact h
theorem s_C_gatherObserved_7 {Γ : sk_T} {mc ms : Nat} {I : sk_I} {J : sk_J} {Q : sk_Q} {x1 : Int32} (h : ((I 1 3) ≤ x1 → sk_W Γ m_C_gatherObserved mc ms 33 [(0, .ref 1), (1, .int 0)] [] sk_gg I J 0 0 Q) ∧ (¬ (I 1 3) ≤ x1 → vp_in x1 6 ∧ sk_S Γ m_C_observe 0 0 (.ref 1 :: [.int (I 10 x1.toNatClampNeg)]) sk_gg I J (sk_Kv fun I' J' => sk_W Γ m_C_gatherObserved mc ms 25 [(0, .ref 1), (1, .int x1)] [] sk_gg I' J' 0 0 Q))) : sk_W Γ m_C_gatherObserved mc ms 7 [(0, .ref 1), (1, .int x1)] [] sk_gg I J 0 0 Q := by
  refine sk_iload_n (j := 1) d_C_gatherObserved_7 rfl rfl ?_
  refine sk_aload_n (j := 0) d_C_gatherObserved_8 rfl rfl ?_
  refine q_getI d_C_gatherObserved_9 fg_C_21 sh_1 ?_
  refine sk_icmp_ge (tgt := 31) d_C_gatherObserved_12 (by decide) (fun hc => ?_) (fun hc => ?_)
  · replace h := h.1 hc
    refine sk_iconst (v := 0) d_C_gatherObserved_31 (by decide) ?_
    refine sk_istore_n d_C_gatherObserved_32 rfl (by decide) rfl ?_
    refine sk_loc [1, 0] rfl ?_
    exact h
  · replace h := h.2 hc
    refine sk_aload_n (j := 0) d_C_gatherObserved_15 rfl rfl ?_
    refine sk_aload_n (j := 0) d_C_gatherObserved_16 rfl rfl ?_
    refine q_getR d_C_gatherObserved_17 fg_C_56 sh_1 rr_1_14 ?_
    refine sk_iload_n (j := 1) d_C_gatherObserved_20 rfl rfl ?_
    obtain ⟨hb, h⟩ := h
    refine sk_iald d_C_gatherObserved_21 sh_10 hb ?_
    exact q_callVv (S := []) (as := [.int (I 10 x1.toNatClampNeg)]) d_C_gatherObserved_22 lk_C_70 sh_1 ⟨_, rfl⟩ rfl ⟨by decide, by decide⟩ (Nat.le_of_ble_eq_true rfl) rfl (Nat.zero_le _) (Nat.zero_le _) h
theorem s_C_gatherObserved_25 {Γ : sk_T} {mc ms : Nat} {I : sk_I} {J : sk_J} {Q : sk_Q} {x1 : Int32} (h : sk_W Γ m_C_gatherObserved mc ms 7 [(0, .ref 1), (1, .int (x1 + 1))] [] sk_gg I J 0 0 Q) : sk_W Γ m_C_gatherObserved mc ms 25 [(0, .ref 1), (1, .int x1)] [] sk_gg I J 0 0 Q := by
  refine sk_iinc (j := 1) (v := x1 + 1) d_C_gatherObserved_25 rfl (by rfl) (by decide) rfl ?_
  refine sk_goto (tgt := 7) d_C_gatherObserved_28 (by decide) ?_
  refine sk_loc [1, 0] rfl ?_
  exact h
theorem s_C_gatherObserved_33 {Γ : sk_T} {mc ms : Nat} {I : sk_I} {J : sk_J} {Q : sk_Q} {x1 : Int32} (h : ((I 1 1) ≤ x1 → Q (.inl none) sk_gg (sk_pi I 1 0 ((I 1 0) + 1)) J) ∧ (¬ (I 1 1) ≤ x1 → vp_in x1 26 ∧ sk_S Γ m_C_observe 0 0 (.ref 1 :: [.int (I 9 x1.toNatClampNeg)]) sk_gg I J (sk_Kv fun I' J' => sk_W Γ m_C_gatherObserved mc ms 51 [(0, .ref 1), (1, .int x1)] [] sk_gg I' J' 0 0 Q))) : sk_W Γ m_C_gatherObserved mc ms 33 [(0, .ref 1), (1, .int x1)] [] sk_gg I J 0 0 Q := by
  refine sk_iload_n (j := 1) d_C_gatherObserved_33 rfl rfl ?_
  refine sk_aload_n (j := 0) d_C_gatherObserved_34 rfl rfl ?_
  refine q_getI d_C_gatherObserved_35 fg_C_15 sh_1 ?_
  refine sk_icmp_ge (tgt := 57) d_C_gatherObserved_38 (by decide) (fun hc => ?_) (fun hc => ?_)
  · replace h := h.1 hc
    refine sk_aload_n (j := 0) d_C_gatherObserved_57 rfl rfl ?_
    refine sk_dup d_C_gatherObserved_58 rfl ?_
    refine q_getI d_C_gatherObserved_59 fg_C_9 sh_1 ?_
    refine sk_iconst (v := 1) d_C_gatherObserved_62 (by decide) ?_
    refine sk_iadd d_C_gatherObserved_63 ?_
    refine r_putI d_C_gatherObserved_64 fp_C_9 sh_1 ?_
    exact sk_vreturn d_C_gatherObserved_67 rfl (Nat.zero_le _) (Nat.zero_le _) h
  · replace h := h.2 hc
    refine sk_aload_n (j := 0) d_C_gatherObserved_41 rfl rfl ?_
    refine sk_aload_n (j := 0) d_C_gatherObserved_42 rfl rfl ?_
    refine q_getR d_C_gatherObserved_43 fg_C_53 sh_1 rr_1_13 ?_
    refine sk_iload_n (j := 1) d_C_gatherObserved_46 rfl rfl ?_
    obtain ⟨hb, h⟩ := h
    refine sk_iald d_C_gatherObserved_47 sh_9 hb ?_
    exact q_callVv (S := []) (as := [.int (I 9 x1.toNatClampNeg)]) d_C_gatherObserved_48 lk_C_70 sh_1 ⟨_, rfl⟩ rfl ⟨by decide, by decide⟩ (Nat.le_of_ble_eq_true rfl) rfl (Nat.zero_le _) (Nat.zero_le _) h
theorem s_C_gatherObserved_51 {Γ : sk_T} {mc ms : Nat} {I : sk_I} {J : sk_J} {Q : sk_Q} {x1 : Int32} (h : sk_W Γ m_C_gatherObserved mc ms 33 [(0, .ref 1), (1, .int (x1 + 1))] [] sk_gg I J 0 0 Q) : sk_W Γ m_C_gatherObserved mc ms 51 [(0, .ref 1), (1, .int x1)] [] sk_gg I J 0 0 Q := by
  refine sk_iinc (j := 1) (v := x1 + 1) d_C_gatherObserved_51 rfl (by rfl) (by decide) rfl ?_
  refine sk_goto (tgt := 33) d_C_gatherObserved_54 (by decide) ?_
  refine sk_loc [1, 0] rfl ?_
  exact h
theorem s_C_observe_0 {Γ : sk_T} {mc ms : Nat} {I : sk_I} {J : sk_J} {Q : sk_Q} {x1 : Int32} (h : (x1 = (-1) → Q (.inl none) sk_gg I J) ∧ (¬ x1 = (-1) → vp_in (I 1 4) 12 ∧ Q (.inl none) sk_gg (sk_pi (sk_pi I 8 (I 1 4).toNatClampNeg x1) 1 4 ((I 1 4) + 1)) J)) : sk_W Γ m_C_observe mc ms 0 [(0, .ref 1), (1, .int x1)] [] sk_gg I J 0 0 Q := by
  refine sk_iload_n (j := 1) d_C_observe_0 rfl rfl ?_
  refine sk_iconst (v := (-1)) d_C_observe_1 (by decide) ?_
  refine sk_icmp_eq (tgt := 25) d_C_observe_2 (by decide) (fun hc => ?_) (fun hc => ?_)
  · replace h := h.1 hc
    exact sk_vreturn d_C_observe_25 rfl (Nat.zero_le _) (Nat.zero_le _) h
  · replace h := h.2 hc
    refine sk_aload_n (j := 0) d_C_observe_5 rfl rfl ?_
    refine q_getR d_C_observe_6 fg_C_50 sh_1 rr_1_12 ?_
    refine sk_aload_n (j := 0) d_C_observe_9 rfl rfl ?_
    refine q_getI d_C_observe_10 fg_C_24 sh_1 ?_
    refine sk_iload_n (j := 1) d_C_observe_13 rfl rfl ?_
    obtain ⟨hb, h⟩ := h
    refine r_iast d_C_observe_14 sh_8 hb ?_
    refine sk_aload_n (j := 0) d_C_observe_15 rfl rfl ?_
    refine sk_dup d_C_observe_16 rfl ?_
    refine q_getI d_C_observe_17 fg_C_24 sh_1 ?_
    refine q_cvi (y := I 1 4) rfl ?_
    refine sk_iconst (v := 1) d_C_observe_20 (by decide) ?_
    refine sk_iadd d_C_observe_21 ?_
    refine r_putI d_C_observe_22 fp_C_24 sh_1 ?_
    exact sk_vreturn d_C_observe_25 rfl (Nat.zero_le _) (Nat.zero_le _) h
theorem s_C_connectData_0 {Γ : sk_T} {mc ms : Nat} {I : sk_I} {J : sk_J} {Q : sk_Q} {x1 : Int32} {x2 : Int32} (h : vp_in x1 26 ∧ sk_S Γ m_C_gatherObserved 0 0 (.ref 1 :: []) sk_gg (sk_pi I 9 x1.toNatClampNeg x2) J (sk_Kv fun I' J' => sk_W Γ m_C_connectData mc ms 11 [] [] sk_gg I' J' 0 0 Q)) : sk_W Γ m_C_connectData mc ms 0 [(0, .ref 1), (1, .int x1), (2, .int x2)] [] sk_gg I J 0 0 Q := by
  refine sk_aload_n (j := 0) d_C_connectData_0 rfl rfl ?_
  refine q_getR d_C_connectData_1 fg_C_53 sh_1 rr_1_13 ?_
  refine sk_iload_n (j := 1) d_C_connectData_4 rfl rfl ?_
  refine sk_iload_n (j := 2) d_C_connectData_5 rfl rfl ?_
  obtain ⟨hb, h⟩ := h
  refine r_iast d_C_connectData_6 sh_9 hb ?_
  refine sk_aload_n (j := 0) d_C_connectData_7 rfl rfl ?_
  refine sk_loc [] rfl ?_
  exact q_callVv (S := []) (as := []) d_C_connectData_8 lk_C_67 sh_1 ⟨_, rfl⟩ rfl ⟨by decide, by decide⟩ (Nat.le_of_ble_eq_true rfl) rfl (Nat.zero_le _) (Nat.zero_le _) h
theorem s_C_connectData_11 {Γ : sk_T} {mc ms : Nat} {I : sk_I} {J : sk_J} {Q : sk_Q}  (h : Q (.inl none) sk_gg I J) : sk_W Γ m_C_connectData mc ms 11 [] [] sk_gg I J 0 0 Q := by
  exact sk_vreturn d_C_connectData_11 rfl (Nat.zero_le _) (Nat.zero_le _) h
theorem s_C_isSumOfSources_0 {Γ : sk_T} {mc ms : Nat} {I : sk_I} {J : sk_J} {Q : sk_Q} {x1 : Int32} (h : (x1 < 0 → Q (.inl (some (.int 0))) sk_gg I J) ∧ (¬ x1 < 0 → sk_S Γ m_C_vectors 0 0 (.ref 1 :: []) sk_gg I J (sk_Ki fun v' I' J' => sk_W Γ m_C_isSumOfSources mc ms 9 [] [.int v', .int x1] sk_gg I' J' 0 0 Q))) : sk_W Γ m_C_isSumOfSources mc ms 0 [(0, .ref 1), (1, .int x1)] [] sk_gg I J 0 0 Q := by
  refine sk_iload_n (j := 1) d_C_isSumOfSources_0 rfl rfl ?_
  refine sk_if_lt (tgt := 16) d_C_isSumOfSources_1 (by decide) (fun hc => ?_) (fun hc => ?_)
  · replace h := h.1 hc
    refine sk_iconst (v := 0) d_C_isSumOfSources_16 (by decide) ?_
    exact q_zreturn d_C_isSumOfSources_17 rfl (by decide) (Nat.zero_le _) (Nat.zero_le _) h
  · replace h := h.2 hc
    refine sk_iload_n (j := 1) d_C_isSumOfSources_4 rfl rfl ?_
    refine sk_aload_n (j := 0) d_C_isSumOfSources_5 rfl rfl ?_
    refine sk_loc [] rfl ?_
    exact q_callVi (S := [.int x1]) (as := []) d_C_isSumOfSources_6 lk_C_74 sh_1 ⟨_, rfl⟩ rfl ⟨by decide, by decide⟩ (Nat.le_of_ble_eq_true rfl) rfl (Nat.zero_le _) (Nat.zero_le _) h
theorem s_C_isSumOfSources_9 {Γ : sk_T} {mc ms : Nat} {I : sk_I} {J : sk_J} {Q : sk_Q} {u0 : Int32} {u1 : Int32} (h : (u1 ≤ u0 → Q (.inl (some (.int 0))) sk_gg I J) ∧ (¬ u1 ≤ u0 → Q (.inl (some (.int 1))) sk_gg I J)) : sk_W Γ m_C_isSumOfSources mc ms 9 [] [.int u1, .int u0] sk_gg I J 0 0 Q := by
  refine sk_icmp_ge (tgt := 16) d_C_isSumOfSources_9 (by decide) (fun hc => ?_) (fun hc => ?_)
  · replace h := h.1 hc
    refine sk_iconst (v := 0) d_C_isSumOfSources_16 (by decide) ?_
    exact q_zreturn d_C_isSumOfSources_17 rfl (by decide) (Nat.zero_le _) (Nat.zero_le _) h
  · replace h := h.2 hc
    refine sk_iconst (v := 1) d_C_isSumOfSources_12 (by decide) ?_
    refine sk_goto (tgt := 17) d_C_isSumOfSources_13 (by decide) ?_
    exact q_zreturn d_C_isSumOfSources_17 rfl (by decide) (Nat.zero_le _) (Nat.zero_le _) h
