/-! segments, printed by wip/whole/gen_seg.py -/
theorem s_X_clear_0 {Γ : sk_T} {mc ms : Nat} {I : sk_I} {J : sk_J} {Q : sk_Q}  (h : sk_S Γ m_C_removeAll 0 0 (.ref 1 :: []) sk_gg I J (sk_Kv fun I' J' => sk_W Γ m_X_clear mc ms 7 [(0, .ref 0)] [] sk_gg I' J' 0 0 Q)) : sk_W Γ m_X_clear mc ms 0 [(0, .ref 0)] [] sk_gg I J 0 0 Q := by
  refine sk_aload_n (j := 0) d_X_clear_0 rfl rfl ?_
  refine q_getR d_X_clear_1 fg_X_12 sh_0 rr_0_0 ?_
  exact q_callVv (S := []) (as := []) d_X_clear_4 lk_X_57 sh_1 ⟨_, rfl⟩ rfl ⟨by decide, by decide⟩ (Nat.le_of_ble_eq_true rfl) rfl (Nat.zero_le _) (Nat.zero_le _) h
theorem s_X_clear_7 {Γ : sk_T} {mc ms : Nat} {I : sk_I} {J : sk_J} {Q : sk_Q}  (h : sk_S Γ m_G_removeAll 0 0 (.ref 38 :: []) sk_gg I J (sk_Kv fun I' J' => sk_W Γ m_X_clear mc ms 14 [] [] sk_gg I' J' 0 0 Q)) : sk_W Γ m_X_clear mc ms 7 [(0, .ref 0)] [] sk_gg I J 0 0 Q := by
  refine sk_aload_n (j := 0) d_X_clear_7 rfl rfl ?_
  refine q_getR d_X_clear_8 fg_X_53 sh_0 rr_0_5 ?_
  refine sk_loc [] rfl ?_
  exact q_callVv (S := []) (as := []) d_X_clear_11 lk_X_60 sh_38 ⟨_, rfl⟩ rfl ⟨by decide, by decide⟩ (Nat.le_of_ble_eq_true rfl) rfl (Nat.zero_le _) (Nat.zero_le _) h
theorem s_X_clear_14 {Γ : sk_T} {mc ms : Nat} {I : sk_I} {J : sk_J} {Q : sk_Q}  (h : Q (.inl none) sk_gg I J) : sk_W Γ m_X_clear mc ms 14 [] [] sk_gg I J 0 0 Q := by
  exact sk_vreturn d_X_clear_14 rfl (Nat.zero_le _) (Nat.zero_le _) h
theorem s_X_fault_0 {Γ : sk_T} {mc ms : Nat} {I : sk_I} {J : sk_J} {Q : sk_Q} {x1 : Int32} {x2 : Int32} {x3 : Int32} (h : sk_S Γ m_C_hasLine 0 0 (.ref 1 :: [.int x1]) sk_gg I J (sk_Ki fun v' I' J' => sk_W Γ m_X_fault mc ms 8 [(0, .ref 0), (1, .int x1), (2, .int x2), (3, .int x3)] [.int v'] sk_gg I' J' 0 0 Q)) : sk_W Γ m_X_fault mc ms 0 [(0, .ref 0), (1, .int x1), (2, .int x2), (3, .int x3)] [] sk_gg I J 0 0 Q := by
  refine sk_aload_n (j := 0) d_X_fault_0 rfl rfl ?_
  refine q_getR d_X_fault_1 fg_X_12 sh_0 rr_0_0 ?_
  refine sk_iload_n (j := 1) d_X_fault_4 rfl rfl ?_
  exact q_callVi (S := []) (as := [.int x1]) d_X_fault_5 lk_X_159 sh_1 ⟨_, rfl⟩ rfl ⟨by decide, by decide⟩ (Nat.le_of_ble_eq_true rfl) rfl (Nat.zero_le _) (Nat.zero_le _) h
theorem s_X_fault_8 {Γ : sk_T} {mc ms : Nat} {I : sk_I} {J : sk_J} {Q : sk_Q} {x1 : Int32} {x2 : Int32} {x3 : Int32} {u0 : Int32} (h : (u0 = 0 → Q (.inl (some (.int (-1)))) sk_gg I J) ∧ (¬ u0 = 0 → (x3 < 0 → Q (.inl (some (.int (-1)))) sk_gg I J) ∧ (¬ x3 < 0 → (x3 ≤ 1 → (¬ x2 = (-1) → (x2 < 0 → Q (.inl (some (.int (-1)))) sk_gg I J) ∧ (¬ x2 < 0 → sk_S Γ m_C_pinsOf 0 0 (.ref 1 :: [.int x1]) sk_gg I J (sk_Ki fun v' I' J' => sk_W Γ m_X_fault mc ms 46 [(0, .ref 0), (1, .int x1), (2, .int x2), (3, .int x3)] [.int v', .int x2] sk_gg I' J' 0 0 Q))) ∧ (x2 = (-1) → Q (.inl (some (.int ((2 * x1) + x3)))) sk_gg I J)) ∧ (¬ x3 ≤ 1 → Q (.inl (some (.int (-1)))) sk_gg I J)))) : sk_W Γ m_X_fault mc ms 8 [(0, .ref 0), (1, .int x1), (2, .int x2), (3, .int x3)] [.int u0] sk_gg I J 0 0 Q := by
  refine sk_if_eq (tgt := 20) d_X_fault_8 (by decide) (fun hc => ?_) (fun hc => ?_)
  · replace h := h.1 hc
    refine sk_iconst (v := (-1)) d_X_fault_20 (by decide) ?_
    exact sk_ireturn d_X_fault_21 rfl (Nat.zero_le _) (Nat.zero_le _) h
  · replace h := h.2 hc
    refine sk_iload_n (j := 3) d_X_fault_11 rfl rfl ?_
    refine sk_if_lt (tgt := 20) d_X_fault_12 (by decide) (fun hc => ?_) (fun hc => ?_)
    · replace h := h.1 hc
      refine sk_iconst (v := (-1)) d_X_fault_20 (by decide) ?_
      exact sk_ireturn d_X_fault_21 rfl (Nat.zero_le _) (Nat.zero_le _) h
    · replace h := h.2 hc
      refine sk_iload_n (j := 3) d_X_fault_15 rfl rfl ?_
      refine sk_iconst (v := 1) d_X_fault_16 (by decide) ?_
      refine sk_icmp_le (tgt := 22) d_X_fault_17 (by decide) (fun hc => ?_) (fun hc => ?_)
      · replace h := h.1 hc
        refine sk_iload_n (j := 2) d_X_fault_22 rfl rfl ?_
        refine sk_iconst (v := (-1)) d_X_fault_23 (by decide) ?_
        refine sk_icmp_ne (tgt := 33) d_X_fault_24 (by decide) (fun hc => ?_) (fun hc => ?_)
        · replace h := h.1 hc
          refine sk_iload_n (j := 2) d_X_fault_33 rfl rfl ?_
          refine sk_if_lt (tgt := 49) d_X_fault_34 (by decide) (fun hc => ?_) (fun hc => ?_)
          · replace h := h.1 hc
            refine sk_iconst (v := (-1)) d_X_fault_49 (by decide) ?_
            exact sk_ireturn d_X_fault_50 rfl (Nat.zero_le _) (Nat.zero_le _) h
          · replace h := h.2 hc
            refine sk_iload_n (j := 2) d_X_fault_37 rfl rfl ?_
            refine sk_aload_n (j := 0) d_X_fault_38 rfl rfl ?_
            refine q_getR d_X_fault_39 fg_X_12 sh_0 rr_0_0 ?_
            refine sk_iload_n (j := 1) d_X_fault_42 rfl rfl ?_
            exact q_callVi (S := [.int x2]) (as := [.int x1]) d_X_fault_43 lk_X_162 sh_1 ⟨_, rfl⟩ rfl ⟨by decide, by decide⟩ (Nat.le_of_ble_eq_true rfl) rfl (Nat.zero_le _) (Nat.zero_le _) h
        · replace h := h.2 hc
          refine sk_iconst (v := 2) d_X_fault_27 (by decide) ?_
          refine sk_iload_n (j := 1) d_X_fault_28 rfl rfl ?_
          refine sk_imul d_X_fault_29 ?_
          refine sk_iload_n (j := 3) d_X_fault_30 rfl rfl ?_
          refine sk_iadd d_X_fault_31 ?_
          exact sk_ireturn d_X_fault_32 rfl (Nat.zero_le _) (Nat.zero_le _) h
      · replace h := h.2 hc
        refine sk_iconst (v := (-1)) d_X_fault_20 (by decide) ?_
        exact sk_ireturn d_X_fault_21 rfl (Nat.zero_le _) (Nat.zero_le _) h
theorem s_X_fault_46 {Γ : sk_T} {mc ms : Nat} {I : sk_I} {J : sk_J} {Q : sk_Q} {x1 : Int32} {x2 : Int32} {x3 : Int32} {u0 : Int32} {u1 : Int32} (h : (u0 < u1 → vp_in x1 27 ∧ Q (.inl (some (.int ((2 * (((I 1 1) + (I 5 x1.toNatClampNeg)) + x2)) + x3)))) sk_gg I J) ∧ (¬ u0 < u1 → Q (.inl (some (.int (-1)))) sk_gg I J)) : sk_W Γ m_X_fault mc ms 46 [(0, .ref 0), (1, .int x1), (2, .int x2), (3, .int x3)] [.int u1, .int u0] sk_gg I J 0 0 Q := by
  refine sk_icmp_lt (tgt := 51) d_X_fault_46 (by decide) (fun hc => ?_) (fun hc => ?_)
  · replace h := h.1 hc
    refine sk_iconst (v := 2) d_X_fault_51 (by decide) ?_
    refine sk_aload_n (j := 0) d_X_fault_52 rfl rfl ?_
    refine q_getR d_X_fault_53 fg_X_12 sh_0 rr_0_0 ?_
    refine q_getI d_X_fault_56 fg_X_65 sh_1 ?_
    refine sk_aload_n (j := 0) d_X_fault_59 rfl rfl ?_
    refine q_getR d_X_fault_60 fg_X_12 sh_0 rr_0_0 ?_
    refine q_getR d_X_fault_63 fg_X_165 sh_1 rr_1_9 ?_
    refine sk_iload_n (j := 1) d_X_fault_66 rfl rfl ?_
    obtain ⟨hb, h⟩ := h
    refine sk_iald d_X_fault_67 sh_5 hb ?_
    refine sk_iadd d_X_fault_68 ?_
    refine sk_iload_n (j := 2) d_X_fault_69 rfl rfl ?_
    refine sk_iadd d_X_fault_70 ?_
    refine sk_imul d_X_fault_71 ?_
    refine sk_iload_n (j := 3) d_X_fault_72 rfl rfl ?_
    refine sk_iadd d_X_fault_73 ?_
    exact sk_ireturn d_X_fault_74 rfl (Nat.zero_le _) (Nat.zero_le _) h
  · replace h := h.2 hc
    refine sk_iconst (v := (-1)) d_X_fault_49 (by decide) ?_
    exact sk_ireturn d_X_fault_50 rfl (Nat.zero_le _) (Nat.zero_le _) h
theorem s_X_packed_0 {Γ : sk_T} {mc ms : Nat} {I : sk_I} {J : sk_J} {Q : sk_Q} {x1 : Int32} (h : sk_S Γ m_R_prepareAll 0 0 (.ref 16 :: []) sk_gg I J (sk_Kv fun I' J' => sk_W Γ m_X_packed mc ms 7 [(0, .ref 0), (1, .int x1)] [] sk_gg I' J' 0 0 Q)) : sk_W Γ m_X_packed mc ms 0 [(0, .ref 0), (1, .int x1)] [] sk_gg I J 0 0 Q := by
  refine sk_aload_n (j := 0) d_X_packed_0 rfl rfl ?_
  refine q_getR d_X_packed_1 fg_X_28 sh_0 rr_0_2 ?_
  exact q_callVv (S := []) (as := []) d_X_packed_4 lk_X_129 sh_16 ⟨_, rfl⟩ rfl ⟨by decide, by decide⟩ (Nat.le_of_ble_eq_true rfl) rfl (Nat.zero_le _) (Nat.zero_le _) h
theorem s_X_packed_7 {Γ : sk_T} {mc ms : Nat} {I : sk_I} {J : sk_J} {Q : sk_Q} {x1 : Int32} (h : sk_S Γ m_P_at 0 0 (.ref 36 :: [.int x1]) sk_gg I J (sk_Ki fun v' I' J' => sk_W Γ m_X_packed mc ms 15 [] [.int v'] sk_gg I' J' 0 0 Q)) : sk_W Γ m_X_packed mc ms 7 [(0, .ref 0), (1, .int x1)] [] sk_gg I J 0 0 Q := by
  refine sk_aload_n (j := 0) d_X_packed_7 rfl rfl ?_
  refine q_getR d_X_packed_8 fg_X_44 sh_0 rr_0_4 ?_
  refine sk_iload_n (j := 1) d_X_packed_11 rfl rfl ?_
  refine sk_loc [] rfl ?_
  exact q_callVi (S := []) (as := [.int x1]) d_X_packed_12 lk_X_207 sh_36 ⟨_, rfl⟩ rfl ⟨by decide, by decide⟩ (Nat.le_of_ble_eq_true rfl) rfl (Nat.zero_le _) (Nat.zero_le _) h
theorem s_X_packed_15 {Γ : sk_T} {mc ms : Nat} {I : sk_I} {J : sk_J} {Q : sk_Q} {u0 : Int32} (h : Q (.inl (some (.int u0))) sk_gg I J) : sk_W Γ m_X_packed mc ms 15 [] [.int u0] sk_gg I J 0 0 Q := by
  exact sk_ireturn d_X_packed_15 rfl (Nat.zero_le _) (Nat.zero_le _) h
theorem s_X_forget_0 {Γ : sk_T} {mc ms : Nat} {I : sk_I} {J : sk_J} {Q : sk_Q}  (h : sk_S Γ m_G_removeAll 0 0 (.ref 38 :: []) sk_gg I J (sk_Kv fun I' J' => sk_W Γ m_X_forget mc ms 15 [(1, .int (I 38 3))] [] sk_gg I' J' 0 0 Q)) : sk_W Γ m_X_forget mc ms 0 [(0, .ref 0)] [] sk_gg I J 0 0 Q := by
  refine sk_aload_n (j := 0) d_X_forget_0 rfl rfl ?_
  refine q_getR d_X_forget_1 fg_X_53 sh_0 rr_0_5 ?_
  refine q_getI d_X_forget_4 fg_X_212 sh_38 ?_
  refine sk_istore_n d_X_forget_7 rfl (by decide) rfl ?_
  refine sk_aload_n (j := 1) d_X_forget_8 rfl rfl ?_
  refine q_getR d_X_forget_9 fg_X_53 sh_0 rr_0_5 ?_
  refine sk_loc [0] rfl ?_
  exact q_callVv (S := []) (as := []) d_X_forget_12 lk_X_60 sh_38 ⟨_, rfl⟩ rfl ⟨by decide, by decide⟩ (Nat.le_of_ble_eq_true rfl) rfl (Nat.zero_le _) (Nat.zero_le _) h
theorem s_X_forget_15 {Γ : sk_T} {mc ms : Nat} {I : sk_I} {J : sk_J} {Q : sk_Q} {x1 : Int32} (h : Q (.inl (some (.int x1))) sk_gg I J) : sk_W Γ m_X_forget mc ms 15 [(1, .int x1)] [] sk_gg I J 0 0 Q := by
  refine sk_iload_n (j := 0) d_X_forget_15 rfl rfl ?_
  exact sk_ireturn d_X_forget_16 rfl (Nat.zero_le _) (Nat.zero_le _) h
theorem s_X_explains_0 {Γ : sk_T} {mc ms : Nat} {I : sk_I} {J : sk_J} {Q : sk_Q} {x1 : Int32} (h : (¬ x1 = (-1) → sk_S Γ m_R_prepareAll 0 0 (.ref 16 :: []) sk_gg I J (sk_Kv fun I' J' => sk_W Γ m_X_explains mc ms 37 [(0, .ref 0), (1, .int x1)] [] sk_gg I' J' 0 0 Q)) ∧ (x1 = (-1) → sk_S Γ m_R_prepare 0 0 (.ref 16 :: [.int (-1)]) sk_gg I J (sk_Kv fun I' J' => sk_W Γ m_X_explains mc ms 13 [(0, .ref 0)] [] sk_gg I' J' 0 0 Q))) : sk_W Γ m_X_explains mc ms 0 [(0, .ref 0), (1, .int x1)] [] sk_gg I J 0 0 Q := by
  refine sk_iload_n (j := 1) d_X_explains_0 rfl rfl ?_
  refine sk_iconst (v := (-1)) d_X_explains_1 (by decide) ?_
  refine sk_icmp_ne (tgt := 30) d_X_explains_2 (by decide) (fun hc => ?_) (fun hc => ?_)
  · replace h := h.1 hc
    refine sk_aload_n (j := 0) d_X_explains_30 rfl rfl ?_
    refine q_getR d_X_explains_31 fg_X_28 sh_0 rr_0_2 ?_
    exact q_callVv (S := []) (as := []) d_X_explains_34 lk_X_129 sh_16 ⟨_, rfl⟩ rfl ⟨by decide, by decide⟩ (Nat.le_of_ble_eq_true rfl) rfl (Nat.zero_le _) (Nat.zero_le _) h
  · replace h := h.2 hc
    refine sk_aload_n (j := 0) d_X_explains_5 rfl rfl ?_
    refine q_getR d_X_explains_6 fg_X_28 sh_0 rr_0_2 ?_
    refine sk_iconst (v := (-1)) d_X_explains_9 (by decide) ?_
    refine sk_loc [0] rfl ?_
    exact q_callVv (S := []) (as := [.int (-1)]) d_X_explains_10 lk_X_153 sh_16 ⟨_, rfl⟩ rfl ⟨by decide, by decide⟩ (Nat.le_of_ble_eq_true rfl) rfl (Nat.zero_le _) (Nat.zero_le _) h
theorem s_X_explains_13 {Γ : sk_T} {mc ms : Nat} {I : sk_I} {J : sk_J} {Q : sk_Q}  (h : sk_S Γ m_G_isExplainedBy 0 0 (.ref 38 :: [.int (-1)]) sk_gg I J (sk_Ki fun v' I' J' => sk_W Γ m_X_explains mc ms 21 [] [.int v'] sk_gg I' J' 0 0 Q)) : sk_W Γ m_X_explains mc ms 13 [(0, .ref 0)] [] sk_gg I J 0 0 Q := by
  refine sk_aload_n (j := 0) d_X_explains_13 rfl rfl ?_
  refine q_getR d_X_explains_14 fg_X_53 sh_0 rr_0_5 ?_
  refine sk_iconst (v := (-1)) d_X_explains_17 (by decide) ?_
  refine sk_loc [] rfl ?_
  exact q_callVi (S := []) (as := [.int (-1)]) d_X_explains_18 lk_X_220 sh_38 ⟨_, rfl⟩ rfl ⟨by decide, by decide⟩ (Nat.le_of_ble_eq_true rfl) rfl (Nat.zero_le _) (Nat.zero_le _) h
theorem s_X_explains_21 {Γ : sk_T} {mc ms : Nat} {I : sk_I} {J : sk_J} {Q : sk_Q} {u0 : Int32} (h : (u0 = 0 → Q (.inl (some (.int 0))) sk_gg I J) ∧ (¬ u0 = 0 → Q (.inl (some (.int 1))) sk_gg I J)) : sk_W Γ m_X_explains mc ms 21 [] [.int u0] sk_gg I J 0 0 Q := by
  refine sk_if_eq (tgt := 28) d_X_explains_21 (by decide) (fun hc => ?_) (fun hc => ?_)
  · replace h := h.1 hc
    refine sk_iconst (v := 0) d_X_explains_28 (by decide) ?_
    exact sk_ireturn d_X_explains_29 rfl (Nat.zero_le _) (Nat.zero_le _) h
  · replace h := h.2 hc
    refine sk_iconst (v := 1) d_X_explains_24 (by decide) ?_
    refine sk_goto (tgt := 29) d_X_explains_25 (by decide) ?_
    exact sk_ireturn d_X_explains_29 rfl (Nat.zero_le _) (Nat.zero_le _) h
theorem s_X_explains_37 {Γ : sk_T} {mc ms : Nat} {I : sk_I} {J : sk_J} {Q : sk_Q} {x1 : Int32} (h : sk_W Γ m_X_explains mc ms 41 [(0, .ref 0), (1, .int x1), (2, .int 0), (3, .int 0)] [] sk_gg I J 0 0 Q) : sk_W Γ m_X_explains mc ms 37 [(0, .ref 0), (1, .int x1)] [] sk_gg I J 0 0 Q := by
  refine sk_iconst (v := 0) d_X_explains_37 (by decide) ?_
  refine sk_istore_n d_X_explains_38 rfl (by decide) rfl ?_
  refine sk_iconst (v := 0) d_X_explains_39 (by decide) ?_
  refine sk_istore_n d_X_explains_40 rfl (by decide) rfl ?_
  refine sk_loc [2, 3, 1, 0] rfl ?_
  exact h
theorem s_X_explains_41 {Γ : sk_T} {mc ms : Nat} {I : sk_I} {J : sk_J} {Q : sk_Q} {x1 : Int32} {x2 : Int32} {x3 : Int32} (h : sk_S Γ m_C_faults 0 0 (.ref 1 :: []) sk_gg I J (sk_Ki fun v' I' J' => sk_W Γ m_X_explains mc ms 49 [(0, .ref 0), (1, .int x1), (2, .int x2), (3, .int x3)] [.int v', .int x3] sk_gg I' J' 0 0 Q)) : sk_W Γ m_X_explains mc ms 41 [(0, .ref 0), (1, .int x1), (2, .int x2), (3, .int x3)] [] sk_gg I J 0 0 Q := by
  refine sk_iload_n (j := 3) d_X_explains_41 rfl rfl ?_
  refine sk_aload_n (j := 0) d_X_explains_42 rfl rfl ?_
  refine q_getR d_X_explains_43 fg_X_12 sh_0 rr_0_0 ?_
  exact q_callVi (S := [.int x3]) (as := []) d_X_explains_46 lk_X_125 sh_1 ⟨_, rfl⟩ rfl ⟨by decide, by decide⟩ (Nat.le_of_ble_eq_true rfl) rfl (Nat.zero_le _) (Nat.zero_le _) h
theorem s_X_explains_49 {Γ : sk_T} {mc ms : Nat} {I : sk_I} {J : sk_J} {Q : sk_Q} {x1 : Int32} {x2 : Int32} {x3 : Int32} {u0 : Int32} {u1 : Int32} (h : (u1 ≤ u0 → Q (.inl (some (.int (-1)))) sk_gg I J) ∧ (¬ u1 ≤ u0 → sk_S Γ m_G_isExplainedBy 0 0 (.ref 38 :: [.int x3]) sk_gg I J (sk_Ki fun v' I' J' => sk_W Γ m_X_explains mc ms 60 [(0, .ref 0), (1, .int x1), (2, .int x2), (3, .int x3)] [.int v'] sk_gg I' J' 0 0 Q))) : sk_W Γ m_X_explains mc ms 49 [(0, .ref 0), (1, .int x1), (2, .int x2), (3, .int x3)] [.int u1, .int u0] sk_gg I J 0 0 Q := by
  refine sk_icmp_ge (tgt := 79) d_X_explains_49 (by decide) (fun hc => ?_) (fun hc => ?_)
  · replace h := h.1 hc
    refine sk_iconst (v := (-1)) d_X_explains_79 (by decide) ?_
    exact sk_ireturn d_X_explains_80 rfl (Nat.zero_le _) (Nat.zero_le _) h
  · replace h := h.2 hc
    refine sk_aload_n (j := 0) d_X_explains_52 rfl rfl ?_
    refine q_getR d_X_explains_53 fg_X_53 sh_0 rr_0_5 ?_
    refine sk_iload_n (j := 3) d_X_explains_56 rfl rfl ?_
    exact q_callVi (S := []) (as := [.int x3]) d_X_explains_57 lk_X_220 sh_38 ⟨_, rfl⟩ rfl ⟨by decide, by decide⟩ (Nat.le_of_ble_eq_true rfl) rfl (Nat.zero_le _) (Nat.zero_le _) h
theorem s_X_explains_60 {Γ : sk_T} {mc ms : Nat} {I : sk_I} {J : sk_J} {Q : sk_Q} {x1 : Int32} {x2 : Int32} {x3 : Int32} {u0 : Int32} (h : (u0 = 0 → sk_W Γ m_X_explains mc ms 41 [(0, .ref 0), (1, .int x1), (2, .int x2), (3, .int (x3 + 1))] [] sk_gg I J 0 0 Q) ∧ (¬ u0 = 0 → (¬ x2 = x1 → sk_W Γ m_X_explains mc ms 41 [(0, .ref 0), (1, .int x1), (2, .int (x2 + 1)), (3, .int (x3 + 1))] [] sk_gg I J 0 0 Q) ∧ (x2 = x1 → Q (.inl (some (.int x3))) sk_gg I J))) : sk_W Γ m_X_explains mc ms 60 [(0, .ref 0), (1, .int x1), (2, .int x2), (3, .int x3)] [.int u0] sk_gg I J 0 0 Q := by
  refine sk_if_eq (tgt := 73) d_X_explains_60 (by decide) (fun hc => ?_) (fun hc => ?_)
  · replace h := h.1 hc
    refine sk_iinc (j := 3) (v := x3 + 1) d_X_explains_73 rfl (by rfl) (by decide) rfl ?_
    refine sk_goto (tgt := 41) d_X_explains_76 (by decide) ?_
    refine sk_loc [1, 2, 3, 0] rfl ?_
    exact h
  · replace h := h.2 hc
    refine sk_iload_n (j := 2) d_X_explains_63 rfl rfl ?_
    refine sk_iload_n (j := 1) d_X_explains_64 rfl rfl ?_
    refine sk_icmp_ne (tgt := 70) d_X_explains_65 (by decide) (fun hc => ?_) (fun hc => ?_)
    · replace h := h.1 hc
      refine sk_iinc (j := 2) (v := x2 + 1) d_X_explains_70 rfl (by rfl) (by decide) rfl ?_
      refine sk_iinc (j := 3) (v := x3 + 1) d_X_explains_73 rfl (by rfl) (by decide) rfl ?_
      refine sk_goto (tgt := 41) d_X_explains_76 (by decide) ?_
      refine sk_loc [2, 3, 1, 0] rfl ?_
      exact h
    · replace h := h.2 hc
      refine sk_iload_n (j := 3) d_X_explains_68 rfl rfl ?_
      exact sk_ireturn d_X_explains_69 rfl (Nat.zero_le _) (Nat.zero_le _) h
theorem s_X_source_0 {Γ : sk_T} {mc ms : Nat} {I : sk_I} {J : sk_J} {Q : sk_Q} {x1 : Int32} (h : (6 ≤ (I 1 2) → (1 ≤ mc ∧ 6 ≤ ms) ∧ Q (.inr "java/lang/IllegalStateException") sk_gg I J) ∧ (¬ 6 ≤ (I 1 2) → ((I 1 1) < 26 → sk_S Γ m_G_removeAll 0 0 (.ref 38 :: []) sk_gg I J (sk_Kv fun I' J' => sk_W Γ m_X_source mc ms 41 [(0, .ref 0), (1, .int x1)] [] sk_gg I' J' 0 0 Q)) ∧ (¬ (I 1 1) < 26 → (1 ≤ mc ∧ 6 ≤ ms) ∧ Q (.inr "java/lang/IllegalStateException") sk_gg I J))) : sk_W Γ m_X_source mc ms 0 [(0, .ref 0), (1, .int x1)] [] sk_gg I J 0 0 Q := by
  refine sk_aload_n (j := 0) d_X_source_0 rfl rfl ?_
  refine q_getR d_X_source_1 fg_X_12 sh_0 rr_0_0 ?_
  refine q_getI d_X_source_4 fg_X_61 sh_1 ?_
  refine sk_bipush (v := 6) d_X_source_7 (by decide) ?_
  refine sk_icmp_ge (tgt := 24) d_X_source_9 (by decide) (fun hc => ?_) (fun hc => ?_)
  · replace h := h.1 hc
    exact q_throw d_X_source_24 d_X_source_27 d_X_source_28 d_X_source_30 d_X_source_33 rfl th_68_70_72 rfl ⟨by decide, by decide⟩ (Nat.le_of_ble_eq_true rfl) (by omega) h.2
  · replace h := h.2 hc
    refine sk_aload_n (j := 0) d_X_source_12 rfl rfl ?_
    refine q_getR d_X_source_13 fg_X_12 sh_0 rr_0_0 ?_
    refine q_getI d_X_source_16 fg_X_65 sh_1 ?_
    refine sk_bipush (v := 26) d_X_source_19 (by decide) ?_
    refine sk_icmp_lt (tgt := 34) d_X_source_21 (by decide) (fun hc => ?_) (fun hc => ?_)
    · replace h := h.1 hc
      refine sk_aload_n (j := 0) d_X_source_34 rfl rfl ?_
      refine q_getR d_X_source_35 fg_X_53 sh_0 rr_0_5 ?_
      exact q_callVv (S := []) (as := []) d_X_source_38 lk_X_60 sh_38 ⟨_, rfl⟩ rfl ⟨by decide, by decide⟩ (Nat.le_of_ble_eq_true rfl) rfl (Nat.zero_le _) (Nat.zero_le _) h
    · replace h := h.2 hc
      exact q_throw d_X_source_24 d_X_source_27 d_X_source_28 d_X_source_30 d_X_source_33 rfl th_68_70_72 rfl ⟨by decide, by decide⟩ (Nat.le_of_ble_eq_true rfl) (by omega) h.2
theorem s_X_source_41 {Γ : sk_T} {mc ms : Nat} {I : sk_I} {J : sk_J} {Q : sk_Q} {x1 : Int32} (h : sk_S Γ m_C_addSource 0 0 (.ref 1 :: [.int x1]) sk_gg I J (sk_Ki fun v' I' J' => sk_W Γ m_X_source mc ms 49 [] [.int v'] sk_gg I' J' 0 0 Q)) : sk_W Γ m_X_source mc ms 41 [(0, .ref 0), (1, .int x1)] [] sk_gg I J 0 0 Q := by
  refine sk_aload_n (j := 0) d_X_source_41 rfl rfl ?_
  refine q_getR d_X_source_42 fg_X_12 sh_0 rr_0_0 ?_
  refine sk_iload_n (j := 1) d_X_source_45 rfl rfl ?_
  refine sk_loc [] rfl ?_
  exact q_callVi (S := []) (as := [.int x1]) d_X_source_46 lk_X_75 sh_1 ⟨_, rfl⟩ rfl ⟨by decide, by decide⟩ (Nat.le_of_ble_eq_true rfl) rfl (Nat.zero_le _) (Nat.zero_le _) h
theorem s_X_source_49 {Γ : sk_T} {mc ms : Nat} {I : sk_I} {J : sk_J} {Q : sk_Q} {u0 : Int32} (h : Q (.inl (some (.int u0))) sk_gg I J) : sk_W Γ m_X_source mc ms 49 [] [.int u0] sk_gg I J 0 0 Q := by
  exact sk_ireturn d_X_source_49 rfl (Nat.zero_le _) (Nat.zero_le _) h
theorem s_X_gate_0 {Γ : sk_T} {mc ms : Nat} {I : sk_I} {J : sk_J} {Q : sk_Q} {x1 : Int32} {x2 : Int32} {x3 : Int32} {x4 : Int32} (h : (x1 < 0 → (1 ≤ mc ∧ 6 ≤ ms) ∧ Q (.inr "java/lang/IllegalArgumentException") sk_gg I J) ∧ (¬ x1 < 0 → (x1 < 6 → (x2 = (-1) → (1 ≤ mc ∧ 6 ≤ ms) ∧ Q (.inr "java/lang/IllegalArgumentException") sk_gg I J) ∧ (¬ x2 = (-1) → (¬ x3 = (-1) → (sk_S Γ m_X_requireLine 0 0 (.ref 0 :: [.int x2]) sk_gg I J (sk_Kv fun I' J' => sk_W Γ m_X_gate mc ms 51 [(0, .ref 0), (1, .int x1), (2, .int x2), (3, .int x3), (4, .int x4)] [] sk_gg I' J' 0 0 Q)) ∨ ((1 ≤ mc ∧ 6 ≤ ms) ∧ sk_S Γ m_X_requireLine 1 6 (.ref 0 :: [.int x2]) sk_gg I J (sk_Kx fun E I' J' => Q (.inr E) sk_gg I' J'))) ∧ (x3 = (-1) → (x4 = (-1) → (sk_S Γ m_X_requireLine 0 0 (.ref 0 :: [.int x2]) sk_gg I J (sk_Kv fun I' J' => sk_W Γ m_X_gate mc ms 51 [(0, .ref 0), (1, .int x1), (2, .int x2), (3, .int x3), (4, .int x4)] [] sk_gg I' J' 0 0 Q)) ∨ ((1 ≤ mc ∧ 6 ≤ ms) ∧ sk_S Γ m_X_requireLine 1 6 (.ref 0 :: [.int x2]) sk_gg I J (sk_Kx fun E I' J' => Q (.inr E) sk_gg I' J'))) ∧ (¬ x4 = (-1) → (1 ≤ mc ∧ 6 ≤ ms) ∧ Q (.inr "java/lang/IllegalArgumentException") sk_gg I J)))) ∧ (¬ x1 < 6 → (1 ≤ mc ∧ 6 ≤ ms) ∧ Q (.inr "java/lang/IllegalArgumentException") sk_gg I J))) : sk_W Γ m_X_gate mc ms 0 [(0, .ref 0), (1, .int x1), (2, .int x2), (3, .int x3), (4, .int x4)] [] sk_gg I J 0 0 Q := by
  refine sk_iload_n (j := 1) d_X_gate_0 rfl rfl ?_
  refine sk_if_lt (tgt := 10) d_X_gate_1 (by decide) (fun hc => ?_) (fun hc => ?_)
  · replace h := h.1 hc
    exact q_throw d_X_gate_10 d_X_gate_13 d_X_gate_14 d_X_gate_16 d_X_gate_19 rfl th_79_81_83 rfl ⟨by decide, by decide⟩ (Nat.le_of_ble_eq_true rfl) (by omega) h.2
  · replace h := h.2 hc
    refine sk_iload_n (j := 1) d_X_gate_4 rfl rfl ?_
    refine sk_bipush (v := 6) d_X_gate_5 (by decide) ?_
    refine sk_icmp_lt (tgt := 20) d_X_gate_7 (by decide) (fun hc => ?_) (fun hc => ?_)
    · replace h := h.1 hc
      refine sk_iload_n (j := 2) d_X_gate_20 rfl rfl ?_
      refine sk_iconst (v := (-1)) d_X_gate_21 (by decide) ?_
      refine sk_icmp_eq (tgt := 36) d_X_gate_22 (by decide) (fun hc => ?_) (fun hc => ?_)
      · replace h := h.1 hc
        exact q_throw d_X_gate_36 d_X_gate_39 d_X_gate_40 d_X_gate_42 d_X_gate_45 rfl th_79_84_83 rfl ⟨by decide, by decide⟩ (Nat.le_of_ble_eq_true rfl) (by omega) h.2
      · replace h := h.2 hc
        refine sk_iload_n (j := 3) d_X_gate_25 rfl rfl ?_
        refine sk_iconst (v := (-1)) d_X_gate_26 (by decide) ?_
        refine sk_icmp_ne (tgt := 46) d_X_gate_27 (by decide) (fun hc => ?_) (fun hc => ?_)
        · replace h := h.1 hc
          refine sk_aload_n (j := 0) d_X_gate_46 rfl rfl ?_
          refine sk_iload_n (j := 2) d_X_gate_47 rfl rfl ?_
          rcases h with h | ⟨hm, h⟩
          · exact q_callVv (S := []) (as := [.int x2]) d_X_gate_48 lk_X_86 sh_0 ⟨_, rfl⟩ rfl ⟨by decide, by decide⟩ (Nat.le_of_ble_eq_true rfl) rfl (Nat.zero_le _) (Nat.zero_le _) h
          · exact q_callVx (S := []) (as := [.int x2]) d_X_gate_48 lk_X_86 sh_0 ⟨_, rfl⟩ rfl ⟨by decide, by decide⟩ (Nat.le_of_ble_eq_true rfl) rfl (by omega) (sk_Smono h (fun r g I J hq => by obtain ⟨E, rfl, rfl, hq⟩ := hq; exact ⟨E, rfl, rfl, sk_xout rfl (by omega) (by omega) hq⟩))
        · replace h := h.2 hc
          refine sk_iload (j := 4) d_X_gate_30 rfl ?_
          refine sk_iconst (v := (-1)) d_X_gate_32 (by decide) ?_
          refine sk_icmp_eq (tgt := 46) d_X_gate_33 (by decide) (fun hc => ?_) (fun hc => ?_)
          · replace h := h.1 hc
            refine sk_aload_n (j := 0) d_X_gate_46 rfl rfl ?_
            refine sk_iload_n (j := 2) d_X_gate_47 rfl rfl ?_
            rcases h with h | ⟨hm, h⟩
            · exact q_callVv (S := []) (as := [.int x2]) d_X_gate_48 lk_X_86 sh_0 ⟨_, rfl⟩ rfl ⟨by decide, by decide⟩ (Nat.le_of_ble_eq_true rfl) rfl (Nat.zero_le _) (Nat.zero_le _) h
            · exact q_callVx (S := []) (as := [.int x2]) d_X_gate_48 lk_X_86 sh_0 ⟨_, rfl⟩ rfl ⟨by decide, by decide⟩ (Nat.le_of_ble_eq_true rfl) rfl (by omega) (sk_Smono h (fun r g I J hq => by obtain ⟨E, rfl, rfl, hq⟩ := hq; exact ⟨E, rfl, rfl, sk_xout rfl (by omega) (by omega) hq⟩))
          · replace h := h.2 hc
            exact q_throw d_X_gate_36 d_X_gate_39 d_X_gate_40 d_X_gate_42 d_X_gate_45 rfl th_79_84_83 rfl ⟨by decide, by decide⟩ (Nat.le_of_ble_eq_true rfl) (by omega) h.2
    · replace h := h.2 hc
      exact q_throw d_X_gate_10 d_X_gate_13 d_X_gate_14 d_X_gate_16 d_X_gate_19 rfl th_79_81_83 rfl ⟨by decide, by decide⟩ (Nat.le_of_ble_eq_true rfl) (by omega) h.2
theorem s_X_gate_51 {Γ : sk_T} {mc ms : Nat} {I : sk_I} {J : sk_J} {Q : sk_Q} {x1 : Int32} {x2 : Int32} {x3 : Int32} {x4 : Int32} (h : (sk_S Γ m_X_requireLineOrNone 0 0 (.ref 0 :: [.int x3]) sk_gg I J (sk_Kv fun I' J' => sk_W Γ m_X_gate mc ms 56 [(0, .ref 0), (1, .int x1), (2, .int x2), (3, .int x3), (4, .int x4)] [] sk_gg I' J' 0 0 Q)) ∨ ((1 ≤ mc ∧ 6 ≤ ms) ∧ sk_S Γ m_X_requireLineOrNone 1 6 (.ref 0 :: [.int x3]) sk_gg I J (sk_Kx fun E I' J' => Q (.inr E) sk_gg I' J'))) : sk_W Γ m_X_gate mc ms 51 [(0, .ref 0), (1, .int x1), (2, .int x2), (3, .int x3), (4, .int x4)] [] sk_gg I J 0 0 Q := by
  refine sk_aload_n (j := 0) d_X_gate_51 rfl rfl ?_
  refine sk_iload_n (j := 3) d_X_gate_52 rfl rfl ?_
  rcases h with h | ⟨hm, h⟩
  · exact q_callVv (S := []) (as := [.int x3]) d_X_gate_53 lk_X_90 sh_0 ⟨_, rfl⟩ rfl ⟨by decide, by decide⟩ (Nat.le_of_ble_eq_true rfl) rfl (Nat.zero_le _) (Nat.zero_le _) h
  · exact q_callVx (S := []) (as := [.int x3]) d_X_gate_53 lk_X_90 sh_0 ⟨_, rfl⟩ rfl ⟨by decide, by decide⟩ (Nat.le_of_ble_eq_true rfl) rfl (by omega) (sk_Smono h (fun r g I J hq => by obtain ⟨E, rfl, rfl, hq⟩ := hq; exact ⟨E, rfl, rfl, sk_xout rfl (by omega) (by omega) hq⟩))
theorem s_X_gate_56 {Γ : sk_T} {mc ms : Nat} {I : sk_I} {J : sk_J} {Q : sk_Q} {x1 : Int32} {x2 : Int32} {x3 : Int32} {x4 : Int32} (h : (sk_S Γ m_X_requireLineOrNone 0 0 (.ref 0 :: [.int x4]) sk_gg I J (sk_Kv fun I' J' => sk_W Γ m_X_gate mc ms 62 [(0, .ref 0), (1, .int x1), (2, .int x2), (3, .int x3), (4, .int x4)] [] sk_gg I' J' 0 0 Q)) ∨ ((1 ≤ mc ∧ 6 ≤ ms) ∧ sk_S Γ m_X_requireLineOrNone 1 6 (.ref 0 :: [.int x4]) sk_gg I J (sk_Kx fun E I' J' => Q (.inr E) sk_gg I' J'))) : sk_W Γ m_X_gate mc ms 56 [(0, .ref 0), (1, .int x1), (2, .int x2), (3, .int x3), (4, .int x4)] [] sk_gg I J 0 0 Q := by
  refine sk_aload_n (j := 0) d_X_gate_56 rfl rfl ?_
  refine sk_iload (j := 4) d_X_gate_57 rfl ?_
  rcases h with h | ⟨hm, h⟩
  · exact q_callVv (S := []) (as := [.int x4]) d_X_gate_59 lk_X_90 sh_0 ⟨_, rfl⟩ rfl ⟨by decide, by decide⟩ (Nat.le_of_ble_eq_true rfl) rfl (Nat.zero_le _) (Nat.zero_le _) h
  · exact q_callVx (S := []) (as := [.int x4]) d_X_gate_59 lk_X_90 sh_0 ⟨_, rfl⟩ rfl ⟨by decide, by decide⟩ (Nat.le_of_ble_eq_true rfl) rfl (by omega) (sk_Smono h (fun r g I J hq => by obtain ⟨E, rfl, rfl, hq⟩ := hq; exact ⟨E, rfl, rfl, sk_xout rfl (by omega) (by omega) hq⟩))
theorem s_X_gate_62 {Γ : sk_T} {mc ms : Nat} {I : sk_I} {J : sk_J} {Q : sk_Q} {x1 : Int32} {x2 : Int32} {x3 : Int32} {x4 : Int32} (h : ((I 1 1) < 26 → sk_S Γ m_G_removeAll 0 0 (.ref 38 :: []) sk_gg I J (sk_Kv fun I' J' => sk_W Γ m_X_gate mc ms 91 [(0, .ref 0), (1, .int x1), (2, .int x2), (3, .int x3), (4, .int x4)] [] sk_gg I' J' 0 0 Q)) ∧ (¬ (I 1 1) < 26 → (1 ≤ mc ∧ 6 ≤ ms) ∧ Q (.inr "java/lang/IllegalStateException") sk_gg I J)) : sk_W Γ m_X_gate mc ms 62 [(0, .ref 0), (1, .int x1), (2, .int x2), (3, .int x3), (4, .int x4)] [] sk_gg I J 0 0 Q := by
  refine sk_aload_n (j := 0) d_X_gate_62 rfl rfl ?_
  refine q_getR d_X_gate_63 fg_X_12 sh_0 rr_0_0 ?_
  refine q_getI d_X_gate_66 fg_X_65 sh_1 ?_
  refine sk_bipush (v := 26) d_X_gate_69 (by decide) ?_
  refine sk_icmp_lt (tgt := 84) d_X_gate_71 (by decide) (fun hc => ?_) (fun hc => ?_)
  · replace h := h.1 hc
    refine sk_aload_n (j := 0) d_X_gate_84 rfl rfl ?_
    refine q_getR d_X_gate_85 fg_X_53 sh_0 rr_0_5 ?_
    exact q_callVv (S := []) (as := []) d_X_gate_88 lk_X_60 sh_38 ⟨_, rfl⟩ rfl ⟨by decide, by decide⟩ (Nat.le_of_ble_eq_true rfl) rfl (Nat.zero_le _) (Nat.zero_le _) h
  · replace h := h.2 hc
    exact q_throw d_X_gate_74 d_X_gate_77 d_X_gate_78 d_X_gate_80 d_X_gate_83 rfl th_68_93_72 rfl ⟨by decide, by decide⟩ (Nat.le_of_ble_eq_true rfl) (by omega) h.2
theorem s_X_gate_91 {Γ : sk_T} {mc ms : Nat} {I : sk_I} {J : sk_J} {Q : sk_Q} {x1 : Int32} {x2 : Int32} {x3 : Int32} {x4 : Int32} (h : sk_S Γ m_C_addGate 0 0 (.ref 1 :: [.int x1, .int x2, .int x3, .int x4]) sk_gg I J (sk_Ki fun v' I' J' => sk_W Γ m_X_gate mc ms 103 [] [.int v'] sk_gg I' J' 0 0 Q)) : sk_W Γ m_X_gate mc ms 91 [(0, .ref 0), (1, .int x1), (2, .int x2), (3, .int x3), (4, .int x4)] [] sk_gg I J 0 0 Q := by
  refine sk_aload_n (j := 0) d_X_gate_91 rfl rfl ?_
  refine q_getR d_X_gate_92 fg_X_12 sh_0 rr_0_0 ?_
  refine sk_iload_n (j := 1) d_X_gate_95 rfl rfl ?_
  refine sk_iload_n (j := 2) d_X_gate_96 rfl rfl ?_
  refine sk_iload_n (j := 3) d_X_gate_97 rfl rfl ?_
  refine sk_iload (j := 4) d_X_gate_98 rfl ?_
  refine sk_loc [] rfl ?_
  exact q_callVi (S := []) (as := [.int x1, .int x2, .int x3, .int x4]) d_X_gate_100 lk_X_95 sh_1 ⟨_, rfl⟩ rfl ⟨by decide, by decide⟩ (Nat.le_of_ble_eq_true rfl) rfl (Nat.zero_le _) (Nat.zero_le _) h
theorem s_X_gate_103 {Γ : sk_T} {mc ms : Nat} {I : sk_I} {J : sk_J} {Q : sk_Q} {u0 : Int32} (h : Q (.inl (some (.int u0))) sk_gg I J) : sk_W Γ m_X_gate mc ms 103 [] [.int u0] sk_gg I J 0 0 Q := by
  exact sk_ireturn d_X_gate_103 rfl (Nat.zero_le _) (Nat.zero_le _) h
theorem s_X_requireLine_0 {Γ : sk_T} {mc ms : Nat} {I : sk_I} {J : sk_J} {Q : sk_Q} {x1 : Int32} (h : sk_S Γ m_C_hasLine 0 0 (.ref 1 :: [.int x1]) sk_gg I J (sk_Ki fun v' I' J' => sk_W Γ m_X_requireLine mc ms 8 [] [.int v'] sk_gg I' J' 0 0 Q)) : sk_W Γ m_X_requireLine mc ms 0 [(0, .ref 0), (1, .int x1)] [] sk_gg I J 0 0 Q := by
  refine sk_aload_n (j := 0) d_X_requireLine_0 rfl rfl ?_
  refine q_getR d_X_requireLine_1 fg_X_12 sh_0 rr_0_0 ?_
  refine sk_iload_n (j := 1) d_X_requireLine_4 rfl rfl ?_
  refine sk_loc [] rfl ?_
  exact q_callVi (S := []) (as := [.int x1]) d_X_requireLine_5 lk_X_159 sh_1 ⟨_, rfl⟩ rfl ⟨by decide, by decide⟩ (Nat.le_of_ble_eq_true rfl) rfl (Nat.zero_le _) (Nat.zero_le _) h
theorem s_X_requireLine_8 {Γ : sk_T} {mc ms : Nat} {I : sk_I} {J : sk_J} {Q : sk_Q} {u0 : Int32} (h : (¬ u0 = 0 → Q (.inl none) sk_gg I J) ∧ (u0 = 0 → (1 ≤ mc ∧ 6 ≤ ms) ∧ Q (.inr "java/lang/IndexOutOfBoundsException") sk_gg I J)) : sk_W Γ m_X_requireLine mc ms 8 [] [.int u0] sk_gg I J 0 0 Q := by
  refine sk_if_ne (tgt := 21) d_X_requireLine_8 (by decide) (fun hc => ?_) (fun hc => ?_)
  · replace h := h.1 hc
    exact sk_vreturn d_X_requireLine_21 rfl (Nat.zero_le _) (Nat.zero_le _) h
  · replace h := h.2 hc
    exact q_throw d_X_requireLine_11 d_X_requireLine_14 d_X_requireLine_15 d_X_requireLine_17 d_X_requireLine_20 rfl th_223_225_227 rfl ⟨by decide, by decide⟩ (Nat.le_of_ble_eq_true rfl) (by omega) h.2
theorem s_X_requireLineOrNone_0 {Γ : sk_T} {mc ms : Nat} {I : sk_I} {J : sk_J} {Q : sk_Q} {x1 : Int32} (h : (x1 = (-1) → sk_W Γ m_X_requireLineOrNone mc ms 10 [] [] sk_gg I J 0 0 Q) ∧ (¬ x1 = (-1) → (sk_S Γ m_X_requireLine 0 0 (.ref 0 :: [.int x1]) sk_gg I J (sk_Kv fun I' J' => sk_W Γ m_X_requireLineOrNone mc ms 10 [] [] sk_gg I' J' 0 0 Q)) ∨ ((1 ≤ mc ∧ 6 ≤ ms) ∧ sk_S Γ m_X_requireLine 1 6 (.ref 0 :: [.int x1]) sk_gg I J (sk_Kx fun E I' J' => Q (.inr E) sk_gg I' J')))) : sk_W Γ m_X_requireLineOrNone mc ms 0 [(0, .ref 0), (1, .int x1)] [] sk_gg I J 0 0 Q := by
  refine sk_iload_n (j := 1) d_X_requireLineOrNone_0 rfl rfl ?_
  refine sk_iconst (v := (-1)) d_X_requireLineOrNone_1 (by decide) ?_
  refine sk_icmp_eq (tgt := 10) d_X_requireLineOrNone_2 (by decide) (fun hc => ?_) (fun hc => ?_)
  · replace h := h.1 hc
    refine sk_loc [] rfl ?_
    exact h
  · replace h := h.2 hc
    refine sk_aload_n (j := 0) d_X_requireLineOrNone_5 rfl rfl ?_
    refine sk_iload_n (j := 1) d_X_requireLineOrNone_6 rfl rfl ?_
    refine sk_loc [] rfl ?_
    rcases h with h | ⟨hm, h⟩
    · exact q_callVv (S := []) (as := [.int x1]) d_X_requireLineOrNone_7 lk_X_86 sh_0 ⟨_, rfl⟩ rfl ⟨by decide, by decide⟩ (Nat.le_of_ble_eq_true rfl) rfl (Nat.zero_le _) (Nat.zero_le _) h
    · exact q_callVx (S := []) (as := [.int x1]) d_X_requireLineOrNone_7 lk_X_86 sh_0 ⟨_, rfl⟩ rfl ⟨by decide, by decide⟩ (Nat.le_of_ble_eq_true rfl) rfl (by omega) (sk_Smono h (fun r g I J hq => by obtain ⟨E, rfl, rfl, hq⟩ := hq; exact ⟨E, rfl, rfl, sk_xout rfl (by omega) (by omega) hq⟩))
theorem s_X_requireLineOrNone_10 {Γ : sk_T} {mc ms : Nat} {I : sk_I} {J : sk_J} {Q : sk_Q}  (h : Q (.inl none) sk_gg I J) : sk_W Γ m_X_requireLineOrNone mc ms 10 [] [] sk_gg I J 0 0 Q := by
  exact sk_vreturn d_X_requireLineOrNone_10 rfl (Nat.zero_le _) (Nat.zero_le _) h
theorem s_X_output_0 {Γ : sk_T} {mc ms : Nat} {I : sk_I} {J : sk_J} {Q : sk_Q} {x1 : Int32} (h : (sk_S Γ m_X_requireLine 0 0 (.ref 0 :: [.int x1]) sk_gg I J (sk_Kv fun I' J' => sk_W Γ m_X_output mc ms 5 [(0, .ref 0), (1, .int x1)] [] sk_gg I' J' 0 0 Q)) ∨ ((1 ≤ mc ∧ 6 ≤ ms) ∧ sk_S Γ m_X_requireLine 1 6 (.ref 0 :: [.int x1]) sk_gg I J (sk_Kx fun E I' J' => Q (.inr E) sk_gg I' J'))) : sk_W Γ m_X_output mc ms 0 [(0, .ref 0), (1, .int x1)] [] sk_gg I J 0 0 Q := by
  refine sk_aload_n (j := 0) d_X_output_0 rfl rfl ?_
  refine sk_iload_n (j := 1) d_X_output_1 rfl rfl ?_
  rcases h with h | ⟨hm, h⟩
  · exact q_callVv (S := []) (as := [.int x1]) d_X_output_2 lk_X_86 sh_0 ⟨_, rfl⟩ rfl ⟨by decide, by decide⟩ (Nat.le_of_ble_eq_true rfl) rfl (Nat.zero_le _) (Nat.zero_le _) h
  · exact q_callVx (S := []) (as := [.int x1]) d_X_output_2 lk_X_86 sh_0 ⟨_, rfl⟩ rfl ⟨by decide, by decide⟩ (Nat.le_of_ble_eq_true rfl) rfl (by omega) (sk_Smono h (fun r g I J hq => by obtain ⟨E, rfl, rfl, hq⟩ := hq; exact ⟨E, rfl, rfl, sk_xout rfl (by omega) (by omega) hq⟩))
theorem s_X_output_5 {Γ : sk_T} {mc ms : Nat} {I : sk_I} {J : sk_J} {Q : sk_Q} {x1 : Int32} (h : sk_S Γ m_C_isOutput 0 0 (.ref 1 :: [.int x1]) sk_gg I J (sk_Ki fun v' I' J' => sk_W Γ m_X_output mc ms 13 [(0, .ref 0), (1, .int x1)] [.int v'] sk_gg I' J' 0 0 Q)) : sk_W Γ m_X_output mc ms 5 [(0, .ref 0), (1, .int x1)] [] sk_gg I J 0 0 Q := by
  refine sk_aload_n (j := 0) d_X_output_5 rfl rfl ?_
  refine q_getR d_X_output_6 fg_X_12 sh_0 rr_0_0 ?_
  refine sk_iload_n (j := 1) d_X_output_9 rfl rfl ?_
  exact q_callVi (S := []) (as := [.int x1]) d_X_output_10 lk_X_99 sh_1 ⟨_, rfl⟩ rfl ⟨by decide, by decide⟩ (Nat.le_of_ble_eq_true rfl) rfl (Nat.zero_le _) (Nat.zero_le _) h
theorem s_X_output_13 {Γ : sk_T} {mc ms : Nat} {I : sk_I} {J : sk_J} {Q : sk_Q} {x1 : Int32} {u0 : Int32} (h : (¬ u0 = 0 → (1 ≤ mc ∧ 6 ≤ ms) ∧ Q (.inr "java/lang/IllegalStateException") sk_gg I J) ∧ (u0 = 0 → ((I 1 3) < 6 → sk_S Γ m_G_removeAll 0 0 (.ref 38 :: []) sk_gg I J (sk_Kv fun I' J' => sk_W Γ m_X_output mc ms 45 [(0, .ref 0), (1, .int x1)] [] sk_gg I' J' 0 0 Q)) ∧ (¬ (I 1 3) < 6 → (1 ≤ mc ∧ 6 ≤ ms) ∧ Q (.inr "java/lang/IllegalStateException") sk_gg I J))) : sk_W Γ m_X_output mc ms 13 [(0, .ref 0), (1, .int x1)] [.int u0] sk_gg I J 0 0 Q := by
  refine sk_if_ne (tgt := 28) d_X_output_13 (by decide) (fun hc => ?_) (fun hc => ?_)
  · replace h := h.1 hc
    exact q_throw d_X_output_28 d_X_output_31 d_X_output_32 d_X_output_34 d_X_output_37 rfl th_68_106_72 rfl ⟨by decide, by decide⟩ (Nat.le_of_ble_eq_true rfl) (by omega) h.2
  · replace h := h.2 hc
    refine sk_aload_n (j := 0) d_X_output_16 rfl rfl ?_
    refine q_getR d_X_output_17 fg_X_12 sh_0 rr_0_0 ?_
    refine q_getI d_X_output_20 fg_X_103 sh_1 ?_
    refine sk_bipush (v := 6) d_X_output_23 (by decide) ?_
    refine sk_icmp_lt (tgt := 38) d_X_output_25 (by decide) (fun hc => ?_) (fun hc => ?_)
    · replace h := h.1 hc
      refine sk_aload_n (j := 0) d_X_output_38 rfl rfl ?_
      refine q_getR d_X_output_39 fg_X_53 sh_0 rr_0_5 ?_
      exact q_callVv (S := []) (as := []) d_X_output_42 lk_X_60 sh_38 ⟨_, rfl⟩ rfl ⟨by decide, by decide⟩ (Nat.le_of_ble_eq_true rfl) rfl (Nat.zero_le _) (Nat.zero_le _) h
    · replace h := h.2 hc
      exact q_throw d_X_output_28 d_X_output_31 d_X_output_32 d_X_output_34 d_X_output_37 rfl th_68_106_72 rfl ⟨by decide, by decide⟩ (Nat.le_of_ble_eq_true rfl) (by omega) h.2
theorem s_X_output_45 {Γ : sk_T} {mc ms : Nat} {I : sk_I} {J : sk_J} {Q : sk_Q} {x1 : Int32} (h : sk_S Γ m_C_addOutput 0 0 (.ref 1 :: [.int x1]) sk_gg I J (sk_Ki fun v' I' J' => sk_W Γ m_X_output mc ms 53 [] [.int v'] sk_gg I' J' 0 0 Q)) : sk_W Γ m_X_output mc ms 45 [(0, .ref 0), (1, .int x1)] [] sk_gg I J 0 0 Q := by
  refine sk_aload_n (j := 0) d_X_output_45 rfl rfl ?_
  refine q_getR d_X_output_46 fg_X_12 sh_0 rr_0_0 ?_
  refine sk_iload_n (j := 1) d_X_output_49 rfl rfl ?_
  refine sk_loc [] rfl ?_
  exact q_callVi (S := []) (as := [.int x1]) d_X_output_50 lk_X_108 sh_1 ⟨_, rfl⟩ rfl ⟨by decide, by decide⟩ (Nat.le_of_ble_eq_true rfl) rfl (Nat.zero_le _) (Nat.zero_le _) h
theorem s_X_output_53 {Γ : sk_T} {mc ms : Nat} {I : sk_I} {J : sk_J} {Q : sk_Q} {u0 : Int32} (h : Q (.inl (some (.int u0))) sk_gg I J) : sk_W Γ m_X_output mc ms 53 [] [.int u0] sk_gg I J 0 0 Q := by
  exact sk_ireturn d_X_output_53 rfl (Nat.zero_le _) (Nat.zero_le _) h
theorem s_X_data_0 {Γ : sk_T} {mc ms : Nat} {I : sk_I} {J : sk_J} {Q : sk_Q} {x1 : Int32} {x2 : Int32} (h : (sk_S Γ m_X_requireLine 0 0 (.ref 0 :: [.int x1]) sk_gg I J (sk_Kv fun I' J' => sk_W Γ m_X_data mc ms 5 [(0, .ref 0), (1, .int x1), (2, .int x2)] [] sk_gg I' J' 0 0 Q)) ∨ ((1 ≤ mc ∧ 6 ≤ ms) ∧ sk_S Γ m_X_requireLine 1 6 (.ref 0 :: [.int x1]) sk_gg I J (sk_Kx fun E I' J' => Q (.inr E) sk_gg I' J'))) : sk_W Γ m_X_data mc ms 0 [(0, .ref 0), (1, .int x1), (2, .int x2)] [] sk_gg I J 0 0 Q := by
  refine sk_aload_n (j := 0) d_X_data_0 rfl rfl ?_
  refine sk_iload_n (j := 1) d_X_data_1 rfl rfl ?_
  rcases h with h | ⟨hm, h⟩
  · exact q_callVv (S := []) (as := [.int x1]) d_X_data_2 lk_X_86 sh_0 ⟨_, rfl⟩ rfl ⟨by decide, by decide⟩ (Nat.le_of_ble_eq_true rfl) rfl (Nat.zero_le _) (Nat.zero_le _) h
  · exact q_callVx (S := []) (as := [.int x1]) d_X_data_2 lk_X_86 sh_0 ⟨_, rfl⟩ rfl ⟨by decide, by decide⟩ (Nat.le_of_ble_eq_true rfl) rfl (by omega) (sk_Smono h (fun r g I J hq => by obtain ⟨E, rfl, rfl, hq⟩ := hq; exact ⟨E, rfl, rfl, sk_xout rfl (by omega) (by omega) hq⟩))
theorem s_X_data_5 {Γ : sk_T} {mc ms : Nat} {I : sk_I} {J : sk_J} {Q : sk_Q} {x1 : Int32} {x2 : Int32} (h : (sk_S Γ m_X_requireLine 0 0 (.ref 0 :: [.int x2]) sk_gg I J (sk_Kv fun I' J' => sk_W Γ m_X_data mc ms 10 [(0, .ref 0), (1, .int x1), (2, .int x2)] [] sk_gg I' J' 0 0 Q)) ∨ ((1 ≤ mc ∧ 6 ≤ ms) ∧ sk_S Γ m_X_requireLine 1 6 (.ref 0 :: [.int x2]) sk_gg I J (sk_Kx fun E I' J' => Q (.inr E) sk_gg I' J'))) : sk_W Γ m_X_data mc ms 5 [(0, .ref 0), (1, .int x1), (2, .int x2)] [] sk_gg I J 0 0 Q := by
  refine sk_aload_n (j := 0) d_X_data_5 rfl rfl ?_
  refine sk_iload_n (j := 2) d_X_data_6 rfl rfl ?_
  rcases h with h | ⟨hm, h⟩
  · exact q_callVv (S := []) (as := [.int x2]) d_X_data_7 lk_X_86 sh_0 ⟨_, rfl⟩ rfl ⟨by decide, by decide⟩ (Nat.le_of_ble_eq_true rfl) rfl (Nat.zero_le _) (Nat.zero_le _) h
  · exact q_callVx (S := []) (as := [.int x2]) d_X_data_7 lk_X_86 sh_0 ⟨_, rfl⟩ rfl ⟨by decide, by decide⟩ (Nat.le_of_ble_eq_true rfl) rfl (by omega) (sk_Smono h (fun r g I J hq => by obtain ⟨E, rfl, rfl, hq⟩ := hq; exact ⟨E, rfl, rfl, sk_xout rfl (by omega) (by omega) hq⟩))
theorem s_X_data_10 {Γ : sk_T} {mc ms : Nat} {I : sk_I} {J : sk_J} {Q : sk_Q} {x1 : Int32} {x2 : Int32} (h : vp_in x1 26 ∧ (¬ (I 4 x1.toNatClampNeg) = 0 → sk_S Γ m_G_removeAll 0 0 (.ref 38 :: []) sk_gg I J (sk_Kv fun I' J' => sk_W Γ m_X_data mc ms 39 [(0, .ref 0), (1, .int x1), (2, .int x2)] [] sk_gg I' J' 0 0 Q)) ∧ ((I 4 x1.toNatClampNeg) = 0 → (1 ≤ mc ∧ 6 ≤ ms) ∧ Q (.inr "java/lang/IllegalArgumentException") sk_gg I J)) : sk_W Γ m_X_data mc ms 10 [(0, .ref 0), (1, .int x1), (2, .int x2)] [] sk_gg I J 0 0 Q := by
  refine sk_aload_n (j := 0) d_X_data_10 rfl rfl ?_
  refine q_getR d_X_data_11 fg_X_12 sh_0 rr_0_0 ?_
  refine q_getR d_X_data_14 fg_X_112 sh_1 rr_1_8 ?_
  refine sk_iload_n (j := 1) d_X_data_17 rfl rfl ?_
  obtain ⟨hb, h⟩ := h
  refine sk_zald d_X_data_18 sh_4 hb ?_
  refine sk_if_ne (tgt := 32) d_X_data_19 (by decide) (fun hc => ?_) (fun hc => ?_)
  · replace h := h.1 hc
    refine sk_aload_n (j := 0) d_X_data_32 rfl rfl ?_
    refine q_getR d_X_data_33 fg_X_53 sh_0 rr_0_5 ?_
    exact q_callVv (S := []) (as := []) d_X_data_36 lk_X_60 sh_38 ⟨_, rfl⟩ rfl ⟨by decide, by decide⟩ (Nat.le_of_ble_eq_true rfl) rfl (Nat.zero_le _) (Nat.zero_le _) h
  · replace h := h.2 hc
    exact q_throw d_X_data_22 d_X_data_25 d_X_data_26 d_X_data_28 d_X_data_31 rfl th_79_116_83 rfl ⟨by decide, by decide⟩ (Nat.le_of_ble_eq_true rfl) (by omega) h.2
theorem s_X_data_39 {Γ : sk_T} {mc ms : Nat} {I : sk_I} {J : sk_J} {Q : sk_Q} {x1 : Int32} {x2 : Int32} (h : sk_S Γ m_C_connectData 0 0 (.ref 1 :: [.int x1, .int x2]) sk_gg I J (sk_Kv fun I' J' => sk_W Γ m_X_data mc ms 48 [] [] sk_gg I' J' 0 0 Q)) : sk_W Γ m_X_data mc ms 39 [(0, .ref 0), (1, .int x1), (2, .int x2)] [] sk_gg I J 0 0 Q := by
  refine sk_aload_n (j := 0) d_X_data_39 rfl rfl ?_
  refine q_getR d_X_data_40 fg_X_12 sh_0 rr_0_0 ?_
  refine sk_iload_n (j := 1) d_X_data_43 rfl rfl ?_
  refine sk_iload_n (j := 2) d_X_data_44 rfl rfl ?_
  refine sk_loc [] rfl ?_
  exact q_callVv (S := []) (as := [.int x1, .int x2]) d_X_data_45 lk_X_118 sh_1 ⟨_, rfl⟩ rfl ⟨by decide, by decide⟩ (Nat.le_of_ble_eq_true rfl) rfl (Nat.zero_le _) (Nat.zero_le _) h
theorem s_X_data_48 {Γ : sk_T} {mc ms : Nat} {I : sk_I} {J : sk_J} {Q : sk_Q}  (h : Q (.inl none) sk_gg I J) : sk_W Γ m_X_data mc ms 48 [] [] sk_gg I J 0 0 Q := by
  exact sk_vreturn d_X_data_48 rfl (Nat.zero_le _) (Nat.zero_le _) h
theorem s_X_count_0 {Γ : sk_T} {mc ms : Nat} {I : sk_I} {J : sk_J} {Q : sk_Q} {x1 : Int32} (h : (x1 = 0 → Q (.inl (some (.int (I 1 1)))) sk_gg I J) ∧ (x1 = 1 → Q (.inl (some (.int (I 1 2)))) sk_gg I J) ∧ (x1 = 2 → Q (.inl (some (.int (I 1 4)))) sk_gg I J) ∧ (x1 = 3 → sk_S Γ m_C_faults 0 0 (.ref 1 :: []) sk_gg I J (sk_Ki fun v' I' J' => sk_W Γ m_X_count mc ms 71 [] [.int v'] sk_gg I' J' 0 0 Q)) ∧ (x1 = 4 → sk_S Γ m_R_prepareAll 0 0 (.ref 16 :: []) sk_gg I J (sk_Kv fun I' J' => sk_W Γ m_X_count mc ms 79 [(0, .ref 0)] [] sk_gg I' J' 0 0 Q)) ∧ (x1 = 5 → sk_S Γ m_R_prepareAll 0 0 (.ref 16 :: []) sk_gg I J (sk_Kv fun I' J' => sk_W Γ m_X_count mc ms 94 [(0, .ref 0)] [] sk_gg I' J' 0 0 Q)) ∧ (¬ x1 = 0 → ¬ x1 = 1 → ¬ x1 = 2 → ¬ x1 = 3 → ¬ x1 = 4 → ¬ x1 = 5 → (1 ≤ mc ∧ 6 ≤ ms) ∧ Q (.inr "java/lang/IllegalArgumentException") sk_gg I J)) : sk_W Γ m_X_count mc ms 0 [(0, .ref 0), (1, .int x1)] [] sk_gg I J 0 0 Q := by
  refine sk_iload_n (j := 1) d_X_count_0 rfl rfl ?_
  by_cases hc0 : x1 = 0
  · replace h := h.1 hc0
    rw [hc0]
    refine sk_tableIn (tgt := 40) (off := 39) d_X_count_1 (by decide) (by decide) rfl (by decide) ?_
    refine sk_aload_n (j := 0) d_X_count_40 rfl rfl ?_
    refine q_getR d_X_count_41 fg_X_12 sh_0 rr_0_0 ?_
    refine q_getI d_X_count_44 fg_X_65 sh_1 ?_
    exact sk_ireturn d_X_count_47 rfl (Nat.zero_le _) (Nat.zero_le _) h
  by_cases hc1 : x1 = 1
  · replace h := h.2.1 hc1
    rw [hc1]
    refine sk_tableIn (tgt := 48) (off := 47) d_X_count_1 (by decide) (by decide) rfl (by decide) ?_
    refine sk_aload_n (j := 0) d_X_count_48 rfl rfl ?_
    refine q_getR d_X_count_49 fg_X_12 sh_0 rr_0_0 ?_
    refine q_getI d_X_count_52 fg_X_61 sh_1 ?_
    exact sk_ireturn d_X_count_55 rfl (Nat.zero_le _) (Nat.zero_le _) h
  by_cases hc2 : x1 = 2
  · replace h := h.2.2.1 hc2
    rw [hc2]
    refine sk_tableIn (tgt := 56) (off := 55) d_X_count_1 (by decide) (by decide) rfl (by decide) ?_
    refine sk_aload_n (j := 0) d_X_count_56 rfl rfl ?_
    refine q_getR d_X_count_57 fg_X_12 sh_0 rr_0_0 ?_
    refine q_getI d_X_count_60 fg_X_122 sh_1 ?_
    exact sk_ireturn d_X_count_63 rfl (Nat.zero_le _) (Nat.zero_le _) h
  by_cases hc3 : x1 = 3
  · replace h := h.2.2.2.1 hc3
    rw [hc3]
    refine sk_tableIn (tgt := 64) (off := 63) d_X_count_1 (by decide) (by decide) rfl (by decide) ?_
    refine sk_aload_n (j := 0) d_X_count_64 rfl rfl ?_
    refine q_getR d_X_count_65 fg_X_12 sh_0 rr_0_0 ?_
    refine sk_loc [] rfl ?_
    exact q_callVi (S := []) (as := []) d_X_count_68 lk_X_125 sh_1 ⟨_, rfl⟩ rfl ⟨by decide, by decide⟩ (Nat.le_of_ble_eq_true rfl) rfl (Nat.zero_le _) (Nat.zero_le _) h
  by_cases hc4 : x1 = 4
  · replace h := h.2.2.2.2.1 hc4
    rw [hc4]
    refine sk_tableIn (tgt := 72) (off := 71) d_X_count_1 (by decide) (by decide) rfl (by decide) ?_
    refine sk_aload_n (j := 0) d_X_count_72 rfl rfl ?_
    refine q_getR d_X_count_73 fg_X_28 sh_0 rr_0_2 ?_
    refine sk_loc [0] rfl ?_
    exact q_callVv (S := []) (as := []) d_X_count_76 lk_X_129 sh_16 ⟨_, rfl⟩ rfl ⟨by decide, by decide⟩ (Nat.le_of_ble_eq_true rfl) rfl (Nat.zero_le _) (Nat.zero_le _) h
  by_cases hc5 : x1 = 5
  · replace h := h.2.2.2.2.2.1 hc5
    rw [hc5]
    refine sk_tableIn (tgt := 87) (off := 86) d_X_count_1 (by decide) (by decide) rfl (by decide) ?_
    refine sk_aload_n (j := 0) d_X_count_87 rfl rfl ?_
    refine q_getR d_X_count_88 fg_X_28 sh_0 rr_0_2 ?_
    refine sk_loc [0] rfl ?_
    exact q_callVv (S := []) (as := []) d_X_count_91 lk_X_129 sh_16 ⟨_, rfl⟩ rfl ⟨by decide, by decide⟩ (Nat.le_of_ble_eq_true rfl) rfl (Nat.zero_le _) (Nat.zero_le _) h
  replace h := h.2.2.2.2.2.2 hc0 hc1 hc2 hc3 hc4 hc5
  refine sk_tableOut (tgt := 102) d_X_count_1 (sk_swOut6 hc0 hc1 hc2 hc3 hc4 hc5) (by decide) ?_
  exact q_throw d_X_count_102 d_X_count_105 d_X_count_106 d_X_count_108 d_X_count_111 rfl th_79_138_83 rfl ⟨by decide, by decide⟩ (Nat.le_of_ble_eq_true rfl) (by omega) h.2
theorem s_X_count_71 {Γ : sk_T} {mc ms : Nat} {I : sk_I} {J : sk_J} {Q : sk_Q} {u0 : Int32} (h : Q (.inl (some (.int u0))) sk_gg I J) : sk_W Γ m_X_count mc ms 71 [] [.int u0] sk_gg I J 0 0 Q := by
  exact sk_ireturn d_X_count_71 rfl (Nat.zero_le _) (Nat.zero_le _) h
theorem s_X_count_79 {Γ : sk_T} {mc ms : Nat} {I : sk_I} {J : sk_J} {Q : sk_Q}  (h : sk_S Γ m_R_shownFaults 0 0 (.ref 16 :: []) sk_gg I J (sk_Ki fun v' I' J' => sk_W Γ m_X_count mc ms 86 [] [.int v'] sk_gg I' J' 0 0 Q)) : sk_W Γ m_X_count mc ms 79 [(0, .ref 0)] [] sk_gg I J 0 0 Q := by
  refine sk_aload_n (j := 0) d_X_count_79 rfl rfl ?_
  refine q_getR d_X_count_80 fg_X_28 sh_0 rr_0_2 ?_
  refine sk_loc [] rfl ?_
  exact q_callVi (S := []) (as := []) d_X_count_83 lk_X_132 sh_16 ⟨_, rfl⟩ rfl ⟨by decide, by decide⟩ (Nat.le_of_ble_eq_true rfl) rfl (Nat.zero_le _) (Nat.zero_le _) h
theorem s_X_count_86 {Γ : sk_T} {mc ms : Nat} {I : sk_I} {J : sk_J} {Q : sk_Q} {u0 : Int32} (h : Q (.inl (some (.int u0))) sk_gg I J) : sk_W Γ m_X_count mc ms 86 [] [.int u0] sk_gg I J 0 0 Q := by
  exact sk_ireturn d_X_count_86 rfl (Nat.zero_le _) (Nat.zero_le _) h
theorem s_X_count_94 {Γ : sk_T} {mc ms : Nat} {I : sk_I} {J : sk_J} {Q : sk_Q}  (h : sk_S Γ m_R_classesOfAlike 0 0 (.ref 16 :: []) sk_gg I J (sk_Ki fun v' I' J' => sk_W Γ m_X_count mc ms 101 [] [.int v'] sk_gg I' J' 0 0 Q)) : sk_W Γ m_X_count mc ms 94 [(0, .ref 0)] [] sk_gg I J 0 0 Q := by
  refine sk_aload_n (j := 0) d_X_count_94 rfl rfl ?_
  refine q_getR d_X_count_95 fg_X_28 sh_0 rr_0_2 ?_
  refine sk_loc [] rfl ?_
  exact q_callVi (S := []) (as := []) d_X_count_98 lk_X_135 sh_16 ⟨_, rfl⟩ rfl ⟨by decide, by decide⟩ (Nat.le_of_ble_eq_true rfl) rfl (Nat.zero_le _) (Nat.zero_le _) h
theorem s_X_count_101 {Γ : sk_T} {mc ms : Nat} {I : sk_I} {J : sk_J} {Q : sk_Q} {u0 : Int32} (h : Q (.inl (some (.int u0))) sk_gg I J) : sk_W Γ m_X_count mc ms 101 [] [.int u0] sk_gg I J 0 0 Q := by
  exact sk_ireturn d_X_count_101 rfl (Nat.zero_le _) (Nat.zero_le _) h
theorem s_X_value_0 {Γ : sk_T} {mc ms : Nat} {I : sk_I} {J : sk_J} {Q : sk_Q} {x1 : Int32} {x2 : Int32} {x3 : Int32} (h : (sk_S Γ m_X_requireLine 0 0 (.ref 0 :: [.int x2]) sk_gg I J (sk_Kv fun I' J' => sk_W Γ m_X_value mc ms 5 [(0, .ref 0), (1, .int x1), (2, .int x2), (3, .int x3)] [] sk_gg I' J' 0 0 Q)) ∨ ((1 ≤ mc ∧ 6 ≤ ms) ∧ sk_S Γ m_X_requireLine 1 6 (.ref 0 :: [.int x2]) sk_gg I J (sk_Kx fun E I' J' => Q (.inr E) sk_gg I' J'))) : sk_W Γ m_X_value mc ms 0 [(0, .ref 0), (1, .int x1), (2, .int x2), (3, .int x3)] [] sk_gg I J 0 0 Q := by
  refine sk_aload_n (j := 0) d_X_value_0 rfl rfl ?_
  refine sk_iload_n (j := 2) d_X_value_1 rfl rfl ?_
  rcases h with h | ⟨hm, h⟩
  · exact q_callVv (S := []) (as := [.int x2]) d_X_value_2 lk_X_86 sh_0 ⟨_, rfl⟩ rfl ⟨by decide, by decide⟩ (Nat.le_of_ble_eq_true rfl) rfl (Nat.zero_le _) (Nat.zero_le _) h
  · exact q_callVx (S := []) (as := [.int x2]) d_X_value_2 lk_X_86 sh_0 ⟨_, rfl⟩ rfl ⟨by decide, by decide⟩ (Nat.le_of_ble_eq_true rfl) rfl (by omega) (sk_Smono h (fun r g I J hq => by obtain ⟨E, rfl, rfl, hq⟩ := hq; exact ⟨E, rfl, rfl, sk_xout rfl (by omega) (by omega) hq⟩))
theorem s_X_value_5 {Γ : sk_T} {mc ms : Nat} {I : sk_I} {J : sk_J} {Q : sk_Q} {x1 : Int32} {x2 : Int32} {x3 : Int32} (h : (sk_S Γ m_X_requireVector 0 0 (.ref 0 :: [.int x1]) sk_gg I J (sk_Kv fun I' J' => sk_W Γ m_X_value mc ms 10 [(0, .ref 0), (1, .int x1), (2, .int x2), (3, .int x3)] [] sk_gg I' J' 0 0 Q)) ∨ ((1 ≤ mc ∧ 6 ≤ ms) ∧ sk_S Γ m_X_requireVector 1 6 (.ref 0 :: [.int x1]) sk_gg I J (sk_Kx fun E I' J' => Q (.inr E) sk_gg I' J'))) : sk_W Γ m_X_value mc ms 5 [(0, .ref 0), (1, .int x1), (2, .int x2), (3, .int x3)] [] sk_gg I J 0 0 Q := by
  refine sk_aload_n (j := 0) d_X_value_5 rfl rfl ?_
  refine sk_iload_n (j := 1) d_X_value_6 rfl rfl ?_
  rcases h with h | ⟨hm, h⟩
  · exact q_callVv (S := []) (as := [.int x1]) d_X_value_7 lk_X_140 sh_0 ⟨_, rfl⟩ rfl ⟨by decide, by decide⟩ (Nat.le_of_ble_eq_true rfl) rfl (Nat.zero_le _) (Nat.zero_le _) h
  · exact q_callVx (S := []) (as := [.int x1]) d_X_value_7 lk_X_140 sh_0 ⟨_, rfl⟩ rfl ⟨by decide, by decide⟩ (Nat.le_of_ble_eq_true rfl) rfl (by omega) (sk_Smono h (fun r g I J hq => by obtain ⟨E, rfl, rfl, hq⟩ := hq; exact ⟨E, rfl, rfl, sk_xout rfl (by omega) (by omega) hq⟩))
theorem s_X_value_10 {Γ : sk_T} {mc ms : Nat} {I : sk_I} {J : sk_J} {Q : sk_Q} {x1 : Int32} {x2 : Int32} {x3 : Int32} (h : (sk_S Γ m_X_requireFaultOrNone 0 0 (.ref 0 :: [.int x3]) sk_gg I J (sk_Kv fun I' J' => sk_W Γ m_X_value mc ms 15 [(0, .ref 0), (1, .int x1), (2, .int x2), (3, .int x3)] [] sk_gg I' J' 0 0 Q)) ∨ ((1 ≤ mc ∧ 6 ≤ ms) ∧ sk_S Γ m_X_requireFaultOrNone 1 6 (.ref 0 :: [.int x3]) sk_gg I J (sk_Kx fun E I' J' => Q (.inr E) sk_gg I' J'))) : sk_W Γ m_X_value mc ms 10 [(0, .ref 0), (1, .int x1), (2, .int x2), (3, .int x3)] [] sk_gg I J 0 0 Q := by
  refine sk_aload_n (j := 0) d_X_value_10 rfl rfl ?_
  refine sk_iload_n (j := 3) d_X_value_11 rfl rfl ?_
  rcases h with h | ⟨hm, h⟩
  · exact q_callVv (S := []) (as := [.int x3]) d_X_value_12 lk_X_143 sh_0 ⟨_, rfl⟩ rfl ⟨by decide, by decide⟩ (Nat.le_of_ble_eq_true rfl) rfl (Nat.zero_le _) (Nat.zero_le _) h
  · exact q_callVx (S := []) (as := [.int x3]) d_X_value_12 lk_X_143 sh_0 ⟨_, rfl⟩ rfl ⟨by decide, by decide⟩ (Nat.le_of_ble_eq_true rfl) rfl (by omega) (sk_Smono h (fun r g I J hq => by obtain ⟨E, rfl, rfl, hq⟩ := hq; exact ⟨E, rfl, rfl, sk_xout rfl (by omega) (by omega) hq⟩))
theorem s_X_value_15 {Γ : sk_T} {mc ms : Nat} {I : sk_I} {J : sk_J} {Q : sk_Q} {x1 : Int32} {x2 : Int32} {x3 : Int32} (h : sk_S Γ m_S_settleVectors 0 0 (.ref 11 :: [.int x3]) sk_gg I J (sk_Kv fun I' J' => sk_W Γ m_X_value mc ms 23 [(0, .ref 0), (1, .int x1), (2, .int x2)] [] sk_gg I' J' 0 0 Q)) : sk_W Γ m_X_value mc ms 15 [(0, .ref 0), (1, .int x1), (2, .int x2), (3, .int x3)] [] sk_gg I J 0 0 Q := by
  refine sk_aload_n (j := 0) d_X_value_15 rfl rfl ?_
  refine q_getR d_X_value_16 fg_X_21 sh_0 rr_0_1 ?_
  refine sk_iload_n (j := 3) d_X_value_19 rfl rfl ?_
  refine sk_loc [0, 1, 2] rfl ?_
  exact q_callVv (S := []) (as := [.int x3]) d_X_value_20 lk_X_146 sh_11 ⟨_, rfl⟩ rfl ⟨by decide, by decide⟩ (Nat.le_of_ble_eq_true rfl) rfl (Nat.zero_le _) (Nat.zero_le _) h
theorem s_X_value_23 {Γ : sk_T} {mc ms : Nat} {I : sk_I} {J : sk_J} {Q : sk_Q} {x1 : Int32} {x2 : Int32} (h : sk_S Γ m_S_stateOf 0 0 (.ref 11 :: [.int x2, .int x1]) sk_gg I J (sk_Ki fun v' I' J' => sk_W Γ m_X_value mc ms 32 [] [.int v'] sk_gg I' J' 0 0 Q)) : sk_W Γ m_X_value mc ms 23 [(0, .ref 0), (1, .int x1), (2, .int x2)] [] sk_gg I J 0 0 Q := by
  refine sk_aload_n (j := 0) d_X_value_23 rfl rfl ?_
  refine q_getR d_X_value_24 fg_X_21 sh_0 rr_0_1 ?_
  refine sk_iload_n (j := 2) d_X_value_27 rfl rfl ?_
  refine sk_iload_n (j := 1) d_X_value_28 rfl rfl ?_
  refine sk_loc [] rfl ?_
  exact q_callVi (S := []) (as := [.int x2, .int x1]) d_X_value_29 lk_X_149 sh_11 ⟨_, rfl⟩ rfl ⟨by decide, by decide⟩ (Nat.le_of_ble_eq_true rfl) rfl (Nat.zero_le _) (Nat.zero_le _) h
theorem s_X_value_32 {Γ : sk_T} {mc ms : Nat} {I : sk_I} {J : sk_J} {Q : sk_Q} {u0 : Int32} (h : Q (.inl (some (.int u0))) sk_gg I J) : sk_W Γ m_X_value mc ms 32 [] [.int u0] sk_gg I J 0 0 Q := by
  exact sk_ireturn d_X_value_32 rfl (Nat.zero_le _) (Nat.zero_le _) h
theorem s_X_requireVector_0 {Γ : sk_T} {mc ms : Nat} {I : sk_I} {J : sk_J} {Q : sk_Q} {x1 : Int32} (h : (x1 < 0 → (1 ≤ mc ∧ 6 ≤ ms) ∧ Q (.inr "java/lang/IndexOutOfBoundsException") sk_gg I J) ∧ (¬ x1 < 0 → sk_S Γ m_C_vectors 0 0 (.ref 1 :: []) sk_gg I J (sk_Ki fun v' I' J' => sk_W Γ m_X_requireVector mc ms 12 [] [.int v', .int x1] sk_gg I' J' 0 0 Q))) : sk_W Γ m_X_requireVector mc ms 0 [(0, .ref 0), (1, .int x1)] [] sk_gg I J 0 0 Q := by
  refine sk_iload_n (j := 1) d_X_requireVector_0 rfl rfl ?_
  refine sk_if_lt (tgt := 15) d_X_requireVector_1 (by decide) (fun hc => ?_) (fun hc => ?_)
  · replace h := h.1 hc
    exact q_throw d_X_requireVector_15 d_X_requireVector_18 d_X_requireVector_19 d_X_requireVector_21 d_X_requireVector_24 rfl th_223_231_227 rfl ⟨by decide, by decide⟩ (Nat.le_of_ble_eq_true rfl) (by omega) h.2
  · replace h := h.2 hc
    refine sk_iload_n (j := 1) d_X_requireVector_4 rfl rfl ?_
    refine sk_aload_n (j := 0) d_X_requireVector_5 rfl rfl ?_
    refine q_getR d_X_requireVector_6 fg_X_12 sh_0 rr_0_0 ?_
    refine sk_loc [] rfl ?_
    exact q_callVi (S := [.int x1]) (as := []) d_X_requireVector_9 lk_X_228 sh_1 ⟨_, rfl⟩ rfl ⟨by decide, by decide⟩ (Nat.le_of_ble_eq_true rfl) rfl (Nat.zero_le _) (Nat.zero_le _) h
theorem s_X_requireVector_12 {Γ : sk_T} {mc ms : Nat} {I : sk_I} {J : sk_J} {Q : sk_Q} {u0 : Int32} {u1 : Int32} (h : (u0 < u1 → Q (.inl none) sk_gg I J) ∧ (¬ u0 < u1 → (1 ≤ mc ∧ 6 ≤ ms) ∧ Q (.inr "java/lang/IndexOutOfBoundsException") sk_gg I J)) : sk_W Γ m_X_requireVector mc ms 12 [] [.int u1, .int u0] sk_gg I J 0 0 Q := by
  refine sk_icmp_lt (tgt := 25) d_X_requireVector_12 (by decide) (fun hc => ?_) (fun hc => ?_)
  · replace h := h.1 hc
    exact sk_vreturn d_X_requireVector_25 rfl (Nat.zero_le _) (Nat.zero_le _) h
  · replace h := h.2 hc
    exact q_throw d_X_requireVector_15 d_X_requireVector_18 d_X_requireVector_19 d_X_requireVector_21 d_X_requireVector_24 rfl th_223_231_227 rfl ⟨by decide, by decide⟩ (Nat.le_of_ble_eq_true rfl) (by omega) h.2
theorem s_X_requireFaultOrNone_0 {Γ : sk_T} {mc ms : Nat} {I : sk_I} {J : sk_J} {Q : sk_Q} {x1 : Int32} (h : (x1 = (-1) → sk_W Γ m_X_requireFaultOrNone mc ms 10 [] [] sk_gg I J 0 0 Q) ∧ (¬ x1 = (-1) → (sk_S Γ m_X_requireFault 0 0 (.ref 0 :: [.int x1]) sk_gg I J (sk_Kv fun I' J' => sk_W Γ m_X_requireFaultOrNone mc ms 10 [] [] sk_gg I' J' 0 0 Q)) ∨ ((1 ≤ mc ∧ 6 ≤ ms) ∧ sk_S Γ m_X_requireFault 1 6 (.ref 0 :: [.int x1]) sk_gg I J (sk_Kx fun E I' J' => Q (.inr E) sk_gg I' J')))) : sk_W Γ m_X_requireFaultOrNone mc ms 0 [(0, .ref 0), (1, .int x1)] [] sk_gg I J 0 0 Q := by
  refine sk_iload_n (j := 1) d_X_requireFaultOrNone_0 rfl rfl ?_
  refine sk_iconst (v := (-1)) d_X_requireFaultOrNone_1 (by decide) ?_
  refine sk_icmp_eq (tgt := 10) d_X_requireFaultOrNone_2 (by decide) (fun hc => ?_) (fun hc => ?_)
  · replace h := h.1 hc
    refine sk_loc [] rfl ?_
    exact h
  · replace h := h.2 hc
    refine sk_aload_n (j := 0) d_X_requireFaultOrNone_5 rfl rfl ?_
    refine sk_iload_n (j := 1) d_X_requireFaultOrNone_6 rfl rfl ?_
    refine sk_loc [] rfl ?_
    rcases h with h | ⟨hm, h⟩
    · exact q_callVv (S := []) (as := [.int x1]) d_X_requireFaultOrNone_7 lk_X_169 sh_0 ⟨_, rfl⟩ rfl ⟨by decide, by decide⟩ (Nat.le_of_ble_eq_true rfl) rfl (Nat.zero_le _) (Nat.zero_le _) h
    · exact q_callVx (S := []) (as := [.int x1]) d_X_requireFaultOrNone_7 lk_X_169 sh_0 ⟨_, rfl⟩ rfl ⟨by decide, by decide⟩ (Nat.le_of_ble_eq_true rfl) rfl (by omega) (sk_Smono h (fun r g I J hq => by obtain ⟨E, rfl, rfl, hq⟩ := hq; exact ⟨E, rfl, rfl, sk_xout rfl (by omega) (by omega) hq⟩))
theorem s_X_requireFaultOrNone_10 {Γ : sk_T} {mc ms : Nat} {I : sk_I} {J : sk_J} {Q : sk_Q}  (h : Q (.inl none) sk_gg I J) : sk_W Γ m_X_requireFaultOrNone mc ms 10 [] [] sk_gg I J 0 0 Q := by
  exact sk_vreturn d_X_requireFaultOrNone_10 rfl (Nat.zero_le _) (Nat.zero_le _) h
theorem s_X_requireFault_0 {Γ : sk_T} {mc ms : Nat} {I : sk_I} {J : sk_J} {Q : sk_Q} {x1 : Int32} (h : (x1 < 0 → (1 ≤ mc ∧ 6 ≤ ms) ∧ Q (.inr "java/lang/IndexOutOfBoundsException") sk_gg I J) ∧ (¬ x1 < 0 → sk_S Γ m_C_faults 0 0 (.ref 1 :: []) sk_gg I J (sk_Ki fun v' I' J' => sk_W Γ m_X_requireFault mc ms 12 [] [.int v', .int x1] sk_gg I' J' 0 0 Q))) : sk_W Γ m_X_requireFault mc ms 0 [(0, .ref 0), (1, .int x1)] [] sk_gg I J 0 0 Q := by
  refine sk_iload_n (j := 1) d_X_requireFault_0 rfl rfl ?_
  refine sk_if_lt (tgt := 15) d_X_requireFault_1 (by decide) (fun hc => ?_) (fun hc => ?_)
  · replace h := h.1 hc
    exact q_throw d_X_requireFault_15 d_X_requireFault_18 d_X_requireFault_19 d_X_requireFault_21 d_X_requireFault_24 rfl th_223_233_227 rfl ⟨by decide, by decide⟩ (Nat.le_of_ble_eq_true rfl) (by omega) h.2
  · replace h := h.2 hc
    refine sk_iload_n (j := 1) d_X_requireFault_4 rfl rfl ?_
    refine sk_aload_n (j := 0) d_X_requireFault_5 rfl rfl ?_
    refine q_getR d_X_requireFault_6 fg_X_12 sh_0 rr_0_0 ?_
    refine sk_loc [] rfl ?_
    exact q_callVi (S := [.int x1]) (as := []) d_X_requireFault_9 lk_X_125 sh_1 ⟨_, rfl⟩ rfl ⟨by decide, by decide⟩ (Nat.le_of_ble_eq_true rfl) rfl (Nat.zero_le _) (Nat.zero_le _) h
theorem s_X_requireFault_12 {Γ : sk_T} {mc ms : Nat} {I : sk_I} {J : sk_J} {Q : sk_Q} {u0 : Int32} {u1 : Int32} (h : (u0 < u1 → Q (.inl none) sk_gg I J) ∧ (¬ u0 < u1 → (1 ≤ mc ∧ 6 ≤ ms) ∧ Q (.inr "java/lang/IndexOutOfBoundsException") sk_gg I J)) : sk_W Γ m_X_requireFault mc ms 12 [] [.int u1, .int u0] sk_gg I J 0 0 Q := by
  refine sk_icmp_lt (tgt := 25) d_X_requireFault_12 (by decide) (fun hc => ?_) (fun hc => ?_)
  · replace h := h.1 hc
    exact sk_vreturn d_X_requireFault_25 rfl (Nat.zero_le _) (Nat.zero_le _) h
  · replace h := h.2 hc
    exact q_throw d_X_requireFault_15 d_X_requireFault_18 d_X_requireFault_19 d_X_requireFault_21 d_X_requireFault_24 rfl th_223_233_227 rfl ⟨by decide, by decide⟩ (Nat.le_of_ble_eq_true rfl) (by omega) h.2
theorem s_X_response_0 {Γ : sk_T} {mc ms : Nat} {I : sk_I} {J : sk_J} {Q : sk_Q} {x1 : Int32} {x2 : Int32} (h : (sk_S Γ m_X_requireVector 0 0 (.ref 0 :: [.int x1]) sk_gg I J (sk_Kv fun I' J' => sk_W Γ m_X_response mc ms 5 [(0, .ref 0), (1, .int x1), (2, .int x2)] [] sk_gg I' J' 0 0 Q)) ∨ ((1 ≤ mc ∧ 6 ≤ ms) ∧ sk_S Γ m_X_requireVector 1 6 (.ref 0 :: [.int x1]) sk_gg I J (sk_Kx fun E I' J' => Q (.inr E) sk_gg I' J'))) : sk_W Γ m_X_response mc ms 0 [(0, .ref 0), (1, .int x1), (2, .int x2)] [] sk_gg I J 0 0 Q := by
  refine sk_aload_n (j := 0) d_X_response_0 rfl rfl ?_
  refine sk_iload_n (j := 1) d_X_response_1 rfl rfl ?_
  rcases h with h | ⟨hm, h⟩
  · exact q_callVv (S := []) (as := [.int x1]) d_X_response_2 lk_X_140 sh_0 ⟨_, rfl⟩ rfl ⟨by decide, by decide⟩ (Nat.le_of_ble_eq_true rfl) rfl (Nat.zero_le _) (Nat.zero_le _) h
  · exact q_callVx (S := []) (as := [.int x1]) d_X_response_2 lk_X_140 sh_0 ⟨_, rfl⟩ rfl ⟨by decide, by decide⟩ (Nat.le_of_ble_eq_true rfl) rfl (by omega) (sk_Smono h (fun r g I J hq => by obtain ⟨E, rfl, rfl, hq⟩ := hq; exact ⟨E, rfl, rfl, sk_xout rfl (by omega) (by omega) hq⟩))
theorem s_X_response_5 {Γ : sk_T} {mc ms : Nat} {I : sk_I} {J : sk_J} {Q : sk_Q} {x1 : Int32} {x2 : Int32} (h : (sk_S Γ m_X_requireFaultOrNone 0 0 (.ref 0 :: [.int x2]) sk_gg I J (sk_Kv fun I' J' => sk_W Γ m_X_response mc ms 10 [(0, .ref 0), (1, .int x1), (2, .int x2)] [] sk_gg I' J' 0 0 Q)) ∨ ((1 ≤ mc ∧ 6 ≤ ms) ∧ sk_S Γ m_X_requireFaultOrNone 1 6 (.ref 0 :: [.int x2]) sk_gg I J (sk_Kx fun E I' J' => Q (.inr E) sk_gg I' J'))) : sk_W Γ m_X_response mc ms 5 [(0, .ref 0), (1, .int x1), (2, .int x2)] [] sk_gg I J 0 0 Q := by
  refine sk_aload_n (j := 0) d_X_response_5 rfl rfl ?_
  refine sk_iload_n (j := 2) d_X_response_6 rfl rfl ?_
  rcases h with h | ⟨hm, h⟩
  · exact q_callVv (S := []) (as := [.int x2]) d_X_response_7 lk_X_143 sh_0 ⟨_, rfl⟩ rfl ⟨by decide, by decide⟩ (Nat.le_of_ble_eq_true rfl) rfl (Nat.zero_le _) (Nat.zero_le _) h
  · exact q_callVx (S := []) (as := [.int x2]) d_X_response_7 lk_X_143 sh_0 ⟨_, rfl⟩ rfl ⟨by decide, by decide⟩ (Nat.le_of_ble_eq_true rfl) rfl (by omega) (sk_Smono h (fun r g I J hq => by obtain ⟨E, rfl, rfl, hq⟩ := hq; exact ⟨E, rfl, rfl, sk_xout rfl (by omega) (by omega) hq⟩))
theorem s_X_response_10 {Γ : sk_T} {mc ms : Nat} {I : sk_I} {J : sk_J} {Q : sk_Q} {x1 : Int32} {x2 : Int32} (h : sk_S Γ m_R_prepare 0 0 (.ref 16 :: [.int x2]) sk_gg I J (sk_Kv fun I' J' => sk_W Γ m_X_response mc ms 18 [(0, .ref 0), (1, .int x1), (2, .int x2)] [] sk_gg I' J' 0 0 Q)) : sk_W Γ m_X_response mc ms 10 [(0, .ref 0), (1, .int x1), (2, .int x2)] [] sk_gg I J 0 0 Q := by
  refine sk_aload_n (j := 0) d_X_response_10 rfl rfl ?_
  refine q_getR d_X_response_11 fg_X_28 sh_0 rr_0_2 ?_
  refine sk_iload_n (j := 2) d_X_response_14 rfl rfl ?_
  exact q_callVv (S := []) (as := [.int x2]) d_X_response_15 lk_X_153 sh_16 ⟨_, rfl⟩ rfl ⟨by decide, by decide⟩ (Nat.le_of_ble_eq_true rfl) rfl (Nat.zero_le _) (Nat.zero_le _) h
theorem s_X_response_18 {Γ : sk_T} {mc ms : Nat} {I : sk_I} {J : sk_J} {Q : sk_Q} {x1 : Int32} {x2 : Int32} (h : sk_S Γ m_R_to 0 0 (.ref 16 :: [.int x1, .int x2]) sk_gg I J (sk_Ki fun v' I' J' => sk_W Γ m_X_response mc ms 27 [] [.int v'] sk_gg I' J' 0 0 Q)) : sk_W Γ m_X_response mc ms 18 [(0, .ref 0), (1, .int x1), (2, .int x2)] [] sk_gg I J 0 0 Q := by
  refine sk_aload_n (j := 0) d_X_response_18 rfl rfl ?_
  refine q_getR d_X_response_19 fg_X_28 sh_0 rr_0_2 ?_
  refine sk_iload_n (j := 1) d_X_response_22 rfl rfl ?_
  refine sk_iload_n (j := 2) d_X_response_23 rfl rfl ?_
  refine sk_loc [] rfl ?_
  exact q_callVi (S := []) (as := [.int x1, .int x2]) d_X_response_24 lk_X_156 sh_16 ⟨_, rfl⟩ rfl ⟨by decide, by decide⟩ (Nat.le_of_ble_eq_true rfl) rfl (Nat.zero_le _) (Nat.zero_le _) h
theorem s_X_response_27 {Γ : sk_T} {mc ms : Nat} {I : sk_I} {J : sk_J} {Q : sk_Q} {u0 : Int32} (h : Q (.inl (some (.int u0))) sk_gg I J) : sk_W Γ m_X_response mc ms 27 [] [.int u0] sk_gg I J 0 0 Q := by
  exact sk_ireturn d_X_response_27 rfl (Nat.zero_le _) (Nat.zero_le _) h
theorem s_X_faultAt_0 {Γ : sk_T} {mc ms : Nat} {I : sk_I} {J : sk_J} {Q : sk_Q} {x1 : Int32} {x2 : Int32} (h : (sk_S Γ m_X_requireFault 0 0 (.ref 0 :: [.int x1]) sk_gg I J (sk_Kv fun I' J' => sk_W Γ m_X_faultAt mc ms 5 [(0, .ref 0), (1, .int x1), (2, .int x2)] [] sk_gg I' J' 0 0 Q)) ∨ ((1 ≤ mc ∧ 6 ≤ ms) ∧ sk_S Γ m_X_requireFault 1 6 (.ref 0 :: [.int x1]) sk_gg I J (sk_Kx fun E I' J' => Q (.inr E) sk_gg I' J'))) : sk_W Γ m_X_faultAt mc ms 0 [(0, .ref 0), (1, .int x1), (2, .int x2)] [] sk_gg I J 0 0 Q := by
  refine sk_aload_n (j := 0) d_X_faultAt_0 rfl rfl ?_
  refine sk_iload_n (j := 1) d_X_faultAt_1 rfl rfl ?_
  rcases h with h | ⟨hm, h⟩
  · exact q_callVv (S := []) (as := [.int x1]) d_X_faultAt_2 lk_X_169 sh_0 ⟨_, rfl⟩ rfl ⟨by decide, by decide⟩ (Nat.le_of_ble_eq_true rfl) rfl (Nat.zero_le _) (Nat.zero_le _) h
  · exact q_callVx (S := []) (as := [.int x1]) d_X_faultAt_2 lk_X_169 sh_0 ⟨_, rfl⟩ rfl ⟨by decide, by decide⟩ (Nat.le_of_ble_eq_true rfl) rfl (by omega) (sk_Smono h (fun r g I J hq => by obtain ⟨E, rfl, rfl, hq⟩ := hq; exact ⟨E, rfl, rfl, sk_xout rfl (by omega) (by omega) hq⟩))
theorem s_X_faultAt_5 {Γ : sk_T} {mc ms : Nat} {I : sk_I} {J : sk_J} {Q : sk_Q} {x1 : Int32} {x2 : Int32} (h : sk_S Γ m_C_stuckLine 0 0 (.ref 1 :: [.int x1]) sk_gg I J (sk_Ki fun v' I' J' => sk_W Γ m_X_faultAt mc ms 13 [(0, .ref 0), (1, .int x1), (2, .int x2)] [.int v'] sk_gg I' J' 0 0 Q)) : sk_W Γ m_X_faultAt mc ms 5 [(0, .ref 0), (1, .int x1), (2, .int x2)] [] sk_gg I J 0 0 Q := by
  refine sk_aload_n (j := 0) d_X_faultAt_5 rfl rfl ?_
  refine q_getR d_X_faultAt_6 fg_X_12 sh_0 rr_0_0 ?_
  refine sk_iload_n (j := 1) d_X_faultAt_9 rfl rfl ?_
  exact q_callVi (S := []) (as := [.int x1]) d_X_faultAt_10 lk_X_172 sh_1 ⟨_, rfl⟩ rfl ⟨by decide, by decide⟩ (Nat.le_of_ble_eq_true rfl) rfl (Nat.zero_le _) (Nat.zero_le _) h
theorem s_X_faultAt_13 {Γ : sk_T} {mc ms : Nat} {I : sk_I} {J : sk_J} {Q : sk_Q} {x1 : Int32} {x2 : Int32} {u0 : Int32} (h : sk_S Γ m_C_stuckPin 0 0 (.ref 1 :: [.int x1]) sk_gg I J (sk_Ki fun v' I' J' => sk_W Γ m_X_faultAt mc ms 22 [(0, .ref 0), (1, .int x1), (2, .int x2), (3, .int u0)] [.int v'] sk_gg I' J' 0 0 Q)) : sk_W Γ m_X_faultAt mc ms 13 [(0, .ref 0), (1, .int x1), (2, .int x2)] [.int u0] sk_gg I J 0 0 Q := by
  refine sk_istore_n d_X_faultAt_13 rfl (by decide) rfl ?_
  refine sk_aload_n (j := 1) d_X_faultAt_14 rfl rfl ?_
  refine q_getR d_X_faultAt_15 fg_X_12 sh_0 rr_0_0 ?_
  refine sk_iload_n (j := 2) d_X_faultAt_18 rfl rfl ?_
  refine sk_loc [1, 2, 3, 0] rfl ?_
  exact q_callVi (S := []) (as := [.int x1]) d_X_faultAt_19 lk_X_175 sh_1 ⟨_, rfl⟩ rfl ⟨by decide, by decide⟩ (Nat.le_of_ble_eq_true rfl) rfl (Nat.zero_le _) (Nat.zero_le _) h
theorem s_X_faultAt_22 {Γ : sk_T} {mc ms : Nat} {I : sk_I} {J : sk_J} {Q : sk_Q} {x1 : Int32} {x2 : Int32} {x3 : Int32} {u0 : Int32} (h : (x2 = 0 → (¬ u0 = (-1) → vp_in u0 78 ∧ Q (.inl (some (.int (I 7 u0.toNatClampNeg)))) sk_gg I J) ∧ (u0 = (-1) → Q (.inl (some (.int x3))) sk_gg I J)) ∧ (x2 = 1 → (¬ u0 = (-1) → vp_in u0 78 ∧ vp_in (I 7 u0.toNatClampNeg) 27 ∧ Q (.inl (some (.int (u0 - (I 5 (I 7 u0.toNatClampNeg).toNatClampNeg))))) sk_gg I J) ∧ (u0 = (-1) → Q (.inl (some (.int (-1)))) sk_gg I J)) ∧ (x2 = 2 → Q (.inl (some (.int (x1 &&& 1)))) sk_gg I J) ∧ (¬ x2 = 0 → ¬ x2 = 1 → ¬ x2 = 2 → (1 ≤ mc ∧ 6 ≤ ms) ∧ Q (.inr "java/lang/IllegalArgumentException") sk_gg I J)) : sk_W Γ m_X_faultAt mc ms 22 [(0, .ref 0), (1, .int x1), (2, .int x2), (3, .int x3)] [.int u0] sk_gg I J 0 0 Q := by
  refine sk_istore d_X_faultAt_22 (by decide) rfl ?_
  refine sk_iload_n (j := 3) d_X_faultAt_24 rfl rfl ?_
  by_cases hc0 : x2 = 0
  · replace h := h.1 hc0
    rw [hc0]
    refine sk_tableIn (tgt := 52) (off := 27) d_X_faultAt_25 (by decide) (by decide) rfl (by decide) ?_
    refine sk_iload (j := 0) d_X_faultAt_52 rfl ?_
    refine sk_iconst (v := (-1)) d_X_faultAt_54 (by decide) ?_
    refine sk_icmp_ne (tgt := 62) d_X_faultAt_55 (by decide) (fun hc => ?_) (fun hc => ?_)
    · replace h := h.1 hc
      refine sk_aload_n (j := 1) d_X_faultAt_62 rfl rfl ?_
      refine q_getR d_X_faultAt_63 fg_X_12 sh_0 rr_0_0 ?_
      refine q_getR d_X_faultAt_66 fg_X_178 sh_1 rr_1_11 ?_
      refine sk_iload (j := 0) d_X_faultAt_69 rfl ?_
      obtain ⟨hb, h⟩ := h
      refine sk_iald d_X_faultAt_71 sh_7 hb ?_
      exact sk_ireturn d_X_faultAt_72 rfl (Nat.zero_le _) (Nat.zero_le _) h
    · replace h := h.2 hc
      refine sk_iload_n (j := 4) d_X_faultAt_58 rfl rfl ?_
      refine sk_goto (tgt := 72) d_X_faultAt_59 (by decide) ?_
      exact sk_ireturn d_X_faultAt_72 rfl (Nat.zero_le _) (Nat.zero_le _) h
  by_cases hc1 : x2 = 1
  · replace h := h.2.1 hc1
    rw [hc1]
    refine sk_tableIn (tgt := 73) (off := 48) d_X_faultAt_25 (by decide) (by decide) rfl (by decide) ?_
    refine sk_iload (j := 0) d_X_faultAt_73 rfl ?_
    refine sk_iconst (v := (-1)) d_X_faultAt_75 (by decide) ?_
    refine sk_icmp_ne (tgt := 83) d_X_faultAt_76 (by decide) (fun hc => ?_) (fun hc => ?_)
    · replace h := h.1 hc
      refine sk_iload (j := 0) d_X_faultAt_83 rfl ?_
      refine sk_aload_n (j := 1) d_X_faultAt_85 rfl rfl ?_
      refine q_getR d_X_faultAt_86 fg_X_12 sh_0 rr_0_0 ?_
      refine q_getR d_X_faultAt_89 fg_X_165 sh_1 rr_1_9 ?_
      refine sk_aload_n (j := 1) d_X_faultAt_92 rfl rfl ?_
      refine q_getR d_X_faultAt_93 fg_X_12 sh_0 rr_0_0 ?_
      refine q_getR d_X_faultAt_96 fg_X_178 sh_1 rr_1_11 ?_
      refine sk_iload (j := 0) d_X_faultAt_99 rfl ?_
      obtain ⟨hb, h⟩ := h
      refine sk_iald d_X_faultAt_101 sh_7 hb ?_
      obtain ⟨hb, h⟩ := h
      refine sk_iald d_X_faultAt_102 sh_5 hb ?_
      refine sk_isub d_X_faultAt_103 ?_
      exact sk_ireturn d_X_faultAt_104 rfl (Nat.zero_le _) (Nat.zero_le _) h
    · replace h := h.2 hc
      refine sk_iconst (v := (-1)) d_X_faultAt_79 (by decide) ?_
      refine sk_goto (tgt := 104) d_X_faultAt_80 (by decide) ?_
      exact sk_ireturn d_X_faultAt_104 rfl (Nat.zero_le _) (Nat.zero_le _) h
  by_cases hc2 : x2 = 2
  · replace h := h.2.2.1 hc2
    rw [hc2]
    refine sk_tableIn (tgt := 105) (off := 80) d_X_faultAt_25 (by decide) (by decide) rfl (by decide) ?_
    refine sk_iload_n (j := 2) d_X_faultAt_105 rfl rfl ?_
    refine sk_iconst (v := 1) d_X_faultAt_106 (by decide) ?_
    refine sk_iand d_X_faultAt_107 ?_
    exact sk_ireturn d_X_faultAt_108 rfl (Nat.zero_le _) (Nat.zero_le _) h
  replace h := h.2.2.2 hc0 hc1 hc2
  refine sk_tableOut (tgt := 109) d_X_faultAt_25 (sk_swOut3 hc0 hc1 hc2) (by decide) ?_
  exact q_throw d_X_faultAt_109 d_X_faultAt_112 d_X_faultAt_113 d_X_faultAt_115 d_X_faultAt_118 rfl th_79_181_83 rfl ⟨by decide, by decide⟩ (Nat.le_of_ble_eq_true rfl) (by omega) h.2
theorem s_X_least_0 {Γ : sk_T} {mc ms : Nat} {I : sk_I} {J : sk_J} {Q : sk_Q} {x1 : Int32} (h : (sk_S Γ m_X_requireFault 0 0 (.ref 0 :: [.int x1]) sk_gg I J (sk_Kv fun I' J' => sk_W Γ m_X_least mc ms 5 [(0, .ref 0), (1, .int x1)] [] sk_gg I' J' 0 0 Q)) ∨ ((1 ≤ mc ∧ 6 ≤ ms) ∧ sk_S Γ m_X_requireFault 1 6 (.ref 0 :: [.int x1]) sk_gg I J (sk_Kx fun E I' J' => Q (.inr E) sk_gg I' J'))) : sk_W Γ m_X_least mc ms 0 [(0, .ref 0), (1, .int x1)] [] sk_gg I J 0 0 Q := by
  refine sk_aload_n (j := 0) d_X_least_0 rfl rfl ?_
  refine sk_iload_n (j := 1) d_X_least_1 rfl rfl ?_
  rcases h with h | ⟨hm, h⟩
  · exact q_callVv (S := []) (as := [.int x1]) d_X_least_2 lk_X_169 sh_0 ⟨_, rfl⟩ rfl ⟨by decide, by decide⟩ (Nat.le_of_ble_eq_true rfl) rfl (Nat.zero_le _) (Nat.zero_le _) h
  · exact q_callVx (S := []) (as := [.int x1]) d_X_least_2 lk_X_169 sh_0 ⟨_, rfl⟩ rfl ⟨by decide, by decide⟩ (Nat.le_of_ble_eq_true rfl) rfl (by omega) (sk_Smono h (fun r g I J hq => by obtain ⟨E, rfl, rfl, hq⟩ := hq; exact ⟨E, rfl, rfl, sk_xout rfl (by omega) (by omega) hq⟩))
theorem s_X_least_5 {Γ : sk_T} {mc ms : Nat} {I : sk_I} {J : sk_J} {Q : sk_Q} {x1 : Int32} (h : sk_S Γ m_R_prepare 0 0 (.ref 16 :: [.int x1]) sk_gg I J (sk_Kv fun I' J' => sk_W Γ m_X_least mc ms 13 [(0, .ref 0), (1, .int x1)] [] sk_gg I' J' 0 0 Q)) : sk_W Γ m_X_least mc ms 5 [(0, .ref 0), (1, .int x1)] [] sk_gg I J 0 0 Q := by
  refine sk_aload_n (j := 0) d_X_least_5 rfl rfl ?_
  refine q_getR d_X_least_6 fg_X_28 sh_0 rr_0_2 ?_
  refine sk_iload_n (j := 1) d_X_least_9 rfl rfl ?_
  exact q_callVv (S := []) (as := [.int x1]) d_X_least_10 lk_X_153 sh_16 ⟨_, rfl⟩ rfl ⟨by decide, by decide⟩ (Nat.le_of_ble_eq_true rfl) rfl (Nat.zero_le _) (Nat.zero_le _) h
theorem s_X_least_13 {Γ : sk_T} {mc ms : Nat} {I : sk_I} {J : sk_J} {Q : sk_Q} {x1 : Int32} (h : sk_S Γ m_R_firstShowing 0 0 (.ref 16 :: [.int x1]) sk_gg I J (sk_Ki fun v' I' J' => sk_W Γ m_X_least mc ms 21 [] [.int v'] sk_gg I' J' 0 0 Q)) : sk_W Γ m_X_least mc ms 13 [(0, .ref 0), (1, .int x1)] [] sk_gg I J 0 0 Q := by
  refine sk_aload_n (j := 0) d_X_least_13 rfl rfl ?_
  refine q_getR d_X_least_14 fg_X_28 sh_0 rr_0_2 ?_
  refine sk_iload_n (j := 1) d_X_least_17 rfl rfl ?_
  refine sk_loc [] rfl ?_
  exact q_callVi (S := []) (as := [.int x1]) d_X_least_18 lk_X_183 sh_16 ⟨_, rfl⟩ rfl ⟨by decide, by decide⟩ (Nat.le_of_ble_eq_true rfl) rfl (Nat.zero_le _) (Nat.zero_le _) h
theorem s_X_least_21 {Γ : sk_T} {mc ms : Nat} {I : sk_I} {J : sk_J} {Q : sk_Q} {u0 : Int32} (h : Q (.inl (some (.int u0))) sk_gg I J) : sk_W Γ m_X_least mc ms 21 [] [.int u0] sk_gg I J 0 0 Q := by
  exact sk_ireturn d_X_least_21 rfl (Nat.zero_le _) (Nat.zero_le _) h
theorem s_X_showing_0 {Γ : sk_T} {mc ms : Nat} {I : sk_I} {J : sk_J} {Q : sk_Q} {x1 : Int32} (h : (sk_S Γ m_X_requireFault 0 0 (.ref 0 :: [.int x1]) sk_gg I J (sk_Kv fun I' J' => sk_W Γ m_X_showing mc ms 5 [(0, .ref 0), (1, .int x1)] [] sk_gg I' J' 0 0 Q)) ∨ ((1 ≤ mc ∧ 6 ≤ ms) ∧ sk_S Γ m_X_requireFault 1 6 (.ref 0 :: [.int x1]) sk_gg I J (sk_Kx fun E I' J' => Q (.inr E) sk_gg I' J'))) : sk_W Γ m_X_showing mc ms 0 [(0, .ref 0), (1, .int x1)] [] sk_gg I J 0 0 Q := by
  refine sk_aload_n (j := 0) d_X_showing_0 rfl rfl ?_
  refine sk_iload_n (j := 1) d_X_showing_1 rfl rfl ?_
  rcases h with h | ⟨hm, h⟩
  · exact q_callVv (S := []) (as := [.int x1]) d_X_showing_2 lk_X_169 sh_0 ⟨_, rfl⟩ rfl ⟨by decide, by decide⟩ (Nat.le_of_ble_eq_true rfl) rfl (Nat.zero_le _) (Nat.zero_le _) h
  · exact q_callVx (S := []) (as := [.int x1]) d_X_showing_2 lk_X_169 sh_0 ⟨_, rfl⟩ rfl ⟨by decide, by decide⟩ (Nat.le_of_ble_eq_true rfl) rfl (by omega) (sk_Smono h (fun r g I J hq => by obtain ⟨E, rfl, rfl, hq⟩ := hq; exact ⟨E, rfl, rfl, sk_xout rfl (by omega) (by omega) hq⟩))
theorem s_X_showing_5 {Γ : sk_T} {mc ms : Nat} {I : sk_I} {J : sk_J} {Q : sk_Q} {x1 : Int32} (h : sk_S Γ m_R_prepare 0 0 (.ref 16 :: [.int x1]) sk_gg I J (sk_Kv fun I' J' => sk_W Γ m_X_showing mc ms 13 [(0, .ref 0), (1, .int x1)] [] sk_gg I' J' 0 0 Q)) : sk_W Γ m_X_showing mc ms 5 [(0, .ref 0), (1, .int x1)] [] sk_gg I J 0 0 Q := by
  refine sk_aload_n (j := 0) d_X_showing_5 rfl rfl ?_
  refine q_getR d_X_showing_6 fg_X_28 sh_0 rr_0_2 ?_
  refine sk_iload_n (j := 1) d_X_showing_9 rfl rfl ?_
  exact q_callVv (S := []) (as := [.int x1]) d_X_showing_10 lk_X_153 sh_16 ⟨_, rfl⟩ rfl ⟨by decide, by decide⟩ (Nat.le_of_ble_eq_true rfl) rfl (Nat.zero_le _) (Nat.zero_le _) h
theorem s_X_showing_13 {Γ : sk_T} {mc ms : Nat} {I : sk_I} {J : sk_J} {Q : sk_Q} {x1 : Int32} (h : sk_S Γ m_R_vectorsShowing 0 0 (.ref 16 :: [.int x1]) sk_gg I J (sk_Kl fun v' I' J' => sk_W Γ m_X_showing mc ms 21 [] [.long v'] sk_gg I' J' 0 0 Q)) : sk_W Γ m_X_showing mc ms 13 [(0, .ref 0), (1, .int x1)] [] sk_gg I J 0 0 Q := by
  refine sk_aload_n (j := 0) d_X_showing_13 rfl rfl ?_
  refine q_getR d_X_showing_14 fg_X_28 sh_0 rr_0_2 ?_
  refine sk_iload_n (j := 1) d_X_showing_17 rfl rfl ?_
  refine sk_loc [] rfl ?_
  exact q_callVl (S := []) (as := [.int x1]) d_X_showing_18 lk_X_186 sh_16 ⟨_, rfl⟩ rfl ⟨by decide, by decide⟩ (Nat.le_of_ble_eq_true rfl) rfl (Nat.zero_le _) (Nat.zero_le _) h
theorem s_X_showing_21 {Γ : sk_T} {mc ms : Nat} {I : sk_I} {J : sk_J} {Q : sk_Q} {w0 : Int64} (h : Q (.inl (some (.long w0))) sk_gg I J) : sk_W Γ m_X_showing mc ms 21 [] [.long w0] sk_gg I J 0 0 Q := by
  exact sk_lreturn d_X_showing_21 rfl (Nat.zero_le _) (Nat.zero_le _) h
theorem s_X_alike_0 {Γ : sk_T} {mc ms : Nat} {I : sk_I} {J : sk_J} {Q : sk_Q} {x1 : Int32} (h : (sk_S Γ m_X_requireFault 0 0 (.ref 0 :: [.int x1]) sk_gg I J (sk_Kv fun I' J' => sk_W Γ m_X_alike mc ms 5 [(0, .ref 0), (1, .int x1)] [] sk_gg I' J' 0 0 Q)) ∨ ((1 ≤ mc ∧ 6 ≤ ms) ∧ sk_S Γ m_X_requireFault 1 6 (.ref 0 :: [.int x1]) sk_gg I J (sk_Kx fun E I' J' => Q (.inr E) sk_gg I' J'))) : sk_W Γ m_X_alike mc ms 0 [(0, .ref 0), (1, .int x1)] [] sk_gg I J 0 0 Q := by
  refine sk_aload_n (j := 0) d_X_alike_0 rfl rfl ?_
  refine sk_iload_n (j := 1) d_X_alike_1 rfl rfl ?_
  rcases h with h | ⟨hm, h⟩
  · exact q_callVv (S := []) (as := [.int x1]) d_X_alike_2 lk_X_169 sh_0 ⟨_, rfl⟩ rfl ⟨by decide, by decide⟩ (Nat.le_of_ble_eq_true rfl) rfl (Nat.zero_le _) (Nat.zero_le _) h
  · exact q_callVx (S := []) (as := [.int x1]) d_X_alike_2 lk_X_169 sh_0 ⟨_, rfl⟩ rfl ⟨by decide, by decide⟩ (Nat.le_of_ble_eq_true rfl) rfl (by omega) (sk_Smono h (fun r g I J hq => by obtain ⟨E, rfl, rfl, hq⟩ := hq; exact ⟨E, rfl, rfl, sk_xout rfl (by omega) (by omega) hq⟩))
theorem s_X_alike_5 {Γ : sk_T} {mc ms : Nat} {I : sk_I} {J : sk_J} {Q : sk_Q} {x1 : Int32} (h : sk_S Γ m_R_prepareAll 0 0 (.ref 16 :: []) sk_gg I J (sk_Kv fun I' J' => sk_W Γ m_X_alike mc ms 12 [(0, .ref 0), (1, .int x1)] [] sk_gg I' J' 0 0 Q)) : sk_W Γ m_X_alike mc ms 5 [(0, .ref 0), (1, .int x1)] [] sk_gg I J 0 0 Q := by
  refine sk_aload_n (j := 0) d_X_alike_5 rfl rfl ?_
  refine q_getR d_X_alike_6 fg_X_28 sh_0 rr_0_2 ?_
  exact q_callVv (S := []) (as := []) d_X_alike_9 lk_X_129 sh_16 ⟨_, rfl⟩ rfl ⟨by decide, by decide⟩ (Nat.le_of_ble_eq_true rfl) rfl (Nat.zero_le _) (Nat.zero_le _) h
theorem s_X_alike_12 {Γ : sk_T} {mc ms : Nat} {I : sk_I} {J : sk_J} {Q : sk_Q} {x1 : Int32} (h : sk_S Γ m_R_firstAlike 0 0 (.ref 16 :: [.int x1]) sk_gg I J (sk_Ki fun v' I' J' => sk_W Γ m_X_alike mc ms 20 [] [.int v'] sk_gg I' J' 0 0 Q)) : sk_W Γ m_X_alike mc ms 12 [(0, .ref 0), (1, .int x1)] [] sk_gg I J 0 0 Q := by
  refine sk_aload_n (j := 0) d_X_alike_12 rfl rfl ?_
  refine q_getR d_X_alike_13 fg_X_28 sh_0 rr_0_2 ?_
  refine sk_iload_n (j := 1) d_X_alike_16 rfl rfl ?_
  refine sk_loc [] rfl ?_
  exact q_callVi (S := []) (as := [.int x1]) d_X_alike_17 lk_X_190 sh_16 ⟨_, rfl⟩ rfl ⟨by decide, by decide⟩ (Nat.le_of_ble_eq_true rfl) rfl (Nat.zero_le _) (Nat.zero_le _) h
theorem s_X_alike_20 {Γ : sk_T} {mc ms : Nat} {I : sk_I} {J : sk_J} {Q : sk_Q} {u0 : Int32} (h : Q (.inl (some (.int u0))) sk_gg I J) : sk_W Γ m_X_alike mc ms 20 [] [.int u0] sk_gg I J 0 0 Q := by
  exact sk_ireturn d_X_alike_20 rfl (Nat.zero_le _) (Nat.zero_le _) h
theorem s_X_ternary_0 {Γ : sk_T} {mc ms : Nat} {I : sk_I} {J : sk_J} {Q : sk_Q} {x1 : Int32} {x2 : Int32} {x3 : Int32} {x4 : Int32} (h : (sk_S Γ m_X_requireLine 0 0 (.ref 0 :: [.int x3]) sk_gg I J (sk_Kv fun I' J' => sk_W Γ m_X_ternary mc ms 5 [(0, .ref 0), (1, .int x1), (2, .int x2), (3, .int x3), (4, .int x4)] [] sk_gg I' J' 0 0 Q)) ∨ ((1 ≤ mc ∧ 6 ≤ ms) ∧ sk_S Γ m_X_requireLine 1 6 (.ref 0 :: [.int x3]) sk_gg I J (sk_Kx fun E I' J' => Q (.inr E) sk_gg I' J'))) : sk_W Γ m_X_ternary mc ms 0 [(0, .ref 0), (1, .int x1), (2, .int x2), (3, .int x3), (4, .int x4)] [] sk_gg I J 0 0 Q := by
  refine sk_aload_n (j := 0) d_X_ternary_0 rfl rfl ?_
  refine sk_iload_n (j := 3) d_X_ternary_1 rfl rfl ?_
  rcases h with h | ⟨hm, h⟩
  · exact q_callVv (S := []) (as := [.int x3]) d_X_ternary_2 lk_X_86 sh_0 ⟨_, rfl⟩ rfl ⟨by decide, by decide⟩ (Nat.le_of_ble_eq_true rfl) rfl (Nat.zero_le _) (Nat.zero_le _) h
  · exact q_callVx (S := []) (as := [.int x3]) d_X_ternary_2 lk_X_86 sh_0 ⟨_, rfl⟩ rfl ⟨by decide, by decide⟩ (Nat.le_of_ble_eq_true rfl) rfl (by omega) (sk_Smono h (fun r g I J hq => by obtain ⟨E, rfl, rfl, hq⟩ := hq; exact ⟨E, rfl, rfl, sk_xout rfl (by omega) (by omega) hq⟩))
theorem s_X_ternary_5 {Γ : sk_T} {mc ms : Nat} {I : sk_I} {J : sk_J} {Q : sk_Q} {x1 : Int32} {x2 : Int32} {x3 : Int32} {x4 : Int32} (h : (sk_S Γ m_X_requireFaultOrNone 0 0 (.ref 0 :: [.int x4]) sk_gg I J (sk_Kv fun I' J' => sk_W Γ m_X_ternary mc ms 11 [(0, .ref 0), (1, .int x1), (2, .int x2), (3, .int x3), (4, .int x4)] [] sk_gg I' J' 0 0 Q)) ∨ ((1 ≤ mc ∧ 6 ≤ ms) ∧ sk_S Γ m_X_requireFaultOrNone 1 6 (.ref 0 :: [.int x4]) sk_gg I J (sk_Kx fun E I' J' => Q (.inr E) sk_gg I' J'))) : sk_W Γ m_X_ternary mc ms 5 [(0, .ref 0), (1, .int x1), (2, .int x2), (3, .int x3), (4, .int x4)] [] sk_gg I J 0 0 Q := by
  refine sk_aload_n (j := 0) d_X_ternary_5 rfl rfl ?_
  refine sk_iload (j := 4) d_X_ternary_6 rfl ?_
  rcases h with h | ⟨hm, h⟩
  · exact q_callVv (S := []) (as := [.int x4]) d_X_ternary_8 lk_X_143 sh_0 ⟨_, rfl⟩ rfl ⟨by decide, by decide⟩ (Nat.le_of_ble_eq_true rfl) rfl (Nat.zero_le _) (Nat.zero_le _) h
  · exact q_callVx (S := []) (as := [.int x4]) d_X_ternary_8 lk_X_143 sh_0 ⟨_, rfl⟩ rfl ⟨by decide, by decide⟩ (Nat.le_of_ble_eq_true rfl) rfl (by omega) (sk_Smono h (fun r g I J hq => by obtain ⟨E, rfl, rfl, hq⟩ := hq; exact ⟨E, rfl, rfl, sk_xout rfl (by omega) (by omega) hq⟩))
theorem s_X_ternary_11 {Γ : sk_T} {mc ms : Nat} {I : sk_I} {J : sk_J} {Q : sk_Q} {x1 : Int32} {x2 : Int32} {x3 : Int32} {x4 : Int32} (h : sk_S Γ m_C_isSumOfSources 0 0 (.ref 1 :: [.int x1]) sk_gg I J (sk_Ki fun v' I' J' => sk_W Γ m_X_ternary mc ms 19 [(0, .ref 0), (1, .int x1), (2, .int x2), (3, .int x3), (4, .int x4)] [.int v'] sk_gg I' J' 0 0 Q)) : sk_W Γ m_X_ternary mc ms 11 [(0, .ref 0), (1, .int x1), (2, .int x2), (3, .int x3), (4, .int x4)] [] sk_gg I J 0 0 Q := by
  refine sk_aload_n (j := 0) d_X_ternary_11 rfl rfl ?_
  refine q_getR d_X_ternary_12 fg_X_12 sh_0 rr_0_0 ?_
  refine sk_iload_n (j := 1) d_X_ternary_15 rfl rfl ?_
  exact q_callVi (S := []) (as := [.int x1]) d_X_ternary_16 lk_X_193 sh_1 ⟨_, rfl⟩ rfl ⟨by decide, by decide⟩ (Nat.le_of_ble_eq_true rfl) rfl (Nat.zero_le _) (Nat.zero_le _) h
theorem s_X_ternary_19 {Γ : sk_T} {mc ms : Nat} {I : sk_I} {J : sk_J} {Q : sk_Q} {x1 : Int32} {x2 : Int32} {x3 : Int32} {x4 : Int32} {u0 : Int32} (h : (u0 = 0 → (1 ≤ mc ∧ 6 ≤ ms) ∧ Q (.inr "java/lang/IllegalArgumentException") sk_gg I J) ∧ (¬ u0 = 0 → sk_S Γ m_C_isSumOfSources 0 0 (.ref 1 :: [.int x2]) sk_gg I J (sk_Ki fun v' I' J' => sk_W Γ m_X_ternary mc ms 30 [(0, .ref 0), (1, .int x1), (2, .int x2), (3, .int x3), (4, .int x4)] [.int v'] sk_gg I' J' 0 0 Q))) : sk_W Γ m_X_ternary mc ms 19 [(0, .ref 0), (1, .int x1), (2, .int x2), (3, .int x3), (4, .int x4)] [.int u0] sk_gg I J 0 0 Q := by
  refine sk_if_eq (tgt := 33) d_X_ternary_19 (by decide) (fun hc => ?_) (fun hc => ?_)
  · replace h := h.1 hc
    exact q_throw d_X_ternary_33 d_X_ternary_36 d_X_ternary_37 d_X_ternary_39 d_X_ternary_42 rfl th_79_196_83 rfl ⟨by decide, by decide⟩ (Nat.le_of_ble_eq_true rfl) (by omega) h.2
  · replace h := h.2 hc
    refine sk_aload_n (j := 0) d_X_ternary_22 rfl rfl ?_
    refine q_getR d_X_ternary_23 fg_X_12 sh_0 rr_0_0 ?_
    refine sk_iload_n (j := 2) d_X_ternary_26 rfl rfl ?_
    exact q_callVi (S := []) (as := [.int x2]) d_X_ternary_27 lk_X_193 sh_1 ⟨_, rfl⟩ rfl ⟨by decide, by decide⟩ (Nat.le_of_ble_eq_true rfl) rfl (Nat.zero_le _) (Nat.zero_le _) h
theorem s_X_ternary_30 {Γ : sk_T} {mc ms : Nat} {I : sk_I} {J : sk_J} {Q : sk_Q} {x1 : Int32} {x2 : Int32} {x3 : Int32} {x4 : Int32} {u0 : Int32} (h : (¬ u0 = 0 → ((x1 &&& x2) = 0 → sk_S Γ m_S_settleCube 0 0 (.ref 11 :: [.int x1, .int x2, .int x4]) sk_gg I J (sk_Kv fun I' J' => sk_W Γ m_X_ternary mc ms 70 [(0, .ref 0), (3, .int x3)] [] sk_gg I' J' 0 0 Q)) ∧ (¬ (x1 &&& x2) = 0 → (1 ≤ mc ∧ 6 ≤ ms) ∧ Q (.inr "java/lang/IllegalArgumentException") sk_gg I J)) ∧ (u0 = 0 → (1 ≤ mc ∧ 6 ≤ ms) ∧ Q (.inr "java/lang/IllegalArgumentException") sk_gg I J)) : sk_W Γ m_X_ternary mc ms 30 [(0, .ref 0), (1, .int x1), (2, .int x2), (3, .int x3), (4, .int x4)] [.int u0] sk_gg I J 0 0 Q := by
  refine sk_if_ne (tgt := 43) d_X_ternary_30 (by decide) (fun hc => ?_) (fun hc => ?_)
  · replace h := h.1 hc
    refine sk_iload_n (j := 1) d_X_ternary_43 rfl rfl ?_
    refine sk_iload_n (j := 2) d_X_ternary_44 rfl rfl ?_
    refine sk_iand d_X_ternary_45 ?_
    refine sk_if_eq (tgt := 59) d_X_ternary_46 (by decide) (fun hc => ?_) (fun hc => ?_)
    · replace h := h.1 hc
      refine sk_aload_n (j := 0) d_X_ternary_59 rfl rfl ?_
      refine q_getR d_X_ternary_60 fg_X_21 sh_0 rr_0_1 ?_
      refine sk_iload_n (j := 1) d_X_ternary_63 rfl rfl ?_
      refine sk_iload_n (j := 2) d_X_ternary_64 rfl rfl ?_
      refine sk_iload (j := 4) d_X_ternary_65 rfl ?_
      refine sk_loc [0, 3] rfl ?_
      exact q_callVv (S := []) (as := [.int x1, .int x2, .int x4]) d_X_ternary_67 lk_X_200 sh_11 ⟨_, rfl⟩ rfl ⟨by decide, by decide⟩ (Nat.le_of_ble_eq_true rfl) rfl (Nat.zero_le _) (Nat.zero_le _) h
    · replace h := h.2 hc
      exact q_throw d_X_ternary_49 d_X_ternary_52 d_X_ternary_53 d_X_ternary_55 d_X_ternary_58 rfl th_79_198_83 rfl ⟨by decide, by decide⟩ (Nat.le_of_ble_eq_true rfl) (by omega) h.2
  · replace h := h.2 hc
    exact q_throw d_X_ternary_33 d_X_ternary_36 d_X_ternary_37 d_X_ternary_39 d_X_ternary_42 rfl th_79_196_83 rfl ⟨by decide, by decide⟩ (Nat.le_of_ble_eq_true rfl) (by omega) h.2
theorem s_X_ternary_70 {Γ : sk_T} {mc ms : Nat} {I : sk_I} {J : sk_J} {Q : sk_Q} {x3 : Int32} (h : sk_S Γ m_S_stateOf 0 0 (.ref 11 :: [.int x3, .int 0]) sk_gg I J (sk_Ki fun v' I' J' => sk_W Γ m_X_ternary mc ms 79 [] [.int v'] sk_gg I' J' 0 0 Q)) : sk_W Γ m_X_ternary mc ms 70 [(0, .ref 0), (3, .int x3)] [] sk_gg I J 0 0 Q := by
  refine sk_aload_n (j := 0) d_X_ternary_70 rfl rfl ?_
  refine q_getR d_X_ternary_71 fg_X_21 sh_0 rr_0_1 ?_
  refine sk_iload_n (j := 1) d_X_ternary_74 rfl rfl ?_
  refine sk_iconst (v := 0) d_X_ternary_75 (by decide) ?_
  refine sk_loc [] rfl ?_
  exact q_callVi (S := []) (as := [.int x3, .int 0]) d_X_ternary_76 lk_X_149 sh_11 ⟨_, rfl⟩ rfl ⟨by decide, by decide⟩ (Nat.le_of_ble_eq_true rfl) rfl (Nat.zero_le _) (Nat.zero_le _) h
theorem s_X_ternary_79 {Γ : sk_T} {mc ms : Nat} {I : sk_I} {J : sk_J} {Q : sk_Q} {u0 : Int32} (h : Q (.inl (some (.int u0))) sk_gg I J) : sk_W Γ m_X_ternary mc ms 79 [] [.int u0] sk_gg I J 0 0 Q := by
  exact sk_ireturn d_X_ternary_79 rfl (Nat.zero_le _) (Nat.zero_le _) h
theorem s_X_cube_0 {Γ : sk_T} {mc ms : Nat} {I : sk_I} {J : sk_J} {Q : sk_Q} {x1 : Int32} (h : (sk_S Γ m_X_requireFault 0 0 (.ref 0 :: [.int x1]) sk_gg I J (sk_Kv fun I' J' => sk_W Γ m_X_cube mc ms 5 [(0, .ref 0), (1, .int x1)] [] sk_gg I' J' 0 0 Q)) ∨ ((1 ≤ mc ∧ 6 ≤ ms) ∧ sk_S Γ m_X_requireFault 1 6 (.ref 0 :: [.int x1]) sk_gg I J (sk_Kx fun E I' J' => Q (.inr E) sk_gg I' J'))) : sk_W Γ m_X_cube mc ms 0 [(0, .ref 0), (1, .int x1)] [] sk_gg I J 0 0 Q := by
  refine sk_aload_n (j := 0) d_X_cube_0 rfl rfl ?_
  refine sk_iload_n (j := 1) d_X_cube_1 rfl rfl ?_
  rcases h with h | ⟨hm, h⟩
  · exact q_callVv (S := []) (as := [.int x1]) d_X_cube_2 lk_X_169 sh_0 ⟨_, rfl⟩ rfl ⟨by decide, by decide⟩ (Nat.le_of_ble_eq_true rfl) rfl (Nat.zero_le _) (Nat.zero_le _) h
  · exact q_callVx (S := []) (as := [.int x1]) d_X_cube_2 lk_X_169 sh_0 ⟨_, rfl⟩ rfl ⟨by decide, by decide⟩ (Nat.le_of_ble_eq_true rfl) rfl (by omega) (sk_Smono h (fun r g I J hq => by obtain ⟨E, rfl, rfl, hq⟩ := hq; exact ⟨E, rfl, rfl, sk_xout rfl (by omega) (by omega) hq⟩))
theorem s_X_cube_5 {Γ : sk_T} {mc ms : Nat} {I : sk_I} {J : sk_J} {Q : sk_Q} {x1 : Int32} (h : sk_S Γ m_R_prepare 0 0 (.ref 16 :: [.int x1]) sk_gg I J (sk_Kv fun I' J' => sk_W Γ m_X_cube mc ms 13 [(0, .ref 0), (1, .int x1)] [] sk_gg I' J' 0 0 Q)) : sk_W Γ m_X_cube mc ms 5 [(0, .ref 0), (1, .int x1)] [] sk_gg I J 0 0 Q := by
  refine sk_aload_n (j := 0) d_X_cube_5 rfl rfl ?_
  refine q_getR d_X_cube_6 fg_X_28 sh_0 rr_0_2 ?_
  refine sk_iload_n (j := 1) d_X_cube_9 rfl rfl ?_
  exact q_callVv (S := []) (as := [.int x1]) d_X_cube_10 lk_X_153 sh_16 ⟨_, rfl⟩ rfl ⟨by decide, by decide⟩ (Nat.le_of_ble_eq_true rfl) rfl (Nat.zero_le _) (Nat.zero_le _) h
theorem s_X_cube_13 {Γ : sk_T} {mc ms : Nat} {I : sk_I} {J : sk_J} {Q : sk_Q} {x1 : Int32} (h : sk_S Γ m_R_firstShowing 0 0 (.ref 16 :: [.int x1]) sk_gg I J (sk_Ki fun v' I' J' => sk_W Γ m_X_cube mc ms 21 [(0, .ref 0), (1, .int x1)] [.int v'] sk_gg I' J' 0 0 Q)) : sk_W Γ m_X_cube mc ms 13 [(0, .ref 0), (1, .int x1)] [] sk_gg I J 0 0 Q := by
  refine sk_aload_n (j := 0) d_X_cube_13 rfl rfl ?_
  refine q_getR d_X_cube_14 fg_X_28 sh_0 rr_0_2 ?_
  refine sk_iload_n (j := 1) d_X_cube_17 rfl rfl ?_
  exact q_callVi (S := []) (as := [.int x1]) d_X_cube_18 lk_X_183 sh_16 ⟨_, rfl⟩ rfl ⟨by decide, by decide⟩ (Nat.le_of_ble_eq_true rfl) rfl (Nat.zero_le _) (Nat.zero_le _) h
theorem s_X_cube_21 {Γ : sk_T} {mc ms : Nat} {I : sk_I} {J : sk_J} {Q : sk_Q} {x1 : Int32} {u0 : Int32} (h : (¬ u0 = (-1) → sk_S Γ m_U_widen 0 0 (.ref 25 :: [.int u0, .int x1]) sk_gg I J (sk_Ki fun v' I' J' => sk_W Γ m_X_cube mc ms 40 [] [.int v'] sk_gg I' J' 0 0 Q)) ∧ (u0 = (-1) → sk_W Γ m_X_cube mc ms 40 [] [.int (-1)] sk_gg I J 0 0 Q)) : sk_W Γ m_X_cube mc ms 21 [(0, .ref 0), (1, .int x1)] [.int u0] sk_gg I J 0 0 Q := by
  refine sk_istore_n d_X_cube_21 rfl (by decide) rfl ?_
  refine sk_iload_n (j := 0) d_X_cube_22 rfl rfl ?_
  refine sk_iconst (v := (-1)) d_X_cube_23 (by decide) ?_
  refine sk_icmp_ne (tgt := 31) d_X_cube_24 (by decide) (fun hc => ?_) (fun hc => ?_)
  · replace h := h.1 hc
    refine sk_aload_n (j := 1) d_X_cube_31 rfl rfl ?_
    refine q_getR d_X_cube_32 fg_X_35 sh_0 rr_0_3 ?_
    refine sk_iload_n (j := 0) d_X_cube_35 rfl rfl ?_
    refine sk_iload_n (j := 2) d_X_cube_36 rfl rfl ?_
    refine sk_loc [] rfl ?_
    exact q_callVi (S := []) (as := [.int u0, .int x1]) d_X_cube_37 lk_X_204 sh_25 ⟨_, rfl⟩ rfl ⟨by decide, by decide⟩ (Nat.le_of_ble_eq_true rfl) rfl (Nat.zero_le _) (Nat.zero_le _) h
  · replace h := h.2 hc
    refine sk_iconst (v := (-1)) d_X_cube_27 (by decide) ?_
    refine sk_goto (tgt := 40) d_X_cube_28 (by decide) ?_
    refine sk_loc [] rfl ?_
    exact h
theorem s_X_cube_40 {Γ : sk_T} {mc ms : Nat} {I : sk_I} {J : sk_J} {Q : sk_Q} {u0 : Int32} (h : Q (.inl (some (.int u0))) sk_gg I J) : sk_W Γ m_X_cube mc ms 40 [] [.int u0] sk_gg I J 0 0 Q := by
  exact sk_ireturn d_X_cube_40 rfl (Nat.zero_le _) (Nat.zero_le _) h
theorem s_X_log_0 {Γ : sk_T} {mc ms : Nat} {I : sk_I} {J : sk_J} {Q : sk_Q} {x1 : Int32} {x2 : Int32} (h : (sk_S Γ m_X_requireVector 0 0 (.ref 0 :: [.int x1]) sk_gg I J (sk_Kv fun I' J' => sk_W Γ m_X_log mc ms 5 [(0, .ref 0), (1, .int x1), (2, .int x2)] [] sk_gg I' J' 0 0 Q)) ∨ ((1 ≤ mc ∧ 6 ≤ ms) ∧ sk_S Γ m_X_requireVector 1 6 (.ref 0 :: [.int x1]) sk_gg I J (sk_Kx fun E I' J' => Q (.inr E) sk_gg I' J'))) : sk_W Γ m_X_log mc ms 0 [(0, .ref 0), (1, .int x1), (2, .int x2)] [] sk_gg I J 0 0 Q := by
  refine sk_aload_n (j := 0) d_X_log_0 rfl rfl ?_
  refine sk_iload_n (j := 1) d_X_log_1 rfl rfl ?_
  rcases h with h | ⟨hm, h⟩
  · exact q_callVv (S := []) (as := [.int x1]) d_X_log_2 lk_X_140 sh_0 ⟨_, rfl⟩ rfl ⟨by decide, by decide⟩ (Nat.le_of_ble_eq_true rfl) rfl (Nat.zero_le _) (Nat.zero_le _) h
  · exact q_callVx (S := []) (as := [.int x1]) d_X_log_2 lk_X_140 sh_0 ⟨_, rfl⟩ rfl ⟨by decide, by decide⟩ (Nat.le_of_ble_eq_true rfl) rfl (by omega) (sk_Smono h (fun r g I J hq => by obtain ⟨E, rfl, rfl, hq⟩ := hq; exact ⟨E, rfl, rfl, sk_xout rfl (by omega) (by omega) hq⟩))
theorem s_X_log_5 {Γ : sk_T} {mc ms : Nat} {I : sk_I} {J : sk_J} {Q : sk_Q} {x1 : Int32} {x2 : Int32} (h : (x2 < 0 → (1 ≤ mc ∧ 6 ≤ ms) ∧ Q (.inr "java/lang/IllegalArgumentException") sk_gg I J) ∧ (¬ x2 < 0 → (x2 < 4096 → ((I 38 3) < 16 → sk_S Γ m_G_add 0 0 (.ref 38 :: [.int x1, .int x2]) sk_gg I J (sk_Ki fun v' I' J' => sk_W Γ m_X_log mc ms 57 [] [.int v'] sk_gg I' J' 0 0 Q)) ∧ (¬ (I 38 3) < 16 → (1 ≤ mc ∧ 6 ≤ ms) ∧ Q (.inr "java/lang/IllegalStateException") sk_gg I J)) ∧ (¬ x2 < 4096 → (1 ≤ mc ∧ 6 ≤ ms) ∧ Q (.inr "java/lang/IllegalArgumentException") sk_gg I J))) : sk_W Γ m_X_log mc ms 5 [(0, .ref 0), (1, .int x1), (2, .int x2)] [] sk_gg I J 0 0 Q := by
  refine sk_iload_n (j := 2) d_X_log_5 rfl rfl ?_
  refine sk_if_lt (tgt := 16) d_X_log_6 (by decide) (fun hc => ?_) (fun hc => ?_)
  · replace h := h.1 hc
    exact q_throw d_X_log_16 d_X_log_19 d_X_log_20 d_X_log_22 d_X_log_25 rfl th_79_210_83 rfl ⟨by decide, by decide⟩ (Nat.le_of_ble_eq_true rfl) (by omega) h.2
  · replace h := h.2 hc
    refine sk_iload_n (j := 2) d_X_log_9 rfl rfl ?_
    refine sk_sipush (v := 4096) d_X_log_10 (by decide) ?_
    refine sk_icmp_lt (tgt := 26) d_X_log_13 (by decide) (fun hc => ?_) (fun hc => ?_)
    · replace h := h.1 hc
      refine sk_aload_n (j := 0) d_X_log_26 rfl rfl ?_
      refine q_getR d_X_log_27 fg_X_53 sh_0 rr_0_5 ?_
      refine q_getI d_X_log_30 fg_X_212 sh_38 ?_
      refine sk_bipush (v := 16) d_X_log_33 (by decide) ?_
      refine sk_icmp_lt (tgt := 48) d_X_log_35 (by decide) (fun hc => ?_) (fun hc => ?_)
      · replace h := h.1 hc
        refine sk_aload_n (j := 0) d_X_log_48 rfl rfl ?_
        refine q_getR d_X_log_49 fg_X_53 sh_0 rr_0_5 ?_
        refine sk_iload_n (j := 1) d_X_log_52 rfl rfl ?_
        refine sk_iload_n (j := 2) d_X_log_53 rfl rfl ?_
        refine sk_loc [] rfl ?_
        exact q_callVi (S := []) (as := [.int x1, .int x2]) d_X_log_54 lk_X_217 sh_38 ⟨_, rfl⟩ rfl ⟨by decide, by decide⟩ (Nat.le_of_ble_eq_true rfl) rfl (Nat.zero_le _) (Nat.zero_le _) h
      · replace h := h.2 hc
        exact q_throw d_X_log_38 d_X_log_41 d_X_log_42 d_X_log_44 d_X_log_47 rfl th_68_215_72 rfl ⟨by decide, by decide⟩ (Nat.le_of_ble_eq_true rfl) (by omega) h.2
    · replace h := h.2 hc
      exact q_throw d_X_log_16 d_X_log_19 d_X_log_20 d_X_log_22 d_X_log_25 rfl th_79_210_83 rfl ⟨by decide, by decide⟩ (Nat.le_of_ble_eq_true rfl) (by omega) h.2
theorem s_X_log_57 {Γ : sk_T} {mc ms : Nat} {I : sk_I} {J : sk_J} {Q : sk_Q} {u0 : Int32} (h : Q (.inl (some (.int u0))) sk_gg I J) : sk_W Γ m_X_log mc ms 57 [] [.int u0] sk_gg I J 0 0 Q := by
  exact sk_ireturn d_X_log_57 rfl (Nat.zero_le _) (Nat.zero_le _) h
